/-- levels, J true: for a 0 the other one, for a 1 the same one -/
def lv_s (now : Bool) : List Bool → List Bool
  | [] => []
  | b :: r => (bif b then now else !now) :: lv_s (bif b then now else !now) r
def co_lev (now : Bool) (o : Nat) (l : List Bool) : List Int32 := (lv_s now (pu_st o l)).map bI ++ [2, 2, 1]
theorem co_other {d : Nat} {M : sm_M} {now : Bool} : sm_Run d 45 0 (sm_ent 45 [.inl (bI now)]) [] M (fun v M' => v = some (.inl (bI (!now))) ∧ M' = M) := by
  refine bb_45_0 ⟨fun hc => ?_, fun hc => ?_⟩
  · cases now
    · exact ⟨rfl, rfl⟩
    · exact absurd rfl hc
  · cases now
    · exact absurd (by decide) hc
    · exact ⟨rfl, rfl⟩
theorem co_B_TL {M M' : sm_M} {a bA lA : Nat} {l : List Bool} (hS : co_S M a bA lA) (hB : co_B M a bA l) (hC : sm_Ch (co_TL a lA) M M') : co_B M' a bA l := by
  obtain ⟨h1, h2, h3, h4, h5, h6, h7⟩ := hS
  obtain ⟨g1, g2, g3⟩ := hB
  have n1 : a ≠ lA := by rintro rfl; omega
  have n2 : bA ≠ lA := by rintro rfl; omega
  have n3 : bA ≠ a := by rintro rfl; omega
  have hc := hC.2.2.2.2.2.2
  refine ⟨?_, g2, fun i hi => ?_⟩
  · rw [hc a 1 (by rintro (⟨-, h⟩ | h); exact absurd h (by decide); exact n1 h)]; exact g1
  · rw [hc bA i (by rintro (⟨h, -⟩ | h); exact n3 h; exact n2 h)]; exact g3 i hi
theorem drop_cons {l : List Bool} {i : Nat} (h : i < l.length) : l.drop i = l.getD i false :: l.drop (i + 1) := by
  rw [List.drop_eq_getElem_cons h]
  congr 1
  rw [List.getD_eq_getElem?_getD, List.getElem?_eq_getElem h]; rfl
theorem co_lay_loop {d : Nat} {a bA lA : Nat} {l : List Bool} : ∀ (k i o : Nat) (now : Bool) (M : sm_M) (v : List Int32), i + k = l.length → o ≤ 5 → co_S M a bA lA → co_B M a bA l → co_L M a lA v → v.length + (pu_st o (l.drop i)).length + 3 ≤ 660 →
    sm_Run (d + 1) 44 6 [some (.inr (some a)), some (.inl (bI now)), some (.inl (nI o)), some (.inl (nI i))] [] M (fun w M' => w = none ∧ co_L M' a lA (v ++ co_lev now o (l.drop i)) ∧ sm_Ch (co_TL a lA) M M') := by
  intro k
  induction k with
  | zero =>
    intro i o now M v hi ho hS hB hL hv
    obtain rfl : i = l.length := by omega
    have e0 : l.drop l.length = [] := List.drop_length
    rw [e0] at hv ⊢
    have hv : v.length + 0 + 3 ≤ 660 := hv
    have hg := hB.2.1
    refine bb_44_6 ⟨hS.1, fun _ => ?_, fun q => ?_⟩
    · refine ru_mono (co_addLevel hS hL (by omega)) (fun w M1 hw => ?_)
      obtain ⟨rfl, hL1, hC1⟩ := hw
      have hS1 := co_S_ch hS hC1
      refine bb_44_85 ⟨hS1.1, ?_⟩
      refine ru_mono (co_addLevel hS1 hL1 (by rw [List.length_append]; show v.length + 1 < 660; omega)) (fun w M2 hw => ?_)
      obtain ⟨rfl, hL2, hC2⟩ := hw
      have hS2 := co_S_ch hS1 hC2
      refine bb_44_90 ⟨hS2.1, ?_⟩
      refine ru_mono (co_addLevel hS2 hL2 (by rw [List.length_append, List.length_append]; show v.length + 1 + 1 < 660; omega)) (fun w M3 hw => ?_)
      obtain ⟨rfl, hL3, hC3⟩ := hw
      refine bb_44_95 ⟨rfl, ?_, ch_tr (ch_tr hC1 hC2) hC3⟩
      rw [List.append_assoc, List.append_assoc] at hL3
      exact hL3
    · rw [hB.1] at q
      exact absurd (nI_le (Nat.le_refl _) (by omega)) q
  | succ k ih =>
    intro i o now M v hi ho hS hB hL hv
    have hlt : i < l.length := by omega
    have hg := hB.2.1
    have hbit := hB.2.2 i hlt
    have hin : sm_in_ M bA (nI i) := by unfold sm_in_; rw [nI_toInt (by omega), hS.2.2.2.1]; omega
    have hiA : sm_iA M bA := by unfold sm_iA; rw [hS.2.2.1]; decide
    have hcl : sm_I M bA (nI i).toNatClampNeg = bI (l.getD i false) := by rw [nI_clamp (by omega)]; exact hbit
    rw [drop_cons hlt] at hv ⊢
    refine bb_44_6 ⟨hS.1, fun q => ?_, fun _ => ⟨bA, hS.2.1, hiA, hin, ?_⟩⟩
    · rw [hB.1, nI_leI (by omega) (by omega)] at q; omega
    · cases hb : l.getD i false with
      | false =>
        rw [hcl, hb]
        rw [hb] at hcl hv
        have hv : v.length + ((pu_st 0 (l.drop (i + 1))).length + 1) + 3 ≤ 660 := hv
        refine ⟨fun _ => ?_, fun q => absurd (by decide) q⟩
        refine ru_mono co_other (fun w M1 hw => ?_)
        obtain ⟨rfl, rfl⟩ := hw
        refine bb_44_32 ⟨hS.1, bA, hS.2.1, hiA, hin, ?_⟩
        rw [hcl]
        refine ⟨fun _ => ?_, fun q => absurd (by decide) q⟩
        refine ru_mono (co_addLevel hS hL (by omega)) (fun w M1 hw => ?_)
        obtain ⟨rfl, hL1, hC1⟩ := hw
        refine bb_44_56 ⟨fun _ => ?_, fun q => absurd (by decide) q⟩
        rw [nI_1]
        refine ru_mono (ih (i + 1) 0 (!now) M1 _ (by omega) (by omega) (co_S_ch hS hC1) (co_B_TL hS hB hC1) hL1 (by rw [List.length_append]; show v.length + 1 + _ + 3 ≤ 660; omega)) (fun w M2 hw => ?_)
        refine ⟨hw.1, ?_, ch_tr hC1 hw.2.2⟩
        have h9 := hw.2.1
        rw [List.append_assoc] at h9
        exact h9
      | true =>
        rw [hcl, hb]
        rw [hb] at hcl hv
        refine ⟨fun q => absurd rfl q, fun _ => ⟨bA, hS.2.1, hiA, hin, ?_⟩⟩
        rw [hcl]
        refine ⟨fun q => absurd rfl q, fun _ => ?_⟩
        have hvl : v.length < 660 := by omega
        refine ru_mono (co_addLevel hS hL hvl) (fun w M1 hw => ?_)
        obtain ⟨rfl, hL1, hC1⟩ := hw
        have hS1 := co_S_ch hS hC1
        have hB1 := co_B_TL hS hB hC1
        by_cases h5 : o = 5
        · subst h5
          have hv : v.length + ((pu_st 0 (l.drop (i + 1))).length + 1 + 1) + 3 ≤ 660 := hv
          refine bb_44_56 ⟨fun q => absurd (by decide) q, fun _ => ?_⟩
          refine ru_mono co_other (fun w M2 hw => ?_)
          obtain ⟨rfl, rfl⟩ := hw
          refine bb_44_66 ⟨hS1.1, ?_⟩
          refine ru_mono (co_addLevel hS1 hL1 (by rw [List.length_append]; show v.length + 1 < 660; omega)) (fun w M2 hw => ?_)
          obtain ⟨rfl, hL2, hC2⟩ := hw
          refine bb_44_74 ?_
          rw [nI_1]
          refine ru_mono (ih (i + 1) 0 (!now) M2 _ (by omega) (by omega) (co_S_ch hS1 hC2) (co_B_TL hS1 hB1 hC2) hL2 (by rw [List.length_append, List.length_append]; show v.length + 1 + 1 + _ + 3 ≤ 660; omega)) (fun w M3 hw => ?_)
          refine ⟨hw.1, ?_, ch_tr (ch_tr hC1 hC2) hw.2.2⟩
          have h9 := hw.2.1
          rw [List.append_assoc, List.append_assoc] at h9
          exact h9
        · rw [pu_st_t h5] at hv
          have hv : v.length + ((pu_st (o + 1) (l.drop (i + 1))).length + 1) + 3 ≤ 660 := hv
          refine bb_44_56 ⟨fun _ => ?_, fun q => ?_⟩
          · rw [nI_1, nI_1]
            refine ru_mono (ih (i + 1) (o + 1) now M1 _ (by omega) (by omega) hS1 hB1 hL1 (by rw [List.length_append]; show v.length + 1 + _ + 3 ≤ 660; omega)) (fun w M2 hw => ?_)
            refine ⟨hw.1, ?_, ch_tr hC1 hw.2.2⟩
            have h9 := hw.2.1
            rw [List.append_assoc] at h9
            unfold co_lev
            rw [pu_st_t h5]
            exact h9
          · have q := Decidable.not_not.mp q
            rw [nI_1, show (6 : Int32) = nI 6 from rfl, nI_eq (by omega) (by decide)] at q
            omega
theorem co_layLevels {d : Nat} {M : sm_M} {a bA lA : Nat} {l : List Bool} (hS : co_S M a bA lA) (hB : co_B M a bA l) (hL : co_L M a lA []) (hv : (pu_st 0 l).length + 3 ≤ 660) :
    sm_Run (d + 1) 44 0 (sm_ent 44 [.inr (some a)]) [] M (fun w M' => w = none ∧ co_L M' a lA (co_lev true 0 l) ∧ sm_Ch (co_TL a lA) M M') := by
  refine bb_44_0 ?_
  exact co_lay_loop l.length 0 0 true M [] (by omega) (by omega) hS hB hL (by simpa using hv)
