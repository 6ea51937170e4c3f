/-! kinds; packets; Coder.encode -/
theorem he_isData {d : Nat} {M : sm_M} {k : Nat} (hk : k < 2 ^ 31) : sm_Run d 24 0 (sm_ent 24 [.inl (nI k)]) [] M (fun v M' => v = some (.inl (bI (decide (k = 3 ∨ k = 11)))) ∧ M' = M) := by
  refine bb_24_0 ⟨fun hc => ⟨?_, rfl⟩, fun h1 => ⟨fun hc => ⟨?_, rfl⟩, fun hc => ⟨?_, rfl⟩⟩⟩
  · rw [show (3 : Int32) = nI 3 from rfl, nI_eq hk (by decide)] at hc; subst hc; rfl
  · rw [show (3 : Int32) = nI 3 from rfl, nI_eq hk (by decide)] at h1
    rw [show (11 : Int32) = nI 11 from rfl, nI_eq hk (by decide)] at hc
    rw [decide_eq_false (by omega)]; rfl
  · rw [Decidable.not_not, show (11 : Int32) = nI 11 from rfl, nI_eq hk (by decide)] at hc; subst hc; rfl
theorem he_isHand {d : Nat} {M : sm_M} {k : Nat} (hk : k < 2 ^ 31) : sm_Run d 26 0 (sm_ent 26 [.inl (nI k)]) [] M (fun v M' => v = some (.inl (bI (decide (k = 2 ∨ k = 10 ∨ k = 14)))) ∧ M' = M) := by
  refine bb_26_0 ⟨fun hc => ⟨?_, rfl⟩, fun h1 => ⟨fun hc => ⟨?_, rfl⟩, fun h2 => ⟨fun hc => ⟨?_, rfl⟩, fun hc => ⟨?_, rfl⟩⟩⟩⟩
  · rw [show (2 : Int32) = nI 2 from rfl, nI_eq hk (by decide)] at hc; subst hc; rfl
  · rw [show (10 : Int32) = nI 10 from rfl, nI_eq hk (by decide)] at hc; subst hc; rfl
  · rw [show (2 : Int32) = nI 2 from rfl, nI_eq hk (by decide)] at h1
    rw [show (10 : Int32) = nI 10 from rfl, nI_eq hk (by decide)] at h2
    rw [show (14 : Int32) = nI 14 from rfl, nI_eq hk (by decide)] at hc
    rw [decide_eq_false (by omega)]; rfl
  · rw [Decidable.not_not, show (14 : Int32) = nI 14 from rfl, nI_eq hk (by decide)] at hc; subst hc; rfl
/-- a packet: its cells, kind, number, bytes -/
def pa_C (M : sm_M) (p pb k n : Nat) (l : List Nat) : Prop := sm_K M p = 24 ∧ sm_R M p 3 = some pb ∧ sm_K M pb = 20 ∧ sm_L M pb = 64 ∧ sm_I M p 1 = nI k ∧ sm_I M p 2 = nI n ∧ sm_I M p 4 = nI l.length ∧ l.length ≤ 64 ∧ k < 16 ∧ n < 2048 ∧ ∀ i, i < l.length → l.getD i 0 < 256 ∧ sm_I M pb i = nI (l.getD i 0)
abbrev co_TT (a bA lA : Nat) : Nat → Nat → Prop := fun b _ => b = a ∨ b = bA ∨ b = lA
theorem pa_C_ch {M M' : sm_M} {a bA lA p pb k n : Nat} {l : List Nat} (hS : co_S M a bA lA) (h : pa_C M p pb k n l) (hC : sm_Ch (co_TT a bA lA) M M') : pa_C M' p pb k n l := by
  obtain ⟨h1, h2, h3, h4, h5, h6, h7⟩ := hS
  obtain ⟨p1, p2, p3, p4, p5, p6, p7, p8, p9, p10, p11⟩ := h
  obtain ⟨c1, c2, c3, -, -, -, c7⟩ := hC
  have n1 : ¬ (p = a ∨ p = bA ∨ p = lA) := by rintro (rfl | rfl | rfl) <;> omega
  have n2 : ¬ (pb = a ∨ pb = bA ∨ pb = lA) := by rintro (rfl | rfl | rfl) <;> omega
  refine ⟨by rw [c1]; exact p1, by rw [c3]; exact p2, by rw [c1]; exact p3, by rw [c2]; exact p4, by rw [c7 p 1 n1]; exact p5, by rw [c7 p 2 n1]; exact p6, by rw [c7 p 4 n1]; exact p7, p8, p9, p10, fun i hi => ⟨(p11 i hi).1, by rw [c7 pb i n2]; exact (p11 i hi).2⟩⟩
theorem pa_at {d : Nat} {M : sm_M} {p pb k n i : Nat} {l : List Nat} (h : pa_C M p pb k n l) (hi : i < 2 ^ 31) : sm_Run d 107 0 (sm_ent 107 [.inr (some p), .inl (nI i)]) [] M (fun v M' => v = some (.inl (nI (l.getD i 0))) ∧ M' = M) := by
  obtain ⟨p1, p2, p3, p4, p5, p6, p7, p8, p9, p10, p11⟩ := h
  refine bb_107_0 ⟨fun hc => absurd hc (nI_pos hi), fun _ => ⟨p1, fun hc => ⟨?_, rfl⟩, fun hc => ⟨pb, p2, by unfold sm_iA; rw [p3]; decide, ?_, ?_, rfl⟩⟩⟩
  · rw [p7, nI_leI (by omega) hi] at hc
    rw [List.getD_eq_getElem?_getD, List.getElem?_eq_none hc]; rfl
  · rw [p7, nI_leI (by omega) hi] at hc
    unfold sm_in_; rw [nI_toInt hi, p4]; omega
  · rw [p7, nI_leI (by omega) hi] at hc
    rw [nI_clamp hi, (p11 i (by omega)).2]
theorem co_L_T {M M' : sm_M} {a bA lA : Nat} {v : List Int32} (hS : co_S M a bA lA) (hL : co_L M a lA v) (hC : sm_Ch (co_T a bA) M M') : co_L M' a lA v := by
  obtain ⟨h1, h2, h3, h4, h5, h6, h7⟩ := hS
  obtain ⟨g1, g2, g3⟩ := hL
  have n1 : a ≠ bA := by rintro rfl; omega
  have n2 : lA ≠ bA := by rintro rfl; omega
  have n3 : lA ≠ a := by rintro rfl; omega
  have hc := hC.2.2.2.2.2.2
  refine ⟨?_, g2, fun i hi => ?_⟩
  · rw [hc a 3 (by rintro (⟨-, h⟩ | h); exact absurd h (by decide); exact n1 h)]; exact g1
  · rw [hc lA i (by rintro (⟨h, -⟩ | h); exact n3 h; exact n2 h)]; exact g3 i hi
theorem ch_T {M M' : sm_M} {a bA lA : Nat} (h : sm_Ch (co_T a bA) M M') : sm_Ch (co_TT a bA lA) M M' := ch_mo h (fun b k q => by rcases q with ⟨q, -⟩ | q; exact Or.inl q; exact Or.inr (Or.inl q))
theorem ch_TL {M M' : sm_M} {a bA lA : Nat} (h : sm_Ch (co_TL a lA) M M') : sm_Ch (co_TT a bA lA) M M' := ch_mo h (fun b k q => by rcases q with ⟨q, -⟩ | q; exact Or.inl q; exact Or.inr (Or.inr q))
def pk_dat (l : List Nat) : List Bool := l.flatMap (fun x => nuB x 8)
theorem pk_dat_len (l : List Nat) : (pk_dat l).length = 8 * l.length := by
  induction l with
  | nil => rfl
  | cons x l ih => simp only [pk_dat, List.flatMap_cons, List.length_append, nuB_len, List.length_cons] at ih ⊢; omega
theorem pk_dat_s {l : List Nat} {i : Nat} (h : i < l.length) : pk_dat (l.take (i + 1)) = pk_dat (l.take i) ++ nuB (l.getD i 0) 8 := by
  have e : l.take (i + 1) = l.take i ++ [l.getD i 0] := by
    rw [List.take_add_one, List.getElem?_eq_getElem h, List.getD_eq_getElem?_getD, List.getElem?_eq_getElem h]; rfl
  rw [e]
  simp [pk_dat]
def pk_head (k : Nat) : List Bool := nuB 128 8 ++ nuB (k + 16 * (15 - k)) 8
def pk_wck (w : Nat) (d : List Bool) : List Bool := d ++ (cr_b (cr_F w (cr_poly w) (2 ^ w - 1) d) w).map (fun b => !b)
/-- the bits of a packet -/
def pk_bits (k n : Nat) (l : List Nat) : List Bool := pk_head k ++ (if k = 3 ∨ k = 11 then pk_wck 16 (pk_dat l) else if k = 2 ∨ k = 10 ∨ k = 14 then [] else pk_wck 5 (nuB n 11))
theorem pk_head_len (k : Nat) : (pk_head k).length = 16 := by simp [pk_head, nuB_len]
theorem pu_st_len : ∀ (l : List Bool) (o : Nat), o ≤ 5 → 6 * (pu_st o l).length ≤ 7 * l.length + o
  | [], o, _ => by simp [pu_st]
  | false :: r, o, h => by
    have := pu_st_len r 0 (by omega)
    rw [pu_st_f]; simp only [List.length_cons]; omega
  | true :: r, o, h => by
    by_cases h5 : o = 5
    · subst h5
      have := pu_st_len r 0 (by omega)
      rw [pu_st_t5]; simp only [List.length_cons]; omega
    · have := pu_st_len r (o + 1) (by omega)
      rw [pu_st_t h5]; simp only [List.length_cons]; omega
theorem en_loop {d : Nat} {a bA lA p pb k n : Nat} {l : List Nat} {h0 : List Bool} (hh : h0.length = 16) : ∀ (j i : Nat) (M : sm_M), i + j = l.length → co_S M a bA lA → co_B M a bA (h0 ++ pk_dat (l.take i)) → co_L M a lA [] → pa_C M p pb k n l →
    sm_Run (d + 3) 38 52 [some (.inr (some a)), some (.inr (some p)), some (.inl (nI i))] [] M (fun w M' => w = none ∧ co_L M' a lA (co_lev true 0 (h0 ++ pk_wck 16 (pk_dat l))) ∧ sm_Ch (co_TT a bA lA) M M') := by
  intro j
  induction j with
  | zero =>
    intro i M hi hS hB hL hp
    obtain rfl : i = l.length := by omega
    have h8 := hp.2.2.2.2.2.2.2.1
    have h7 := hp.2.2.2.2.2.2.1
    rw [List.take_length] at hB
    have hlen : (h0 ++ pk_dat l).length = 16 + 8 * l.length := by rw [List.length_append, hh, pk_dat_len]
    refine bb_38_52 ⟨p, rfl, hp.1, fun _ => ⟨hS.1, ?_⟩, fun q => ?_⟩
    · refine ru_mono (co_addCheck (w := 16) hS hB (Or.inr rfl) (by omega) (by omega)) (fun w M1 hw => ?_)
      obtain ⟨rfl, hB1, hC1⟩ := hw
      have hS1 := co_S_ch hS hC1
      refine bb_38_83 ⟨hS1.1, ?_⟩
      rw [show (h0 ++ pk_dat l).drop 16 = pk_dat l by rw [← hh, List.drop_left], List.append_assoc] at hB1
      refine ru_mono (co_layLevels hS1 hB1 (co_L_T hS hL hC1) ?_) (fun w M2 hw => ?_)
      · have := pu_st_len (h0 ++ pk_wck 16 (pk_dat l)) 0 (by omega)
        have e : (h0 ++ pk_wck 16 (pk_dat l)).length = 32 + 8 * l.length := by simp [pk_wck, hh, pk_dat_len, cr_b_len]; omega
        show (pu_st 0 (h0 ++ pk_wck 16 (pk_dat l))).length + 3 ≤ 660
        omega
      · obtain ⟨rfl, hL2, hC2⟩ := hw
        exact bb_38_115 ⟨rfl, hL2, ch_tr (ch_T hC1) (ch_TL hC2)⟩
    · rw [h7] at q
      exact absurd (nI_le (Nat.le_refl _) (by omega)) q
  | succ j ih =>
    intro i M hi hS hB hL hp
    have h8 := hp.2.2.2.2.2.2.2.1
    have h7 := hp.2.2.2.2.2.2.1
    have hb := (hp.2.2.2.2.2.2.2.2.2.2 i (by omega)).1
    refine bb_38_52 ⟨p, rfl, hp.1, fun q => ?_, fun _ => ?_⟩
    · rw [h7, nI_leI (by omega) (by omega)] at q; omega
    · refine ru_mono (pa_at hp (by omega)) (fun w M1 hw => ?_)
      obtain ⟨rfl, rfl⟩ := hw
      refine bb_38_66 ⟨hS.1, ?_⟩
      refine ru_mono (co_addNumber (w := 8) hS hB (by omega) (by decide) (by rw [List.length_append, hh, pk_dat_len, List.length_take]; omega)) (fun w M2 hw => ?_)
      obtain ⟨rfl, hB2, hC2⟩ := hw
      refine bb_38_71 ?_
      rw [nI_1]
      refine ru_mono (ih (i + 1) M2 (by omega) (co_S_ch hS hC2) (by rw [pk_dat_s (by omega), ← List.append_assoc]; exact hB2) (co_L_T hS hL hC2) (pa_C_ch hS hp (ch_T hC2))) (fun w M3 hw => ?_)
      exact ⟨hw.1, hw.2.1, ch_tr (ch_T hC2) hw.2.2⟩
