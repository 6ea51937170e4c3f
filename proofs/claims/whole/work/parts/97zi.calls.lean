/-! Calls, both sides: frames, look, transfer. -/
section IM_
variable {a : Nat} {ra : Nat → Nat} {R R' : Nat → Nat → Int32} {M : sm_M} {D : Nat} {P Pc P1 X Z : pP} {d k t i n m : Nat} {x x1 x2 x3 x4 x5 : Int32}
/-- what holds between calls, both sides -/
def CO (P : pP) (R : Nat → Nat → Int32) : Prop := FO P R ∧ s_ P 228 0 ≤ 161 * s_ P 126 0 ∧ DR P ∧ LC P ∧ LV P ∧ I5 P ∧ RB P
def CQ (a : Nat) (ra : Nat → Nat) (P : pP) (p : Option Int32 × pP) : Option sm_V → sm_M → Prop := fun v M' => v = p.1.map Sum.inl ∧ ∃ R', RM a ra R' M' ∧ CO p.2 R' ∧ s_ p.2 126 0 ≤ s_ P 126 0 + 200
theorem cq_same {v : Option Int32} (h : RM a ra R M) (hC : CO P R) (w : Option sm_V) (hw : w = v.map Sum.inl) : CQ a ra P (v, P) w M := ⟨hw, R, h, hC, Nat.le_add_right _ _⟩
theorem frs_ok (hI : INV P) (hW : WX P) (hE : EXO P) (hS : s_ P 228 0 ≤ 161 * s_ P 126 0) (h126 : s_ P 126 0 ≤ 150000) (h186 : ∀ i, s_ P 186 i ≤ s_ P 126 0) : ∀ n, n ≤ 200 → INV (p_frs P n) ∧ WX (p_frs P n) ∧ EXO (p_frs P n) ∧ s_ (p_frs P n) 126 0 = s_ P 126 0 + n ∧ s_ (p_frs P n) 228 0 ≤ s_ P 228 0 + 161 * n ∧ s_ P 228 0 ≤ s_ (p_frs P n) 228 0 ∧ s_ (p_frs P n) 0 0 = s_ P 0 0 ∧ ∀ i, s_ (p_frs P n) 186 i ≤ s_ (p_frs P n) 126 0
  | 0, _ => ⟨hI, hW, hE, rfl, Nat.le_refl _, Nat.le_refl _, rfl, h186⟩
  | n + 1, hn => by
    obtain ⟨i1, i2, i3, i4, i5, i6, i7, i8⟩ := frs_ok hI hW hE hS h126 h186 n (by omega)
    obtain ⟨-, f2, f3, f4, f5, f6, f7, f8, f9⟩ := fr_ok i1 i2 i3 (by omega) (by omega) i8
    refine ⟨f2, f3, f4, ?_, ?_, ?_, ?_, f9⟩
    · show s_ (p_frame (p_frs P n)) 126 0 = _
      omega
    · show s_ (p_frame (p_frs P n)) 228 0 ≤ _
      omega
    · show _ ≤ s_ (p_frame (p_frs P n)) 228 0
      omega
    · show s_ (p_frame (p_frs P n)) 0 0 = _
      rw [f7 0 0 (by decide), i7]
theorem frs_fm (hI : INV P) (hW : WX P) (hE : EXO P) (hS : s_ P 228 0 ≤ 161 * s_ P 126 0) (h126 : s_ P 126 0 ≤ 150000) (h186 : ∀ i, s_ P 186 i ≤ s_ P 126 0) (hn : n < 200) : FmOk (p_frs P n) := by
  obtain ⟨i1, i2, i3, i4, i5, i6, i7, i8⟩ := frs_ok hI hW hE hS h126 h186 n (by omega)
  exact (fr_ok i1 i2 i3 (by omega) (by omega) i8).1
theorem frs_dr (hD : DR P) (hI : INV P) (hW : WX P) (hE : EXO P) (hS : s_ P 228 0 ≤ 161 * s_ P 126 0) (h126 : s_ P 126 0 ≤ 150000) (h186 : ∀ i, s_ P 186 i ≤ s_ P 126 0) : ∀ n, n ≤ 200 → DR (p_frs P n)
  | 0, _ => hD
  | n + 1, hn => by
    obtain ⟨i1, i2, i3, i4, i5, i6, i7, i8⟩ := frs_ok hI hW hE hS h126 h186 n (by omega)
    exact dr_frame (frs_dr hD hI hW hE hS h126 h186 n (by omega)) i1 i2 i3 (by omega) (by omega) i8
theorem frs_rb (hD : RB P) (hI : INV P) (hW : WX P) (hE : EXO P) (hS : s_ P 228 0 ≤ 161 * s_ P 126 0) (h126 : s_ P 126 0 ≤ 150000) (h186 : ∀ i, s_ P 186 i ≤ s_ P 126 0) : ∀ n, n ≤ 200 → RB (p_frs P n)
  | 0, _ => hD
  | n + 1, hn => by
    obtain ⟨i1, i2, i3, i4, i5, i6, i7, i8⟩ := frs_ok hI hW hE hS h126 h186 n (by omega)
    exact rb_frame (frs_rb hD hI hW hE hS h126 h186 n (by omega)) i1 i2 i3 (by omega) (by omega) i8
theorem frs_lk (hI : INV P) (hW : WX P) (hE : EXO P) (hS : s_ P 228 0 ≤ 161 * s_ P 126 0) (h126 : s_ P 126 0 ≤ 150000) (h186 : ∀ i, s_ P 186 i ≤ s_ P 126 0) : ∀ n, n ≤ 200 → LK P (p_frs P n)
  | 0, _ => lk_rf
  | n + 1, hn => by
    obtain ⟨i1, i2, i3, i4, i5, i6, i7, i8⟩ := frs_ok hI hW hE hS h126 h186 n (by omega)
    exact lk_tr (frs_lk hI hW hE hS h126 h186 n (by omega)) (lk_frame i1 i2 i3 (by omega) (by omega) i8)
theorem frs_j5 (hI : INV P) (hW : WX P) (hE : EXO P) (hS : s_ P 228 0 ≤ 161 * s_ P 126 0) (h126 : s_ P 126 0 ≤ 150000) (h186 : ∀ i, s_ P 186 i ≤ s_ P 126 0) : ∀ n, n ≤ 200 → J5 P (p_frs P n)
  | 0, _ => j5_rf
  | n + 1, hn => by
    obtain ⟨i1, i2, i3, i4, i5, i6, i7, i8⟩ := frs_ok hI hW hE hS h126 h186 n (by omega)
    exact j5_tr (frs_j5 hI hW hE hS h126 h186 n (by omega)) (j5_frame i1 i2 i3 (by omega) (by omega) i8)
/-- frames -/
theorem r_frames (h : RM a ra R M) (hC : CO P R) (h126 : s_ P 126 0 ≤ 150000) : sm_Run (D + 9) 199 0 (sm_ent 199 [.inr (some a), .inl x]) [] M (CQ a ra P (p_frames P x)) := by
  obtain ⟨hF, hS, hD, hL, hV, h5, hB⟩ := id hC
  obtain ⟨f1, f2, f3, f4, f5⟩ := id hF
  have ok := frs_ok f2 f1.1 f3 hS h126 f5
  have dr := frs_dr hD f2 f1.1 f3 hS h126 f5
  have lk := frs_lk f2 f1.1 f3 hS h126 f5
  have rb := frs_rb hB f2 f1.1 f3 hS h126 f5
  have j5 := frs_j5 f2 f1.1 f3 hS h126 f5
  unfold p_frames
  refine bb_199_0 ⟨fun q => ?_, fun q => ⟨fun q1 => ⟨h.1, ?_⟩, fun q1 => ?_⟩⟩
  · rw [if_pos (Or.inl q)]; exact cq_same h hC _ rfl
  · rw [if_neg (by rintro (c | c); exact q c; exact c q1)]
    obtain ⟨n, hn, rfl⟩ := nI_of (nlt_nn li_1 (by decide) q)
    rw [li_200, nI_leI hn (by decide)] at q1
    rw [nI_clamp hn]
    have r32 : R 32 0 = nI (s_ P 228 0) := f1.2.2.1.2.2.1
    rw [rS_32 h, r32]
    have key : ∀ (m i : Nat) (R : Nat → Nat → Int32) (M : sm_M), i + m = n → RM a ra R M → FO (p_frs P i) R → sm_Run (D + 9) 199 21 [some (.inr (some a)), some (.inl (nI n)), some (.inl (nI (s_ P 228 0))), some (.inl (nI i))] [] M (CQ a ra P (some (nI (s_ (p_frs P n) 228 0 - s_ P 228 0)), p_frs P n)) := by
      intro m
      induction m with
      | zero =>
        intro i R M hi h1 hf
        obtain rfl : i = n := by omega
        obtain ⟨o1, o2, o3, o4, o5, o6, o7, o8⟩ := ok i (by omega)
        refine bb_199_21 ⟨fun _ => ⟨h1.1, ?_⟩, fun q2 => absurd (nI_le (Nat.le_refl _) hn) q2⟩
        have r' : R 32 0 = nI (s_ (p_frs P i) 228 0) := hf.1.2.2.1.2.2.1
        rw [rS_32 h1, r', pk_sub o6]
        exact ⟨rfl, R, h1, ⟨hf, by show s_ (p_frs P i) 228 0 ≤ 161 * s_ (p_frs P i) 126 0; omega, dr i (by omega), lc_lk hL (lk i (by omega)), lv_lk hV (lk i (by omega)), i5_j5 h5 (j5 i (by omega)), rb i (by omega)⟩, by show s_ (p_frs P i) 126 0 ≤ _; omega⟩
      | succ m ih =>
        intro i R M hi h1 hf
        obtain ⟨o1, o2, o3, o4, o5, o6, o7, o8⟩ := ok i (by omega)
        refine bb_199_21 ⟨fun q2 => ?_, fun _ => ⟨h1.1, ?_⟩⟩
        · rw [nI_leI hn (by omega)] at q2; omega
        refine ru_mono (r_frame (D := D) h1 hf (by omega) (by omega)) ?_
        rintro v M2 ⟨rfl, R2, k1, k2⟩
        refine bb_199_30 ?_
        rw [nI_1]
        exact ih (i + 1) R2 M2 (by omega) k1 k2
    exact key n 0 R M (by omega) h hF
  · rw [if_pos (Or.inr q1)]; exact cq_same h hC _ rfl
/-- look -/
theorem r_look (h : RM a ra R M) (hC : CO P R) : sm_Run (D + 1) 203 0 (sm_ent 203 [.inr (some a), .inl x]) [] M (fun v M' => v = some (.inl (p_look P x)) ∧ M = M') := by
  obtain ⟨⟨f1, f2, f3, -, -⟩, -⟩ := id hC
  obtain ⟨w1, w2, w3, w4, hH⟩ := id f1
  have hx := exo_ex f3
  have r56 : R 56 0 = nI (s_ P 125 0) := hH.1.2.1
  have r70 : R 70 0 = nI (s_ P 122 0) := hH.1.2.2.1
  have r3 : R 3 0 = nI (b_ P 1 0).length := hH.2.2.2.1
  have r32 : R 32 0 = nI (s_ P 228 0) := w3.2.2.1
  have r33 : R 33 0 = nI (s_ P 227 0) := w3.2.1.2.1
  have b122 := ex_122 hx
  have key : ∀ (m i : Nat), i + m = s_ P 122 0 → sm_Run (D + 1) 203 59 [some (.inr (some a)), some (.inl 3), some (.inl (nI (cntN (s_ P 211) i))), some (.inl (nI i))] [] M (fun v M' => v = some (.inl (p_look P 3)) ∧ M = M') := by
    intro m
    induction m with
    | zero =>
      intro i hi
      obtain rfl : i = s_ P 122 0 := by omega
      refine bb_203_59 ⟨h.1, fun _ => ⟨?_, rfl⟩, fun q => ?_⟩
      · have := f2.2.2.2.2.2.1
        rw [← this]; rfl
      · rw [rS_70 h, r70] at q
        exact absurd (nI_le (Nat.le_refl _) (by omega)) q
    | succ m ih =>
      intro i hi
      have i73 : sm_in_ M (ra 73) (nI i) := of_eq_true (rN_73 h (by omega))
      have cl : (nI i).toNatClampNeg = i := nI_clamp (by omega)
      have r73 : R 73 i = nI (s_ P 211 i) := (hH.2.2.1 i (by omega)).2.2.1
      have b211 := ex_b hx 211 i
      have e : (nI (s_ P 211 i) = 0) = (s_ P 211 i = 0) := propext (by rw [li_0, nI_eq b211 (by decide)])
      refine bb_203_59 ⟨h.1, fun q => ?_, fun _ => ⟨ra 73, rd_r73 h, of_eq_true (rA_73 h), i73, ?_⟩⟩
      · rw [rS_70 h, r70, nI_leI (by omega) (by omega)] at q; omega
      rw [cl, rR_73 h, r73, e, nI_1]
      have s := ih (i + 1) (by omega)
      refine ⟨fun q => ?_, fun q => ?_⟩
      · have z : cntN (s_ P 211) (i + 1) = cntN (s_ P 211) i := by show cntN (s_ P 211) i + _ = _; rw [if_neg q]; rfl
        rw [li_0, nI_add, Nat.add_zero, ← z]; exact s
      · have z : cntN (s_ P 211) (i + 1) = cntN (s_ P 211) i + 1 := by show cntN (s_ P 211) i + _ = _; rw [if_pos (Decidable.not_not.mp q)]
        rw [li_1, nI_add, ← z]; exact s
  refine bb_203_0 ⟨fun q => ⟨h.1, ?_, rfl⟩, fun q => ⟨h.1, ?_, rfl⟩, fun q => ⟨h.1, ?_, rfl⟩, fun q => ?_, fun q => ⟨h.1, ?_, rfl⟩, fun q => ⟨h.1, ?_, rfl⟩, fun q0 q1 q2 q3 q4 q5 => ⟨?_, rfl⟩⟩
  · subst q; rw [rS_56 h, r56]; rfl
  · subst q; rw [rS_32 h, r32]; rfl
  · subst q; rw [rS_70 h, r70]; rfl
  · subst q; exact key (s_ P 122 0) 0 (by omega)
  · subst q; rw [rS_33 h, r33]; rfl
  · subst q; rw [rS_3 h, r3]; rfl
  · unfold p_look; rw [if_neg q0, if_neg q1, if_neg q2, if_neg q3, if_neg q4, if_neg q5]
end IM_
