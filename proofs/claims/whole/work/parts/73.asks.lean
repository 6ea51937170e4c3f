/-! The reference's device: requests. -/
section RU
variable {a : Nat} {ra : Nat → Nat} {R R0 : Nat → Nat → Int32} {M : sm_M} {D : Nat} {P : pP}
theorem r_scr {d v : Nat} {x2 x4 x5 : Int32} {l : List Nat} (hd : d < 6) (hl : l.length = 64) (hv : v ≤ 64) (a18 : ∀ j, j < 64 → R0 18 (64 * d + j) = nI (l.getD j 0)) : ∀ (m i : Nat) (M : sm_M), v ≤ i → i + m = 64 → ZS a ra R0 d ((l.drop v).take (i - v)) M → sm_Run (D + 1) 171 182 [some (.inr (some a)), some (.inl (nI d)), some (.inl x2), some (.inl (nI v)), some (.inl x4), some (.inl x5), some (.inl (nI i))] [] M (fun r M' => r = some (.inl (nI 1)) ∧ ZS a ra R0 d (l.drop v) M') := by
  intro m
  induction m with
  | zero =>
    intro i M hv hi h
    obtain rfl : i = 64 := by omega
    obtain ⟨R1, h1, e1⟩ := zs_r (f := 18) (i := 64) h (by decide)
    refine bb_171_182 ?_
    simp (disch := first | assumption | omega | decide) only [rd_r18 h1, rR_18 h1, rA_18 h1, rk_39 h1, Nat.le_refl, li_1, li_64, nI_add, pk_mul, nI_leI, nI_clamp, Option.some.injEq, exists_eq_left', false_implies, forall_const, true_and, and_true, not_true_eq_false]
    rw [List.take_of_length_le (by rw [List.length_drop]; omega)] at h
    exact h
  | succ m ih =>
    intro i M hv hi h
    obtain ⟨R1, h1, e1⟩ := zs_r (f := 18) (i := 64 * d + i) h (by decide)
    rw [a18 i (by omega)] at e1
    refine bb_171_182 ?_
    simp (disch := first | assumption | omega | decide) only [rd_r18 h1, rR_18 h1, rN_18 h1, rA_18 h1, rk_39 h1, e1, li_1, li_64, nI_add, pk_mul, nI_leI, nI_clamp, Option.some.injEq, exists_eq_left', true_and]
    refine ⟨fun q => by omega, fun _ => ?_⟩
    refine ru_mono (r_zPut h hd (by rw [List.length_take]; omega)) ?_
    rintro v' M1 ⟨rfl, h2⟩
    refine bb_171_206 ?_
    rw [nI_1]
    refine ih (i + 1) M1 (by omega) (by omega) ?_
    rw [show i + 1 - v = (i - v) + 1 by omega, take_sN (by rw [List.length_drop]; omega), dr_gd, show v + (i - v) = i by omega]
    exact h2
theorem rp_some {d : Nat} {o : Option (List Nat)} {l : List Nat} {M' : sm_M} (e : o = some l) (z : ZS a ra R d l M') : (some (.inl (nI 1)) : Option sm_V) = some (.inl (nI (if o.isSome then 1 else 0))) ∧ ZS a ra R d (o.getD []) M' := by
  subst e; exact ⟨rfl, z⟩
theorem rp_no' {d : Nat} {o : Option (List Nat)} {M' : sm_M} (e : o = none) (z : ZS a ra R d [] M') : (.inl (nI 0) : sm_V) = .inl (nI (if o.isSome then 1 else 0)) ∧ ZS a ra R d (o.getD []) M' := by
  subst e; exact ⟨rfl, z⟩
/-- WireBusModel.replies -/
theorem r_replies {d w v ix : Nat} (h : RM a ra R M) (hx : EX P) (hA : RelA P R d) (he : ∀ k, k < s_ P 86 d → RelE P R (6 * d + k)) (hd : d < 6) (h25 : R 25 d = nI 0) (h55 : ∀ i, i < 18 → R 55 i = nI (hd0.getD i 0)) (hw : w < 2 ^ 31) (hv : v < 2 ^ 31) (hix : ix < 2 ^ 31) : sm_Run (D + 2) 171 0 (sm_ent 171 [.inr (some a), .inl (nI d), .inl (nI w), .inl (nI v), .inl (nI ix)]) [] M (fun r M' => r = some (.inl (nI (if (p_tell P d w v ix).isSome then 1 else 0))) ∧ ZS a ra R d ((p_tell P d w v ix).getD []) M') := by
  obtain ⟨a4, a5, a6, a7, a8, a9, a19, a20, a18⟩ := hA
  have z := zs_0 h h25
  have h86 := ex_86 hx hd
  have b83 := ex_b hx 83 d
  have l28 := ex_28 hx hd
  have e114 : ∀ x5, (w = 32774 → v ≠ 256) → w ≠ 32768 → w ≠ 33280 → sm_Run (D + 2) 171 114 [some (.inr (some a)), some (.inl (nI d)), some (.inl (nI w)), some (.inl (nI v)), some (.inl (nI ix)), some (.inl x5), none] [] M (fun r M' => r = some (.inl (nI (if (p_tell P d w v ix).isSome then 1 else 0))) ∧ ZS a ra R d ((p_tell P d w v ix).getD []) M') := by
    intro x5 hq q1 q2
    have e136 : (w = 32774 → v ≠ 256 ∧ v ≠ 512) → sm_Run (D + 2) 171 136 [some (.inr (some a)), some (.inl (nI d)), some (.inl (nI w)), some (.inl (nI v)), some (.inl (nI ix)), some (.inl x5), none] [] M (fun r M' => r = some (.inl (nI (if (p_tell P d w v ix).isSome then 1 else 0))) ∧ ZS a ra R d ((p_tell P d w v ix).getD []) M') := by
      intro hq
      refine bb_171_136 ?_
      simp (disch := first | assumption | omega | decide) only [rd_r4 h, rR_4 h, rN_4 h, rA_4 h, rk_39 h, a4, li_0, li_1, li_3, li_64, li_32776, li_49153, nI_eq, nI_ltI, nI_clamp, Decidable.not_not, Option.some.injEq, exists_eq_left', true_and]
      refine ⟨fun q3 => ⟨fun q4 => ?_, fun q4 => ⟨fun q5 => ?_, fun q5 => ?_⟩⟩, fun q3 => ⟨fun q4 => ?_, fun q4 => ?_⟩⟩
      · refine rp_no' ?_ z
        unfold p_tell; rw [if_neg q1, if_neg q2, if_neg q3, if_neg q4]
        by_cases q6 : w = 32774
        · rw [if_pos q6, if_neg (hq q6).1, if_neg (hq q6).2]
        · rw [if_neg q6]
      · refine rp_no' ?_ z
        unfold p_tell; rw [if_neg q1, if_neg q2, if_neg q3, if_pos q4, if_neg (by omega), if_neg (by omega)]
      · refine ru_mono (r_scr (D := D + 1) hd l28 (by omega) a18 (64 - v) v M (Nat.le_refl _) (by omega) (by rw [Nat.sub_self]; exact z)) ?_
        rintro r M1 ⟨rfl, h1⟩
        refine rp_some ?_ h1
        unfold p_tell; rw [if_neg q1, if_neg q2, if_neg q3, if_pos q4, if_neg (by omega), if_pos (by omega)]
      · refine ru_mono (r_zPut z hd (show 0 < 99 by decide)) ?_
        rintro r M1 ⟨rfl, h1⟩
        refine bb_171_163 (rp_some ?_ h1)
        unfold p_tell; rw [if_neg q1, if_neg q2, if_pos q3, if_neg (by omega), if_neg q4]; rfl
      · refine ru_mono (r_zPut z hd (show 0 < 99 by decide)) ?_
        rintro r M1 ⟨rfl, h1⟩
        refine bb_171_163 (rp_some ?_ h1)
        unfold p_tell; rw [if_neg q1, if_neg q2, if_pos q3, if_neg (by omega), if_pos q4]; rfl
    refine bb_171_114 ?_
    simp (disch := first | assumption | omega | decide) only [rk_39 h, li_512, li_32774, nI_eq, Decidable.not_not, true_and]
    refine ⟨fun q3 => e136 (fun q => absurd q q3), fun q3 => ⟨fun q4 => e136 (fun q => ⟨hq q, q4⟩), fun q4 => ?_⟩⟩
    refine ru_mono (r_configure (D := D) hx z hd a9 h55 he) ?_
    rintro r M1 ⟨rfl, h1⟩
    refine bb_171_133 (rp_some ?_ h1)
    unfold p_tell; rw [if_neg q1, if_neg q2, if_pos q3, if_neg (hq q3), if_pos q4]
  have e92 : ∀ x5, w ≠ 32768 → (w = 33280 → p_tell P d w v ix = none) → sm_Run (D + 2) 171 92 [some (.inr (some a)), some (.inl (nI d)), some (.inl (nI w)), some (.inl (nI v)), some (.inl (nI ix)), some (.inl x5), none] [] M (fun r M' => r = some (.inl (nI (if (p_tell P d w v ix).isSome then 1 else 0))) ∧ ZS a ra R d ((p_tell P d w v ix).getD []) M') := by
    intro x5 q1 q2
    by_cases q0 : w = 33280
    · have e := q2 q0
      refine bb_171_92 ?_
      simp (disch := first | assumption | omega | decide) only [rk_39 h, li_256, li_32774, nI_eq, Decidable.not_not, true_and]
      refine ⟨fun _ => ?_, fun q => by omega⟩
      refine bb_171_114 ?_
      simp (disch := first | assumption | omega | decide) only [rk_39 h, li_512, li_32774, nI_eq, Decidable.not_not, true_and]
      refine ⟨fun _ => ?_, fun q => by omega⟩
      refine bb_171_136 ?_
      simp (disch := first | assumption | omega | decide) only [rd_r4 h, rR_4 h, rN_4 h, rA_4 h, rk_39 h, a4, li_0, li_1, li_3, li_64, li_32776, li_49153, nI_eq, nI_ltI, nI_clamp, Decidable.not_not, Option.some.injEq, exists_eq_left', true_and]
      exact ⟨fun _ => ⟨fun _ => rp_no' e z, fun q => by omega⟩, fun q => by omega⟩
    · refine bb_171_92 ?_
      simp (disch := first | assumption | omega | decide) only [rk_39 h, li_256, li_32774, nI_eq, Decidable.not_not, true_and]
      refine ⟨fun q => e114 x5 (fun q' => absurd q' q) q1 q0, fun q3 => ⟨fun q => e114 x5 (fun _ => q) q1 q0, fun q4 => ?_⟩⟩
      refine ru_mono (r_describe (D := D) hx z hd a6 a7 a8) ?_
      rintro r M1 ⟨rfl, h1⟩
      refine bb_171_111 (rp_some ?_ h1)
      unfold p_tell; rw [if_neg q1, if_neg q0, if_pos q3, if_pos q4]
  refine bb_171_0 ?_
  simp (disch := first | assumption | omega | decide) only [rk_39 h, true_and]
  refine ru_mono (r_ptA h hx a9 he hd) ?_
  rw [fnd_I hx hix]
  rintro r M1 ⟨rfl, rfl⟩
  refine bb_171_7 ?_
  simp (disch := first | assumption | omega | decide) only [rk_39 h, ↓li_m1, li_0, li_128, li_32768, li_33280, nI_eq, Decidable.not_not, true_and]
  refine ⟨fun q1 => ⟨fun q2 => e92 _ q1 (fun q => absurd q q2), fun q2 => ?_⟩, fun q1 => ?_⟩
  · have put : ∀ v1 x5, p_tell P d w v ix = some [v1, 0] → sm_Run (D + 1) 169 0 (sm_ent 169 [.inr (some a), .inl (nI d), .inl (nI v1)]) [] M (fun v' M1 => sm_Run (D + 2) 171 83 [some (.inr (some a)), some (.inl (nI d)), some (.inl (nI w)), some (.inl (nI v)), some (.inl (nI ix)), some (.inl x5), none] (v'.toList ++ []) M1 (fun r M' => r = some (.inl (nI (if (p_tell P d w v ix).isSome then 1 else 0))) ∧ ZS a ra R d ((p_tell P d w v ix).getD []) M')) := by
      intro v1 x5 e
      refine ru_mono (r_zPut z hd (show 0 < 99 by decide)) ?_
      rintro r M1 ⟨rfl, z1⟩
      obtain ⟨R1, h1, -⟩ := zs_r (f := 6) (i := d) z1 (by decide)
      refine bb_171_83 ⟨h1.1, ?_⟩
      refine ru_mono (r_zPut z1 hd (show 1 < 99 by decide)) ?_
      rintro r M2 ⟨rfl, z2⟩
      exact bb_171_89 (rp_some e z2)
    cases hf : p_find P d ix with
    | none =>
      dsimp only [ptI]
      refine ⟨fun q => absurd rfl q, fun _ => ?_⟩
      have g57 : (ix = 0 ∨ ix = 128) → sm_Run (D + 2) 171 57 [some (.inr (some a)), some (.inl (nI d)), some (.inl (nI w)), some (.inl (nI v)), some (.inl (nI ix)), some (.inl (nE 0)), none] [] M (fun r M' => r = some (.inl (nI (if (p_tell P d w v ix).isSome then 1 else 0))) ∧ ZS a ra R d ((p_tell P d w v ix).getD []) M') := by
        intro q3
        refine bb_171_57 ⟨fun _ => ⟨h.1, put 0 _ ?_⟩, fun q => absurd rfl q⟩
        unfold p_tell; rw [if_neg q1, if_pos q2, hf]; dsimp only; rw [if_pos q3]
      refine ⟨fun q3 => g57 (Or.inl q3), fun q3 => ⟨fun q4 => e92 _ q1 (fun _ => ?_), fun q4 => g57 (Or.inr q4)⟩⟩
      unfold p_tell; rw [if_neg q1, if_pos q2, hf]; dsimp only; rw [if_neg (by omega)]
    | some k =>
      obtain ⟨hk, ha⟩ := find_lt hf
      obtain ⟨e10, e11, e12, e13, e14, e15, e16, e17⟩ := he k hk
      have n1 := nI_n1 (show 6 * d + k < 2 ^ 31 by omega)
      have b104 := ex_b hx 104 (6 * d + k)
      dsimp only [ptI]
      refine ⟨fun _ => ?_, fun q => absurd q n1⟩
      refine bb_171_57 ⟨fun q => absurd q n1, fun _ => ?_⟩
      simp (disch := first | assumption | omega | decide) only [rd_r14 h, rR_14 h, rN_14 h, rW_14 h, rk_39 h, e14, li_0, li_1, nI_eq, nI_clamp, Option.some.injEq, exists_eq_left', true_and]
      refine ⟨fun q3 => put 0 _ ?_, fun q3 => put 1 _ ?_⟩
      · unfold p_tell; rw [if_neg q1, if_pos q2, hf]; dsimp only; rw [if_pos q3]
      · unfold p_tell; rw [if_neg q1, if_pos q2, hf]; dsimp only; rw [if_neg q3]
  · refine ru_mono (r_zPut z hd (show 0 < 99 by decide)) ?_
    rintro r M1 ⟨rfl, z1⟩
    obtain ⟨R1, h1, -⟩ := zs_r (f := 6) (i := d) z1 (by decide)
    refine bb_171_22 ⟨h1.1, ?_⟩
    refine ru_mono (r_zPut z1 hd (show 1 < 99 by decide)) ?_
    rintro r M2 ⟨rfl, z2⟩
    refine bb_171_28 (rp_some ?_ z2)
    unfold p_tell; rw [if_pos q1]; rfl
/-- orders: the loop over all six endpoints -/
def rsR (R : Nat → Nat → Int32) (d n f i : Nat) : Int32 := if (f = 13 ∨ f = 14 ∨ f = 16) ∧ 6 * d ≤ i ∧ i < 6 * d + n then (if f = 16 then nE 0 else nI 0) else R f i
theorem rsR_0 {d : Nat} : rsR R d 0 = R := by
  funext f i
  unfold rsR; rw [if_neg (by omega)]
theorem rsR_s {d n : Nat} : sm_u2 (sm_u2 (sm_u2 (rsR R d n) 13 (6 * d + n) (nI 0)) 14 (6 * d + n) (nI 0)) 16 (6 * d + n) (nE 0) = rsR R d (n + 1) := by
  funext f i
  rw [u2_r, u2_r, u2_r]
  unfold rsR
  by_cases q : i = 6 * d + n
  · by_cases q1 : f = 13
    · subst q1; rw [if_neg (by omega), if_neg (by omega), if_pos (by omega), if_pos (by omega), if_neg (by decide)]
    · by_cases q2 : f = 14
      · subst q2; rw [if_neg (by omega), if_pos (by omega), if_pos (by omega), if_neg (by decide)]
      · by_cases q3 : f = 16
        · subst q3; rw [if_pos (by omega), if_pos (by omega), if_pos rfl]
        · rw [if_neg (by omega), if_neg (by omega), if_neg (by omega), if_neg (by omega), if_neg (by omega)]
  · rw [if_neg (by omega), if_neg (by omega), if_neg (by omega)]
    by_cases q1 : (f = 13 ∨ f = 14 ∨ f = 16) ∧ 6 * d ≤ i ∧ i < 6 * d + n
    · rw [if_pos q1, if_pos (show (f = 13 ∨ f = 14 ∨ f = 16) ∧ 6 * d ≤ i ∧ i < 6 * d + (n + 1) by omega)]
    · rw [if_neg q1, if_neg (show ¬ ((f = 13 ∨ f = 14 ∨ f = 16) ∧ 6 * d ≤ i ∧ i < 6 * d + (n + 1)) by omega)]
theorem r_ord_loop {d : Nat} {x2 x3 x4 x5 x6 : Int32} {Q : Option sm_V → sm_M → Prop} (hd : d < 6) (hQ : ∀ M, RM a ra (rsR R d 6) M → sm_Run (D + 1) 174 228 [some (.inr (some a)), some (.inl (nI d)), some (.inl x2), some (.inl x3), some (.inl x4), some (.inl x5), some (.inl x6), some (.inl (nI (6 * d + 6)))] [] M Q) : ∀ (m i : Nat) (M : sm_M), i + m = 6 → RM a ra (rsR R d i) M →
    sm_Run (D + 1) 174 74 [some (.inr (some a)), some (.inl (nI d)), some (.inl x2), some (.inl x3), some (.inl x4), some (.inl x5), some (.inl x6), some (.inl (nI (6 * d + i)))] [] M Q := by
  intro m
  induction m with
  | zero =>
    intro i M hi h
    obtain rfl : i = 6 := by omega
    refine bb_174_74 ?_
    simp (disch := first | assumption | omega | decide) only [rd_r13 h, rW_13 h, rd_r14 h, rW_14 h, rd_r16 h, rW_16 h, rk_39 h, Nat.le_refl, ↓li_m1, li_0, li_1, li_6, nI_add, pk_mul, nI_leI, nI_clamp, Option.some.injEq, exists_eq_left', false_implies, forall_const, true_and, and_true, not_true_eq_false, Rp_i]
    exact hQ M h
  | succ m ih =>
    intro i M hi h
    refine bb_174_74 ?_
    simp (disch := first | assumption | omega | decide) only [rd_r13 h, rN_13 h, rW_13 h, rd_r14 h, rN_14 h, rW_14 h, rd_r16 h, rN_16 h, rW_16 h, rk_39 h, ↓li_m1, li_0, li_1, li_6, nI_add, pk_mul, nI_leI, nI_clamp, Option.some.injEq, exists_eq_left', true_and, Rp_i]
    refine ⟨fun q => by omega, fun _ => ?_⟩
    refine ih (i + 1) _ (by omega) ?_
    have h1 := rm_wr (rm_wr (rm_wr h (f := 13) (j := 6 * d + i) (v := nI 0)) (f := 14) (j := 6 * d + i) (v := nI 0)) (f := 16) (j := 6 * d + i) (v := nE 0)
    rw [rsR_s] at h1
    exact h1
def RZ1 (P : pP) (R : Nat → Nat → Int32) (d : Nat) : Prop := s_ P 64 d = 0 ∧ s_ P 67 d = 0 ∧ R 22 d = nI 0 ∧ R 23 d = nI (s_ P 61 d) ∧ R 24 d = nI (s_ P 65 d) ∧ R 26 d = nI 0 ∧ R 30 d = nE 0
theorem s_rsE {d k f : Nat} : ∀ n, s_ (p_rsAll P d n) f (6 * d + k) = if (f = 103 ∨ f = 104 ∨ f = 105) ∧ k < n then 0 else s_ P f (6 * d + k)
  | 0 => by rw [if_neg (by omega)]; rfl
  | n + 1 => by
    show s_ (p_eRs (p_rsAll P d n) (6 * d + n)) f (6 * d + k) = _
    rw [s_eRs, s_rsE n]
    by_cases q : f = 103 ∨ f = 104 ∨ f = 105
    · by_cases q1 : k = n
      · rw [if_pos ⟨q, by omega⟩, if_pos ⟨q, by omega⟩]
      · rw [if_neg (by omega)]
        by_cases q2 : k < n
        · rw [if_pos ⟨q, q2⟩, if_pos ⟨q, by omega⟩]
        · rw [if_neg (by omega), if_neg (by omega)]
    · rw [if_neg (by omega), if_neg (by omega), if_neg (by omega)]
/-- WireBusModel.orders -/
theorem r_orders {d w ix : Nat} (h : RM a ra R M) (hx : EX P) (hA : RelA P R d) (he : ∀ k, k < s_ P 86 d → RelE P R (6 * d + k)) (hz : RZ1 P R d) (hd : d < 6) (h65 : s_ P 65 d = 0) (hw : w < 2 ^ 31) (hix : ix < 2 ^ 31) (hn : w = 16385 → 64 < s_ P 66 d) : sm_Run (D + 1) 174 0 (sm_ent 174 [.inr (some a), .inl (nI d), .inl (nI w), .inl (nI (s_ P 66 d)), .inl (nI ix)]) [] M (fun r M' => r = none ∧ ∃ R', RM a ra R' M' ∧ RelD (pS (p_bfh P d w ix).1 60 d (p_bfh P d w ix).2) R' d ∧ FrR d R R') := by
  have hA0 := hA
  obtain ⟨a4, a5, a6, a7, a8, a9, a19, a20, a18⟩ := hA
  obtain ⟨z64, z67, z22, z23, z24, z26, z30⟩ := hz
  have h86 := ex_86 hx hd
  have b83 := ex_b hx 83 d
  have b66 := ex_b hx 66 d
  have e225 : ∀ x5 x6 x7, p_bfh P d w ix = (P, 1) → sm_Run (D + 1) 174 225 [some (.inr (some a)), some (.inl (nI d)), some (.inl (nI w)), some (.inl (nI (s_ P 66 d))), some (.inl (nI ix)), some (.inl x5), some (.inl x6), x7] [] M (fun r M' => r = none ∧ ∃ R', RM a ra R' M' ∧ RelD (pS (p_bfh P d w ix).1 60 d (p_bfh P d w ix).2) R' d ∧ FrR d R R') := by
    intro x5 x6 x7 e
    rw [e]
    refine bb_174_225 (bb_174_228 ?_)
    simp (disch := first | assumption | omega | decide) only [rd_r21 h, rN_21 h, rW_21 h, rk_39 h, li_0, li_1, li_4, nI_clamp, Option.some.injEq, exists_eq_left', false_implies, forall_const, true_and, and_true, not_true_eq_false]
    refine ⟨_, rm_wr h, ⟨?_, ?_, fun k hk => ?_⟩, ?_⟩
    · unfold RelA; simp only [u2_r, s_S, b_S, Nat.reduceEqDiff, false_and, and_true, if_false]; ((repeat' (with_reducible refine And.intro ?_ ?_)) <;> (first | assumption | rfl | trivial | omega))
    · unfold RelZ; simp only [u2_r, s_S, b_S, z64, Nat.reduceEqDiff, false_and, true_and, and_true, and_self, if_true, if_false, or_self, false_implies, Nat.reduceLeDiff]; ((repeat' (with_reducible refine And.intro ?_ ?_)) <;> (first | assumption | rfl | trivial | omega))
    · have := he k (by revert hk; simp only [s_S, Nat.reduceEqDiff, and_true, if_false]; exact id)
      unfold RelE at *; simp only [u2_r, s_S, b_S, Nat.reduceEqDiff, false_and, if_false]; exact this
    · (repeat' (first | exact fr_refl | assumption | refine fr_u ?_ (by unfold ownR; omega) | refine fr_row ?_ (by unfold ownR; omega)))
  have hn0 := hn
  clear hn
  refine Decidable.byCases (fun hn : w = 16385 => ?_) (fun hn : w ≠ 16385 => ?_)
  · have e1 : p_bfh P d w ix = (P, 1) := by unfold p_bfh; rw [if_pos hn, if_pos (by have := hn0 hn; omega)]
    refine bb_174_0 ?_
    simp (disch := first | assumption | omega | decide) only [rk_39 h, true_and]
    refine ru_mono (r_ptA h hx a9 he hd) ?_
    rintro r M1 ⟨rfl, rfl⟩
    refine bb_174_7 ?_
    simp (disch := first | assumption | omega | decide) only [rd_r30 h, rN_30 h, rW_30 h, rk_39 h, li_0, li_1, li_5, li_128, nI_eq, nI_leI, nI_clamp, Decidable.not_not, Option.some.injEq, exists_eq_left', true_and]
    refine ⟨fun _ => ?_, fun q => by omega⟩
    refine bb_174_38 ?_
    simp (disch := first | assumption | omega | decide) only [rd_r4 h, rR_4 h, rN_4 h, rW_4 h, rA_4 h, rk_39 h, li_1, li_2, li_6, li_9, nI_add, pk_mul, nI_eq, nI_leI, nI_clamp, Decidable.not_not, Option.some.injEq, exists_eq_left', true_and]
    refine ⟨fun _ => ?_, fun q => by omega⟩
    refine bb_174_119 ?_
    simp (disch := first | assumption | omega | decide) only [li_513, li_515, nI_eq, Decidable.not_not]
    exact ⟨fun q => by omega, fun _ => ⟨fun _ => e225 _ _ _ e1, fun q => by omega⟩⟩
  have e119 : ∀ x5, x5 = ptI d (p_find P d ix) → w ≠ 9 → w ≠ 5 → sm_Run (D + 1) 174 119 [some (.inr (some a)), some (.inl (nI d)), some (.inl (nI w)), some (.inl (nI (s_ P 66 d))), some (.inl (nI ix)), some (.inl x5), some (.inl (nI 1)), none] [] M (fun r M' => r = none ∧ ∃ R', RM a ra R' M' ∧ RelD (pS (p_bfh P d w ix).1 60 d (p_bfh P d w ix).2) R' d ∧ FrR d R R') := by
    intro x5 hx5 q9 q5
    subst hx5
    have e0 : p_bfh P d w ix = ((p_obey P d w (s_ P 66 d) ix).1, if (p_obey P d w (s_ P 66 d) ix).2 = 0 then 1 else 5) := by
      unfold p_bfh; rw [if_neg hn, if_neg (by omega), if_neg q5]
    have r0 : p_obey P d w (s_ P 66 d) ix = (P, 0) → p_bfh P d w ix = (P, 1) := by
      intro e; rw [e0, e]; rfl
    have e133 : (w = 513 ∨ w = 515) → sm_Run (D + 1) 174 133 [some (.inr (some a)), some (.inl (nI d)), some (.inl (nI w)), some (.inl (nI (s_ P 66 d))), some (.inl (nI ix)), some (.inl (ptI d (p_find P d ix))), some (.inl (nI 1)), none] [] M (fun r M' => r = none ∧ ∃ R', RM a ra R' M' ∧ RelD (pS (p_bfh P d w ix).1 60 d (p_bfh P d w ix).2) R' d ∧ FrR d R R') := by
      intro qw
      refine bb_174_133 ?_
      rw [li_0, nI_eq b66 (by decide)]
      refine ⟨fun q1 => e225 _ _ _ (r0 ?_), fun q1 => ?_⟩
      · unfold p_obey; rw [if_neg q9]
        cases p_find P d ix with
        | none => rfl
        | some k => dsimp only; rw [if_pos (Or.inl q1)]
      have q1 : s_ P 66 d = 0 := Decidable.not_not.mp q1
      cases hf : p_find P d ix with
      | none =>
        refine ⟨fun _ => ?_, fun q => absurd rfl q⟩
        have := e225 (ptI d (p_find P d ix)) (nI 1) none (r0 (by unfold p_obey; rw [if_neg q9, hf]))
        rw [hf] at this
        exact this
      | some k =>
        obtain ⟨hk, ha⟩ := find_lt hf
        obtain ⟨e10, e11, e12, e13, e14, e15, e16, e17⟩ := he k hk
        have n1 := nI_n1 (show 6 * d + k < 2 ^ 31 by omega)
        dsimp only [ptI]
        refine ⟨fun q => absurd q n1, fun _ => ?_⟩
        simp (disch := first | assumption | omega | decide) only [rd_r4 h, rR_4 h, rN_4 h, rA_4 h, rd_r13 h, rR_13 h, rN_13 h, rW_13 h, rA_13 h, rd_r14 h, rN_14 h, rW_14 h, rd_r16 h, rR_16 h, rN_16 h, rW_16 h, rA_16 h, rk_39 h, a4, ↓li_m1, li_1, li_3, li_513, li_515, nI_eq, nI_clamp, Decidable.not_not, Option.some.injEq, exists_eq_left', true_and, Ip_r h, Rp_i]
        have ob : p_obey P d w (s_ P 66 d) ix = if s_ P 83 d ≠ 3 then (P, 0) else if w = 513 then (p_eRs P (6 * d + k), 1) else if w = 515 then (pS P 104 (6 * d + k) 1, 1) else (P, 0) := by
          unfold p_obey; rw [if_neg q9, hf]; dsimp only
          by_cases q : s_ P 83 d = 3
          · rw [if_neg (by omega), if_neg (show ¬ (s_ P 83 d ≠ 3) by omega)]
          · rw [if_pos (by omega), if_pos (show s_ P 83 d ≠ 3 by omega)]
        refine ⟨fun q2 => e225 _ _ _ (r0 (by rw [ob, if_pos q2])), fun q2 => ⟨fun q3 => ⟨fun q4 => by omega, fun q4 => ?_⟩, fun q3 => ⟨fun q4 => ?_, fun q4 => by omega⟩⟩⟩
        · have e1 : p_bfh P d w ix = (p_eRs P (6 * d + k), 5) := by rw [e0, ob, if_neg (by omega), if_pos q4]; rfl
          rw [e1]
          refine bb_174_228 ?_
          have h1 := rm_wr (rm_wr (rm_wr h (f := 14) (j := 6 * d + k) (v := nI 0)) (f := 13) (j := 6 * d + k) (v := nI 0)) (f := 16) (j := 6 * d + k) (v := nE 0)
          simp (disch := first | assumption | omega | decide) only [rd_r21 h1, rN_21 h1, rW_21 h1, rk_39 h1, li_0, li_1, li_4, nI_eq, nI_clamp, Option.some.injEq, exists_eq_left', reduceCtorEq, false_implies, forall_const, true_and, not_false_eq_true]
          refine ⟨_, rm_wr h1, ⟨?_, ?_, fun k' hk' => ?_⟩, ?_⟩
          · unfold RelA p_eRs; simp only [u2_r, s_S, b_S, Nat.reduceEqDiff, false_and, and_true, if_false]; ((repeat' (with_reducible refine And.intro ?_ ?_)) <;> (first | assumption | rfl | trivial | omega))
          · unfold RelZ p_eRs; simp only [u2_r, s_S, b_S, z64, z67, Nat.reduceEqDiff, false_and, true_and, and_true, and_self, if_true, if_false, ite_self, or_self, or_true, false_implies, true_implies, Nat.reduceLeDiff]; ((repeat' (with_reducible refine And.intro ?_ ?_)) <;> (first | assumption | rfl | trivial | omega))
          · have hk2 := he k' (by revert hk'; unfold p_eRs; simp only [s_S, Nat.reduceEqDiff, false_and, and_true, if_false]; exact id)
            unfold p_eRs
            by_cases qk : k' = k
            · subst qk
              unfold RelE; simp only [u2_r, s_S, b_S, Nat.reduceEqDiff, false_and, true_and, and_true, and_self, if_true, if_false, ite_self]; ((repeat' (with_reducible refine And.intro ?_ ?_)) <;> (first | assumption | rfl | trivial | omega))
            · unfold RelE at *; simp only [u2_r, s_S, b_S, show ¬ (6 * d + k' = 6 * d + k) by omega, Nat.reduceEqDiff, false_and, and_false, and_self, if_false]
              exact hk2
          · (repeat' (first | exact fr_refl | assumption | refine fr_u ?_ (by unfold ownR; omega) | refine fr_row ?_ (by unfold ownR; omega)))
        · have e1 : p_bfh P d w ix = (pS P 104 (6 * d + k) 1, 5) := by rw [e0, ob, if_neg (by omega), if_neg q4, if_pos q3]; rfl
          rw [e1]
          refine bb_174_228 ?_
          have h1 := rm_wr (rm_wr (rm_wr h (f := 14) (j := 6 * d + k) (v := nI 1)) (f := 13) (j := 6 * d + k) (v := R 13 (6 * d + k))) (f := 16) (j := 6 * d + k) (v := R 16 (6 * d + k))
          simp (disch := first | assumption | omega | decide) only [rd_r21 h1, rN_21 h1, rW_21 h1, rk_39 h1, li_0, li_1, li_4, nI_eq, nI_clamp, Option.some.injEq, exists_eq_left', reduceCtorEq, false_implies, forall_const, true_and, not_false_eq_true]
          refine ⟨_, rm_wr h1, ⟨?_, ?_, fun k' hk' => ?_⟩, ?_⟩
          · unfold RelA; simp only [u2_r, s_S, b_S, Nat.reduceEqDiff, false_and, and_true, if_false]; ((repeat' (with_reducible refine And.intro ?_ ?_)) <;> (first | assumption | rfl | trivial | omega))
          · unfold RelZ; simp only [u2_r, s_S, b_S, z64, z67, Nat.reduceEqDiff, false_and, true_and, and_true, and_self, if_true, if_false, or_self, or_true, false_implies, true_implies, Nat.reduceLeDiff]; ((repeat' (with_reducible refine And.intro ?_ ?_)) <;> (first | assumption | rfl | trivial | omega))
          · have hk2 := he k' (by revert hk'; simp only [s_S, Nat.reduceEqDiff, false_and, and_true, if_false]; exact id)
            by_cases qk : k' = k
            · subst qk
              unfold RelE; simp only [u2_r, s_S, b_S, Nat.reduceEqDiff, false_and, true_and, and_true, and_self, if_true, if_false, ite_self]; ((repeat' (with_reducible refine And.intro ?_ ?_)) <;> (first | assumption | rfl | trivial | omega))
            · unfold RelE at *; simp only [u2_r, s_S, b_S, show ¬ (6 * d + k' = 6 * d + k) by omega, Nat.reduceEqDiff, false_and, and_false, and_self, if_false]
              exact hk2
          · (repeat' (first | exact fr_refl | assumption | refine fr_u ?_ (by unfold ownR; omega) | refine fr_row ?_ (by unfold ownR; omega)))
    refine bb_174_119 ?_
    simp (disch := first | assumption | omega | decide) only [li_513, li_515, nI_eq, Decidable.not_not]
    refine ⟨fun q => e133 (Or.inl q), fun q => ⟨fun q' => e225 _ _ _ (r0 ?_), fun q' => e133 (Or.inr q')⟩⟩
    unfold p_obey; rw [if_neg q9]
    cases p_find P d ix with
    | none => rfl
    | some k =>
      dsimp only
      rw [if_neg q, if_neg q', ite_self]
  have e38 : ∀ x5, x5 = ptI d (p_find P d ix) → (w = 5 → s_ P 66 d < 1 ∨ 127 < s_ P 66 d) → sm_Run (D + 1) 174 38 [some (.inr (some a)), some (.inl (nI d)), some (.inl (nI w)), some (.inl (nI (s_ P 66 d))), some (.inl (nI ix)), some (.inl x5), some (.inl (nI 1)), none] [] M (fun r M' => r = none ∧ ∃ R', RM a ra R' M' ∧ RelD (pS (p_bfh P d w ix).1 60 d (p_bfh P d w ix).2) R' d ∧ FrR d R R') := by
    intro x5 hx5 q5
    by_cases w5 : w = 5
    · have q6 := q5 w5
      have e1 : p_bfh P d w ix = (P, 1) := by unfold p_bfh; rw [if_neg hn, if_neg (by omega), if_pos w5, if_pos q6]
      refine bb_174_38 ?_
      simp (disch := first | assumption | omega | decide) only [rk_39 h, li_1, li_2, li_6, li_9, nI_add, pk_mul, nI_eq, nI_leI, nI_clamp, Decidable.not_not, true_and]
      refine ⟨fun _ => ?_, fun q => by omega⟩
      refine bb_174_119 ?_
      simp (disch := first | assumption | omega | decide) only [li_513, li_515, nI_eq, Decidable.not_not]
      exact ⟨fun q => by omega, fun _ => ⟨fun _ => e225 _ _ _ e1, fun q => by omega⟩⟩
    refine bb_174_38 ?_
    simp (disch := first | assumption | omega | decide) only [rd_r4 h, rR_4 h, rN_4 h, rW_4 h, rA_4 h, rk_39 h, a4, li_1, li_2, li_6, li_9, nI_add, pk_mul, nI_eq, nI_leI, nI_clamp, Decidable.not_not, Option.some.injEq, exists_eq_left', true_and]
    refine ⟨fun q9 => e119 _ hx5 q9 w5, fun q9 => ?_⟩
    have e0 : p_bfh P d w ix = ((p_obey P d w (s_ P 66 d) ix).1, if (p_obey P d w (s_ P 66 d) ix).2 = 0 then 1 else 5) := by
      unfold p_bfh; rw [if_neg hn, if_neg (by omega), if_neg w5]
    have r0 : p_obey P d w (s_ P 66 d) ix = (P, 0) → p_bfh P d w ix = (P, 1) := by
      intro e; rw [e0, e]; rfl
    have t119 : (s_ P 83 d = 1 ∨ 1 < s_ P 66 d) → sm_Run (D + 1) 174 119 [some (.inr (some a)), some (.inl (nI d)), some (.inl (nI w)), some (.inl (nI (s_ P 66 d))), some (.inl (nI ix)), some (.inl x5), some (.inl (nI 1)), none] [] M (fun r M' => r = none ∧ ∃ R', RM a ra R' M' ∧ RelD (pS (p_bfh P d w ix).1 60 d (p_bfh P d w ix).2) R' d ∧ FrR d R R') := by
      intro q
      refine bb_174_119 ?_
      simp (disch := first | assumption | omega | decide) only [li_513, li_515, nI_eq, Decidable.not_not]
      refine ⟨fun q => by omega, fun _ => ⟨fun _ => e225 _ _ _ (r0 ?_), fun q => by omega⟩⟩
      unfold p_obey; rw [if_pos q9, if_pos q]
    refine ⟨fun q2 => t119 (Or.inr (by omega)), fun q2 => ⟨fun q3 => t119 (Or.inl q3), fun q3 => ?_⟩⟩
    have e1 : p_bfh P d w ix = (p_rsAll (pS P 83 d (2 + s_ P 66 d)) d (s_ P 86 d), 5) := by
      rw [e0]; unfold p_obey; rw [if_pos q9, if_neg (by omega)]; rfl
    rw [e1]
    refine r_ord_loop (D := D) (R := sm_u2 R 4 d (nI (2 + s_ P 66 d))) hd ?_ 6 0 _ (by omega) (by rw [rsR_0]; exact rm_wr h)
    intro M1 h1
    refine bb_174_228 ?_
    simp (disch := first | assumption | omega | decide) only [rd_r21 h1, rN_21 h1, rW_21 h1, rk_39 h1, li_0, li_1, li_4, nI_eq, nI_clamp, Option.some.injEq, exists_eq_left', reduceCtorEq, false_implies, forall_const, true_and, not_false_eq_true]
    refine ⟨_, rm_wr h1, ⟨?_, ?_, fun k hk => ?_⟩, ?_⟩
    · unfold RelA; simp only [u2_r, s_S, b_S, rsR, s_rsAll, b_rsAll, Nat.reduceEqDiff, false_and, true_and, and_true, and_self, if_true, if_false, or_self, not_false_eq_true, ne_eq]; ((repeat' (with_reducible refine And.intro ?_ ?_)) <;> (first | assumption | rfl | trivial | omega))
    · unfold RelZ; simp only [u2_r, s_S, b_S, rsR, s_rsAll, z64, z67, Nat.reduceEqDiff, false_and, true_and, and_true, and_self, if_true, if_false, or_self, or_true, false_implies, true_implies, Nat.reduceLeDiff, not_false_eq_true, ne_eq]; ((repeat' (with_reducible refine And.intro ?_ ?_)) <;> (first | assumption | rfl | trivial | omega))
    · have hk' : k < s_ P 86 d := by revert hk; simp only [s_S, s_rsAll, Nat.reduceEqDiff, and_true, and_self, if_false, not_false_eq_true, ne_eq]; exact id
      have hk2 := he k hk'
      obtain ⟨e10, e11, e12, e13, e14, e15, e16, e17⟩ := hk2
      unfold RelE; simp only [u2_r, s_S, b_S, rsR, s_rsE, b_rsAll, hk', show 6 * d ≤ 6 * d + k ∧ 6 * d + k < 6 * d + 6 by omega, Nat.reduceEqDiff, false_and, true_and, and_true, and_self, if_true, if_false, or_self, or_false, or_true]; ((repeat' (with_reducible refine And.intro ?_ ?_)) <;> (first | assumption | rfl | trivial | omega))
    · intro f i hn
      rw [u2_r, if_neg (by rintro ⟨rfl, rfl⟩; exact hn (by unfold ownR; omega))]
      unfold rsR
      rw [if_neg (by intro q; exact hn (by unfold ownR; omega)), u2_r, if_neg (by rintro ⟨rfl, rfl⟩; exact hn (by unfold ownR; omega))]
  refine bb_174_0 ?_
  simp (disch := first | assumption | omega | decide) only [rk_39 h, true_and]
  refine ru_mono (r_ptA h hx a9 he hd) ?_
  rw [fnd_I hx hix]
  rintro r M1 ⟨rfl, rfl⟩
  refine bb_174_7 ?_
  simp (disch := first | assumption | omega | decide) only [rd_r30 h, rN_30 h, rW_30 h, rk_39 h, li_0, li_1, li_5, li_128, nI_eq, nI_leI, nI_clamp, Decidable.not_not, Option.some.injEq, exists_eq_left', true_and]
  refine ⟨fun q => e38 _ rfl (fun q' => absurd q' q), fun q => ⟨fun q1 => e38 _ rfl (fun _ => Or.inl (by omega)), fun q1 => ⟨fun q2 => e38 _ rfl (fun _ => Or.inr (by omega)), fun q2 => ?_⟩⟩⟩
  have e1 : p_bfh P d w ix = (pS P 67 d (s_ P 66 d), 5) := by unfold p_bfh; rw [if_neg hn, if_neg (by omega), if_pos q, if_neg (by omega)]
  rw [e1]
  refine bb_174_228 ?_
  have h1 := rm_wr h (f := 30) (j := d) (v := nI (s_ P 66 d))
  simp (disch := first | assumption | omega | decide) only [rd_r21 h1, rN_21 h1, rW_21 h1, rk_39 h1, li_0, li_1, li_4, nI_eq, nI_clamp, Option.some.injEq, exists_eq_left', reduceCtorEq, false_implies, forall_const, true_and, not_false_eq_true]
  refine ⟨_, rm_wr h1, ⟨?_, ?_, fun k' hk' => ?_⟩, ?_⟩
  · unfold RelA; simp only [u2_r, s_S, b_S, Nat.reduceEqDiff, false_and, and_true, if_false]; ((repeat' (with_reducible refine And.intro ?_ ?_)) <;> (first | assumption | rfl | trivial | omega))
  · unfold RelZ; simp only [u2_r, s_S, b_S, z64, show ¬ s_ P 66 d = 0 by omega, Nat.reduceEqDiff, false_and, true_and, and_true, and_self, if_true, if_false, ite_self, or_self, or_true, false_implies, implies_true, true_implies, Nat.reduceLeDiff]; ((repeat' (with_reducible refine And.intro ?_ ?_)) <;> (first | assumption | rfl | trivial | omega))
  · have hk2 := he k' (by revert hk'; simp only [s_S, Nat.reduceEqDiff, and_true, if_false]; exact id)
    unfold RelE at *; simp only [u2_r, s_S, b_S, Nat.reduceEqDiff, false_and, if_false]
    exact hk2
  · (repeat' (first | exact fr_refl | assumption | refine fr_u ?_ (by unfold ownR; omega) | refine fr_row ?_ (by unfold ownR; omega)))
theorem ex_S {f d v : Nat} (hx : EX P) (hd : d < 6) (hv : v < 2 ^ 31) (hf : f = 66 ∨ f = 65 ∨ f = 61 ∨ f = 64 ∨ f = 67 ∨ f = 69) : EX (pS P f d v) := by
  obtain ⟨g, M, h⟩ := hx
  obtain ⟨l4, l3, -⟩ := lq_s h hd
  rcases hf with rfl | rfl | rfl | rfl | rfl | rfl
  · exact ⟨g, _, rc_w' (c := 3) (k := 6) h l3 hv⟩
  · exact ⟨g, _, rc_w' (c := 3) (k := 5) h l3 hv⟩
  · exact ⟨g, _, rc_w' (c := 3) (k := 1) h l3 hv⟩
  · exact ⟨g, _, rc_w' (c := 3) (k := 4) h l3 hv⟩
  · exact ⟨g, _, rc_w' (c := 3) (k := 7) h l3 hv⟩
  · exact ⟨g, _, rc_w' (c := 3) (k := 9) h l3 hv⟩
theorem ex_z1 {d : Nat} {l : List Nat} (hx : EX P) (hd : d < 6) (hb : ∀ x ∈ l, x < 256) : EX (p_zB1 P d l) := by
  have h2 := l16_lt hb 2
  have h6 := l16_lt hb 6
  exact ex_S (ex_S (ex_S (ex_S (ex_S (ex_S hx hd (by omega) (by decide)) hd (by omega) (by decide)) hd (by decide) (by decide)) hd (by decide) (by decide)) hd (by decide) (by decide)) hd (by decide) (by decide)
theorem relD_cv {d : Nat} {P' : pP} (h : RelD P R d) (hs : ∀ f i, f ≠ 63 → s_ P' f i = s_ P f i) (hb : ∀ c i, c ≠ 29 → b_ P' c i = b_ P c i) (h2 : s_ P 60 d ≠ 2) (h4 : s_ P 60 d = 4 → s_ P 64 d = 0) : RelD P' R d := by
  obtain ⟨hA, hz, he⟩ := h
  obtain ⟨z60, z21, z23, z24, z26, z22, z22b, z2, z4, z5⟩ := hz
  refine ⟨?_, ?_, fun k hk => ?_⟩
  · unfold RelA at *; simp (disch := decide) only [hs, hb]; exact hA
  · unfold RelZ; simp (disch := decide) only [hs]
    exact ⟨z60, z21, z23, z24, z26, z22, z22b, fun q => absurd q h2, fun q => ⟨(z4 q).1, fun j hj => by rw [h4 q] at hj; exact absurd hj (Nat.not_lt_zero _)⟩, z5⟩
  · have := he k (by rw [hs _ _ (by decide)] at hk; exact hk)
    unfold RelE at *; simp (disch := decide) only [hs, hb]; exact this
theorem rsAll_B {d c i : Nat} {l : List Nat} : ∀ n, p_rsAll (pB P c i l) d n = pB (p_rsAll P d n) c i l
  | 0 => rfl
  | n + 1 => by
    show p_eRs (p_rsAll (pB P c i l) d n) (6 * d + n) = _
    rw [rsAll_B n]; rfl
theorem obey_B {d w v ix d' : Nat} {l : List Nat} : p_obey (pB P 29 d' l) d w v ix = (pB (p_obey P d w v ix).1 29 d' l, (p_obey P d w v ix).2) := by
  unfold p_obey
  rw [show p_find (pB P 29 d' l) d ix = p_find P d ix from rfl]
  by_cases w9 : w = 9
  · rw [if_pos w9, if_pos w9]
    by_cases q : s_ P 83 d = 1 ∨ 1 < v
    · have q' : s_ (pB P 29 d' l) 83 d = 1 ∨ 1 < v := q
      rw [if_pos q, if_pos q']
    · have q' : ¬ (s_ (pB P 29 d' l) 83 d = 1 ∨ 1 < v) := q
      rw [if_neg q, if_neg q']
      show (p_rsAll (pB (pS P 83 d (2 + v)) 29 d' l) d (s_ P 86 d), 1) = _
      rw [rsAll_B]
  · rw [if_neg w9, if_neg w9]
    cases p_find P d ix with
    | none => rfl
    | some k =>
      dsimp only
      by_cases q : v ≠ 0 ∨ s_ P 83 d ≠ 3
      · have q' : v ≠ 0 ∨ s_ (pB P 29 d' l) 83 d ≠ 3 := q
        rw [if_pos q, if_pos q']
      · have q' : ¬ (v ≠ 0 ∨ s_ (pB P 29 d' l) 83 d ≠ 3) := q
        rw [if_neg q, if_neg q']
        by_cases q1 : w = 513
        · rw [if_pos q1, if_pos q1]; rfl
        · rw [if_neg q1, if_neg q1]
          by_cases q2 : w = 515
          · rw [if_pos q2, if_pos q2]; rfl
          · rw [if_neg q2, if_neg q2]
theorem bfh_B {d w ix : Nat} {l : List Nat} : p_bfh (pB P 29 d l) d w ix = (pB (p_bfh P d w ix).1 29 d l, (p_bfh P d w ix).2) := by
  unfold p_bfh
  have o := obey_B (P := P) (d := d) (w := w) (v := s_ P 66 d) (ix := ix) (d' := d) (l := l)
  by_cases q : w = 16385
  · rw [if_pos q, if_pos q]; rfl
  · rw [if_neg q, if_neg q]
    by_cases q1 : s_ P 65 d ≠ 0
    · have q1' : s_ (pB P 29 d l) 65 d ≠ 0 := q1
      rw [if_pos q1, if_pos q1']
    · have q1' : ¬ s_ (pB P 29 d l) 65 d ≠ 0 := q1
      rw [if_neg q1, if_neg q1']
      by_cases q2 : w = 5
      · rw [if_pos q2, if_pos q2]
        by_cases q3 : s_ P 66 d < 1 ∨ 127 < s_ P 66 d
        · have q3' : s_ (pB P 29 d l) 66 d < 1 ∨ 127 < s_ (pB P 29 d l) 66 d := q3
          rw [if_pos q3, if_pos q3']
        · have q3' : ¬ (s_ (pB P 29 d l) 66 d < 1 ∨ 127 < s_ (pB P 29 d l) 66 d) := q3
          rw [if_neg q3, if_neg q3']; rfl
      · rw [if_neg q2, if_neg q2]
        show ((p_obey (pB P 29 d l) d w (s_ P 66 d) ix).1, if (p_obey (pB P 29 d l) d w (s_ P 66 d) ix).2 = 0 then 1 else 5) = _
        rw [show (p_obey (pB P 29 d l) d w (s_ P 66 d) ix).2 = (p_obey P d w (s_ P 66 d) ix).2 by rw [o], show (p_obey (pB P 29 d l) d w (s_ P 66 d) ix).1 = pB (p_obey P d w (s_ P 66 d) ix).1 29 d l by rw [o]]
theorem tell_len {d w v ix : Nat} {t : List Nat} (hx : EX P) (hd : d < 6) (h : p_tell P d w v ix = some t) : t.length ≤ 64 := by
  have h86 := ex_86 hx hd
  have l28 := ex_28 hx hd
  unfold p_tell at h
  have lc : (p_conf P d).length ≤ 64 := by
    unfold p_conf; rw [List.length_append, rows_len]
    show 18 + 7 * s_ P 86 d ≤ 64
    omega
  by_cases q1 : w = 32768
  · rw [if_pos q1] at h; cases h; show 2 ≤ 64; omega
  rw [if_neg q1] at h
  by_cases q2 : w = 33280
  · rw [if_pos q2] at h
    cases hf : p_find P d ix with
    | none =>
      rw [hf] at h; dsimp only at h
      split at h
      · cases h; show 2 ≤ 64; omega
      · cases h
    | some k => rw [hf] at h; cases h; show 2 ≤ 64; omega
  rw [if_neg q2] at h
  by_cases q3 : w = 32774
  · rw [if_pos q3] at h
    split at h
    · cases h; show 18 ≤ 64; omega
    · split at h
      · cases h; exact lc
      · cases h
  rw [if_neg q3] at h
  split at h
  · cases h; show 1 ≤ 64; omega
  · split at h
    · split at h
      · cases h; rw [List.length_drop]; omega
      · cases h
    · cases h
theorem ct_A {d : Nat} {R' : Nat → Nat → Int32} (ht : ∀ f i, f ≠ 25 ∧ f ≠ 29 → R' f i = R f i) (h : RelA P R d) : RelA P R' d := by
  unfold RelA at *; simp (disch := decide) only [ht]; exact h
theorem ct_E {e : Nat} {R' : Nat → Nat → Int32} (ht : ∀ f i, f ≠ 25 ∧ f ≠ 29 → R' f i = R f i) (h : RelE P R e) : RelE P R' e := by
  unfold RelE at *; simp (disch := decide) only [ht]; exact h
theorem ct_Z {d : Nat} {R' : Nat → Nat → Int32} (ht : ∀ f i, f ≠ 25 ∧ f ≠ 29 → R' f i = R f i) (h : RZ1 P R d) : RZ1 P R' d := by
  unfold RZ1 at *; simp (disch := decide) only [ht]; exact h
theorem bfh_15 {d w ix : Nat} (h65 : s_ P 65 d = 0) : (p_bfh P d w ix).2 = 1 ∨ (p_bfh P d w ix).2 = 5 := by
  unfold p_bfh
  rw [if_neg (show ¬ s_ P 65 d ≠ 0 by omega), if_pos h65]
  repeat' split
  all_goals (dsimp only)
  all_goals (repeat' split)
  all_goals first | exact Or.inl rfl | exact Or.inr rfl
theorem bfh_n {d w ix : Nat} (hw : 32768 ≤ w) : p_bfh P d w ix = (P, 1) := by
  have e : p_obey P d w (s_ P 66 d) ix = (P, 0) := by
    unfold p_obey
    rw [if_neg (by omega)]
    cases p_find P d ix with
    | none => rfl
    | some k => dsimp only; rw [if_neg (show ¬ w = 513 by omega), if_neg (show ¬ w = 515 by omega), ite_self]
  unfold p_bfh
  rw [if_neg (by omega), if_neg (show ¬ w = 5 by omega), e]
  split <;> rfl
theorem r_req_min {d n m : Nat} {x2 x3 x4 x5 : Int32} {z7 : Option sm_V} {Q : Option sm_V → sm_M → Prop} (h : RM a ra R M) (hd : d < 6) (c25 : R 25 d = nI n) (hn : n < 2 ^ 31) (hm : m < 2 ^ 31) (hQ : (m ≤ 0 → Q none (sm_putI (sm_putI (sm_putI M (ra 25) d (nI (min n m))) (ra 22) d (nI 0)) (ra 21) d (nI 4))) ∧ (¬ m ≤ 0 → Q none (sm_putI (sm_putI (sm_putI M (ra 25) d (nI (min n m))) (ra 22) d (nI 1)) (ra 21) d (nI 2)))) : sm_Run (D + 1) 170 152 [some (.inr (some a)), some (.inl (nI d)), some (.inl x2), some (.inl x3), some (.inl x4), some (.inl x5), some (.inl (nI m)), z7] [.inl (nI 1)] M Q := by
  refine bb_170_152 ⟨fun q => absurd q (by decide), fun _ => ?_⟩
  simp (disch := first | assumption | omega | decide) only [rd_r25 h, rR_25 h, rN_25 h, rW_25 h, rA_25 h, rd_r22 h, rN_22 h, rW_22 h, rd_r21 h, rN_21 h, rW_21 h, rk_39 h, c25, li_0, li_1, li_2, li_4, nI_leI, nI_clamp, Option.some.injEq, exists_eq_left', true_and, Rp_i]
  refine ⟨fun q => ?_, fun q => ?_⟩
  · rw [show min n m = m by omega] at hQ; exact hQ
  · rw [show min n m = n by omega] at hQ; exact hQ
/-- WireBusModel.request -/
theorem r_request {d j : Nat} (h : RM a ra R M) (hx : EX P) (hr : RelD P R d) (hd : d < 6) (h89 : s_ P 89 d ≠ 3) (h50 : R 50 0 = nI j) (hj : j < 60) (hk : RelK P R j) (hl : (b_ P 7 j).length = 8) (hb : ∀ x ∈ b_ P 7 j, x < 256) (h55 : ∀ i, i < 18 → R 55 i = nI (hd0.getD i 0)) : sm_Run (D + 3) 170 0 (sm_ent 170 [.inr (some a), .inl (nI d)]) [] M (fun r M' => r = none ∧ ∃ R', RM a ra R' M' ∧ RelD (p_zBeg P d (b_ P 7 j)) R' d ∧ FrR d R R') := by
  have hl2 := l16_lt hb 2
  have hl4 := l16_lt hb 4
  have hl6 := l16_lt hb 6
  have hw0 := byte_getD hb 0
  have hw1 := byte_getD hb 1
  have x1 := ex_z1 hx hd hb
  obtain ⟨⟨a4, a5, a6, a7, a8, a9, a19, a20, a18⟩, hz, he⟩ := hr
  generalize hL : b_ P 7 j = L at *
  have by_ : ∀ D i, i < 8 → sm_Run D 168 0 (sm_ent 168 [.inr (some a), .inl (nI i)]) [] M (fun v M' => v = some (.inl (nI (L.getD i 0))) ∧ M = M') := by
    intro D i hi
    have := r_byteAt (D := D) h h50 hj (show i < 64 by omega) (by rw [hL, hl]; exact hi) hk
    rw [hL] at this; exact this
  refine bb_170_0 ⟨h.1, ru_mono (by_ _ 0 (by decide)) ?_⟩
  rintro v M1 ⟨rfl, rfl⟩
  refine bb_170_5 ⟨h.1, ru_mono (by_ _ 1 (by decide)) ?_⟩
  rintro v M1 ⟨rfl, rfl⟩
  refine bb_170_11 ⟨h.1, ru_mono (by_ _ 2 (by decide)) ?_⟩
  rintro v M1 ⟨rfl, rfl⟩
  refine bb_170_17 ⟨h.1, ru_mono (by_ _ 3 (by decide)) ?_⟩
  rintro v M1 ⟨rfl, rfl⟩
  refine bb_170_25 ⟨h.1, ru_mono (by_ _ 4 (by decide)) ?_⟩
  rintro v M1 ⟨rfl, rfl⟩
  refine bb_170_34 ⟨h.1, ru_mono (by_ _ 5 (by decide)) ?_⟩
  rintro v M1 ⟨rfl, rfl⟩
  refine bb_170_42 ⟨h.1, ru_mono (by_ _ 6 (by decide)) ?_⟩
  rintro v M1 ⟨rfl, rfl⟩
  refine bb_170_52 ⟨h.1, ru_mono (by_ _ 7 (by decide)) ?_⟩
  rintro v M1 ⟨rfl, rfl⟩
  have ew : lwh L = 256 * L.getD 0 0 + L.getD 1 0 := by unfold lwh; omega
  have e2 : l16 L 2 = L.getD 2 0 + 256 * L.getD 3 0 := rfl
  have e4 : l16 L 4 = L.getD 4 0 + 256 * L.getD 5 0 := rfl
  have e6 : l16 L 6 = L.getD 6 0 + 256 * L.getD 7 0 := rfl
  refine bb_170_61 ?_
  simp (disch := first | assumption | omega | decide) only [rd_r21 h, rN_21 h, rW_21 h, rd_r23 h, rN_23 h, rW_23 h, rd_r28 h, rN_28 h, rW_28 h, rd_r26 h, rN_26 h, rW_26 h, rd_r25 h, rN_25 h, rW_25 h, rd_r27 h, rN_27 h, rW_27 h, rd_r24 h, rN_24 h, rW_24 h, rd_r22 h, rN_22 h, rW_22 h, rd_r30 h, rN_30 h, rW_30 h, rk_39 h, ← e6, ← e2, ← e4, ← ew, ↓li_m1, li_0, li_1, li_128, li_256, nI_add, pk_mul, nI_ltI, nI_clamp, Option.some.injEq, exists_eq_left', true_and, Rp_i]
  have h1 := rm_wr (rm_wr (rm_wr (rm_wr (rm_wr (rm_wr (rm_wr (rm_wr (rm_wr h (f := 21) (j := d) (v := nI 1)) (f := 23) (j := d) (v := nI 1)) (f := 28) (j := d) (v := nE 0)) (f := 26) (j := d) (v := nI 0)) (f := 25) (j := d) (v := nI 0)) (f := 27) (j := d) (v := nI 0)) (f := 24) (j := d) (v := nI (l16 L 6))) (f := 22) (j := d) (v := nI 0)) (f := 30) (j := d) (v := nE 0)
  generalize hM1 : sm_putI (sm_putI (sm_putI (sm_putI (sm_putI (sm_putI (sm_putI (sm_putI (sm_putI M (ra 21) d (nI 1)) (ra 23) d (nI 1)) (ra 28) d (nE 0)) (ra 26) d (nI 0)) (ra 25) d (nI 0)) (ra 27) d (nI 0)) (ra 24) d (nI (l16 L 6))) (ra 22) d (nI 0)) (ra 30) d (nE 0) = M1 at h1 ⊢
  generalize hR1 : sm_u2 (sm_u2 (sm_u2 (sm_u2 (sm_u2 (sm_u2 (sm_u2 (sm_u2 (sm_u2 R 21 d (nI 1)) 23 d (nI 1)) 28 d (nE 0)) 26 d (nI 0)) 25 d (nI 0)) 27 d (nI 0)) 24 d (nI (l16 L 6))) 22 d (nI 0)) 30 d (nE 0) = R1 at h1
  have fr : FrR d R R1 := by rw [← hR1]; (repeat' (first | exact fr_refl | assumption | refine fr_u ?_ (by unfold ownR; omega) | refine fr_row ?_ (by unfold ownR; omega)))
  have A1 : RelA (p_zB1 P d L) R1 d := by
    rw [← hR1]; unfold RelA p_zB1; simp only [u2_r, s_S, b_S, Nat.reduceEqDiff, false_and, and_true, if_false]; ((repeat' (with_reducible refine And.intro ?_ ?_)) <;> (first | assumption | rfl | trivial | omega))
  have E1 : ∀ k, k < s_ (p_zB1 P d L) 86 d → RelE (p_zB1 P d L) R1 (6 * d + k) := by
    intro k hk
    have := he k (by revert hk; unfold p_zB1; simp only [s_S, Nat.reduceEqDiff, and_true, if_false]; exact id)
    rw [← hR1]; unfold RelE p_zB1 at *; simp only [u2_r, s_S, b_S, Nat.reduceEqDiff, false_and, if_false]; exact this
  have Z1 : RZ1 (p_zB1 P d L) R1 d := by
    rw [← hR1]; unfold RZ1 p_zB1; simp only [u2_r, s_S, Nat.reduceEqDiff, and_true, and_self, if_true, if_false, ite_self]
  have r21 : R1 21 d = nI 1 := by rw [← hR1]; simp only [u2_r, Nat.reduceEqDiff, and_true, and_self, if_true, if_false, ite_self]
  have r25 : R1 25 d = nI 0 := by rw [← hR1]; simp only [u2_r, Nat.reduceEqDiff, and_true, and_self, if_true, if_false, ite_self]
  have r27 : R1 27 d = nI 0 := by rw [← hR1]; simp only [u2_r, Nat.reduceEqDiff, and_true, and_self, if_true, if_false, ite_self]
  have r28 : R1 28 d = nE 0 := by rw [← hR1]; simp only [u2_r, Nat.reduceEqDiff, and_true, and_self, if_true, if_false, ite_self]
  have r55 : ∀ i, i < 18 → R1 55 i = nI (hd0.getD i 0) := fun i hi => by rw [← hR1]; simp only [u2_r, Nat.reduceEqDiff, false_and, if_false]; exact h55 i hi
  have p65 : s_ (p_zB1 P d L) 65 d = l16 L 6 := by unfold p_zB1; simp only [s_S, Nat.reduceEqDiff, and_true, and_self, if_true, if_false]
  have p66 : s_ (p_zB1 P d L) 66 d = l16 L 2 := by unfold p_zB1; simp only [s_S, Nat.reduceEqDiff, and_true, and_self, if_true, if_false]
  have p64 : s_ (p_zB1 P d L) 64 d = 0 := by unfold p_zB1; simp only [s_S, Nat.reduceEqDiff, and_true, and_self, if_true, if_false, ite_self]
  have p67 : s_ (p_zB1 P d L) 67 d = 0 := by unfold p_zB1; simp only [s_S, Nat.reduceEqDiff, and_true, and_self, if_true, if_false, ite_self]
  have p69 : s_ (p_zB1 P d L) 69 d = 0 := by unfold p_zB1; simp only [s_S, Nat.reduceEqDiff, and_true, and_self, if_true, if_false]
  have p89 : s_ (p_zB1 P d L) 89 d ≠ 3 := by unfold p_zB1; simp only [s_S, Nat.reduceEqDiff, and_true, if_false]; exact h89
  have hB : p_zBeg P d L = if lwh L < 32768 then pS (p_bfh (pB (p_zB1 P d L) 29 d []) d (lwh L) (l16 L 4)).1 60 d (p_bfh (pB (p_zB1 P d L) 29 d []) d (lwh L) (l16 L 4)).2
      else match p_tell (p_zB1 P d L) d (lwh L) (l16 L 2) (l16 L 4) with
        | none => pS (pS (p_zB1 P d L) 63 d 0) 60 d 1
        | some t => pS (pS (pB (p_zB1 P d L) 29 d t) 63 d (min t.length (l16 L 6) + 1)) 60 d (if l16 L 6 = 0 then 5 else 2) := rfl
  rw [bfh_B] at hB
  clear hR1 hM1 h he hz a4 a5 a6 a7 a8 a9 a19 a20 a18
  generalize p_zB1 P d L = P1 at *
  have fin : ∀ (R2 : Nat → Nat → Int32) (M2 : sm_M), RM a ra R2 M2 → RelA P1 R2 d → (∀ k, k < s_ P1 86 d → RelE P1 R2 (6 * d + k)) → RZ1 P1 R2 d → R2 21 d = nI 1 → FrR d R R2 → (lwh L < 32768 ∨ p_tell P1 d (lwh L) (l16 L 2) (l16 L 4) = none) → sm_Run (D + 3) 170 159 [some (.inr (some a)), some (.inl (nI d)), some (.inl (nI (L.getD 0 0))), some (.inl (nI (L.getD 1 0))), some (.inl (nI (l16 L 2))), some (.inl (nI (l16 L 4))), some (.inl (nI (l16 L 6))), none] [] M2 (fun r M' => r = none ∧ ∃ R', RM a ra R' M' ∧ RelD (p_zBeg P d L) R' d ∧ FrR d R R') := by
    intro R2 M2 h A2 E2 Z2 q21 fr hw
    have A2' := A2
    obtain ⟨a4, a5, a6, a7, a8, a9, a19, a20, a18⟩ := A2'
    obtain ⟨z64, z67, z22, z23, z24, z26, z30⟩ := id Z2
    have st1 : RelD (pS P1 60 d 1) R2 d := by
      refine ⟨?_, ?_, fun k hk => ?_⟩
      · unfold RelA; simp only [s_S, b_S, Nat.reduceEqDiff, and_true, if_false]; ((repeat' (with_reducible refine And.intro ?_ ?_)) <;> (first | assumption | rfl | trivial | omega))
      · unfold RelZ; simp only [s_S, b_S, z64, Nat.reduceEqDiff, true_and, and_true, and_self, if_true, if_false, or_self, false_implies, Nat.reduceLeDiff]; ((repeat' (with_reducible refine And.intro ?_ ?_)) <;> (first | assumption | rfl | trivial | omega))
      · have := E2 k (by revert hk; simp only [s_S, Nat.reduceEqDiff, and_true, if_false]; exact id)
        unfold RelE at *; simp only [s_S, b_S, Nat.reduceEqDiff, false_and, if_false]; exact this
    have e278 : (lwh L = 16385 → 64 < l16 L 2 + l16 L 6) → sm_Run (D + 3) 170 278 [some (.inr (some a)), some (.inl (nI d)), some (.inl (nI (L.getD 0 0))), some (.inl (nI (L.getD 1 0))), some (.inl (nI (l16 L 2))), some (.inl (nI (l16 L 4))), some (.inl (nI (l16 L 6))), some (.inl (nI 0))] [] M2 (fun r M' => r = none ∧ ∃ R', RM a ra R' M' ∧ RelD (p_zBeg P d L) R' d ∧ FrR d R R') := by
      intro q
      refine bb_170_278 ?_
      simp (disch := first | assumption | omega | decide) only [rk_39 h, ← ew, li_0, li_256, nI_add, pk_mul, nI_eq, Decidable.not_not, true_and]
      refine ⟨fun q6 => ⟨R2, h, ?_, fr⟩, fun q6 => ?_⟩
      · rw [hB]
        by_cases qw : lwh L < 32768
        · rw [if_pos qw]
          have e : p_bfh P1 d (lwh L) (l16 L 4) = (P1, 1) := by
            unfold p_bfh
            by_cases w1 : lwh L = 16385
            · rw [if_pos w1, if_pos (by rw [p66, p65]; exact q w1)]
            · rw [if_neg w1, if_pos (by rw [p65]; exact q6)]
          rw [e]
          exact relD_cv st1 (fun f i hf => by rw [s_S, s_B, s_S]) (fun c i hc => by rw [b_S, b_B, if_neg (fun q => hc q.1), b_S]) (by simp only [s_S, and_self, if_true] <;> decide) (by simp only [s_S, Nat.reduceEqDiff, and_true, and_self, if_true, if_false] <;> (intro q; cases q))
        · rw [if_neg qw, hw.resolve_left qw]
          exact relD_cv st1 (fun f i hf => by simp only [s_S, hf, false_and, if_false]) (fun c i hc => rfl) (by simp only [s_S, and_self, if_true] <;> decide) (by simp only [s_S, Nat.reduceEqDiff, and_true, and_self, if_true, if_false] <;> (intro q; cases q))
      · have h65 : s_ P1 65 d = 0 := by rw [p65]; exact q6
        have o := r_orders (D := D + 1) (w := lwh L) (ix := l16 L 4) h x1 A2 E2 Z2 hd h65 (by omega) (by omega) (fun w1 => by rw [p66]; have := q w1; omega)
        rw [p66] at o
        refine ru_mono o ?_
        rintro r M3 ⟨rfl, R3, h3, hD3, f3⟩
        refine bb_170_299 ⟨rfl, R3, h3, ?_, frR_t fr f3⟩
        rw [hB]
        by_cases qw : lwh L < 32768
        · rw [if_pos qw]
          have b15 := bfh_15 (w := lwh L) (ix := l16 L 4) h65
          exact relD_cv hD3 (fun f i hf => by rw [s_S, s_B, s_S]) (fun c i hc => by rw [b_S, b_B, if_neg (fun q => hc q.1), b_S]) (by simp only [s_S, and_self, if_true] <;> omega) (by simp only [s_S, Nat.reduceEqDiff, and_true, and_self, if_true, if_false] <;> (intro q; omega))
        · rw [if_neg qw, hw.resolve_left qw]
          rw [bfh_n (by omega)] at hD3
          exact relD_cv hD3 (fun f i hf => by simp only [s_S, hf, false_and, if_false]) (fun c i hc => rfl) (by simp only [s_S, and_self, if_true] <;> decide) (by simp only [s_S, Nat.reduceEqDiff, and_true, and_self, if_true, if_false] <;> (intro q; cases q))
    refine bb_170_159 ?_
    simp (disch := first | assumption | omega | decide) only [rd_r31 h, rN_31 h, rW_31 h, rd_r21 h, rN_21 h, rW_21 h, rk_39 h, li_0, li_1, li_3, li_4, li_64, nI_add, nI_eq, nI_leI, nI_ltI, nI_clamp, Decidable.not_not, Option.some.injEq, exists_eq_left', true_and, Rp_i]
    refine ⟨fun q0 => e278 (fun q => by omega), fun q0 => ⟨fun q1 => e278 (fun q => by omega), fun q1 => ⟨fun q2 => e278 (fun _ => q2), fun q2 => ?_⟩⟩⟩
    have w1 : lwh L = 16385 := by omega
    have e : p_bfh P1 d (lwh L) (l16 L 4) = (P1, if l16 L 6 = 0 then 5 else 4) := by
      unfold p_bfh; rw [if_pos w1, if_neg (by rw [p66, p65]; omega), p65]
    rw [hB, if_pos (by omega), e]
    refine ⟨fun q3 => ?_, fun q3 => ?_⟩
    · refine ⟨_, rm_wr (rm_wr h), ⟨?_, ?_, fun k hk => ?_⟩, ?_⟩
      · unfold RelA; simp only [u2_r, s_S, s_B, b_S, b_B, Nat.reduceEqDiff, false_and, and_true, if_false]; ((repeat' (with_reducible refine And.intro ?_ ?_)) <;> (first | assumption | rfl | trivial | omega))
      · unfold RelZ; simp only [u2_r, s_S, s_B, b_S, b_B, z64, z67, show l16 L 6 = 0 by omega, Nat.reduceEqDiff, false_and, true_and, and_true, and_self, if_true, if_false, or_self, or_true, false_implies, true_implies, Nat.reduceLeDiff]; ((repeat' (with_reducible refine And.intro ?_ ?_)) <;> (first | assumption | rfl | trivial | omega))
      · have := E2 k (by revert hk; simp only [s_S, s_B, Nat.reduceEqDiff, and_true, if_false]; exact id)
        unfold RelE at *; simp only [u2_r, s_S, s_B, b_S, b_B, Nat.reduceEqDiff, false_and, if_false]; exact this
      · (repeat' (first | exact fr_refl | assumption | refine fr_u ?_ (by unfold ownR; omega) | refine fr_row ?_ (by unfold ownR; omega)))
    · refine ⟨_, rm_wr (rm_wr h), ⟨?_, ?_, fun k hk => ?_⟩, ?_⟩
      · unfold RelA; simp only [u2_r, s_S, s_B, b_S, b_B, Nat.reduceEqDiff, false_and, and_true, if_false]; ((repeat' (with_reducible refine And.intro ?_ ?_)) <;> (first | assumption | rfl | trivial | omega))
      · unfold RelZ; simp only [u2_r, s_S, s_B, b_S, b_B, z64, z67, p66, show ¬ l16 L 6 = 0 by omega, Nat.reduceEqDiff, false_and, true_and, and_true, and_self, if_true, if_false, or_self, or_false, false_implies, true_implies, Nat.reduceLeDiff]
        exact ⟨rfl, z23, z24, z26, z22, fun j hj => absurd hj (Nat.not_lt_zero _), z30⟩
      · have := E2 k (by revert hk; simp only [s_S, s_B, Nat.reduceEqDiff, and_true, if_false]; exact id)
        unfold RelE at *; simp only [u2_r, s_S, s_B, b_S, b_B, Nat.reduceEqDiff, false_and, if_false]; exact this
      · (repeat' (first | exact fr_refl | assumption | refine fr_u ?_ (by unfold ownR; omega) | refine fr_row ?_ (by unfold ownR; omega)))
  refine ⟨fun q => fin R1 M1 h1 A1 E1 Z1 r21 fr (Or.inl (by omega)), fun q => ?_⟩
  refine ru_mono (r_replies (D := D) h1 x1 A1 E1 hd r25 r55 (by omega) (by omega) (by omega)) ?_
  rintro r M2 ⟨rfl, z⟩
  cases ht : p_tell P1 d (lwh L) (l16 L 2) (l16 L 4) with
  | none =>
    rw [ht] at z; obtain ⟨R2, h2, -, tz⟩ := z
    have tc : ∀ f i, f ≠ 25 ∧ f ≠ 29 → R2 f i = R1 f i := fun f i hf => tz f i (by omega)
    refine bb_170_152 ⟨fun _ => fin R2 M2 h2 (ct_A tc A1) (fun k hk => ct_E tc (E1 k hk)) (ct_Z tc Z1) (by rw [tc _ _ (by decide)]; exact r21) (fun f i hn => (tz f i (fun q => hn (by unfold ownR; omega))).trans (fr f i hn)) (Or.inr ht), fun q => absurd rfl q⟩
  | some t =>
    have tl := tell_len x1 hd ht
    rw [ht] at z; obtain ⟨R2, h2, ⟨c25, c29⟩, tz⟩ := z
    have tc : ∀ f i, f ≠ 25 ∧ f ≠ 29 → R2 f i = R1 f i := fun f i hf => tz f i (by omega)
    have A2 := ct_A tc A1
    obtain ⟨a4, a5, a6, a7, a8, a9, a19, a20, a18⟩ := A2
    obtain ⟨z64, z67, z22, z23, z24, z26, z30⟩ := ct_Z tc Z1
    have E2 : ∀ k, k < s_ P1 86 d → RelE P1 R2 (6 * d + k) := fun k hk => ct_E tc (E1 k hk)
    have y27 : R2 27 d = nI 0 := by rw [tc _ _ (by decide)]; exact r27
    have y28 : R2 28 d = nE 0 := by rw [tc _ _ (by decide)]; exact r28
    have fr2 : FrR d R R2 := fun f i hn => (tz f i (fun q => hn (by unfold ownR; omega))).trans (fr f i hn)
    have c25 : R2 25 d = nI t.length := c25
    have c29 : ∀ i, i < t.length → R2 29 (100 * d + i) = nI (t.getD i 0) := c29
    refine r_req_min h2 hd c25 (by omega) (by omega) ?_
    generalize hn : min t.length (l16 L 6) = n at *
    have h3 := rm_wr h2 (f := 25) (j := d) (v := nI n)
    rw [hB, if_neg (by omega), ht]
    dsimp only
    rw [hn]
    refine ⟨fun q3 => ⟨rfl, ?_⟩, fun q3 => ⟨rfl, ?_⟩⟩
    · refine ⟨_, rm_wr (rm_wr h3), ⟨?_, ?_, fun k hk => ?_⟩, ?_⟩
      · unfold RelA; simp only [u2_r, s_S, s_B, b_S, b_B, Nat.reduceEqDiff, false_and, and_true, if_false]; ((repeat' (with_reducible refine And.intro ?_ ?_)) <;> (first | assumption | rfl | trivial | omega))
      · unfold RelZ; simp only [u2_r, s_S, s_B, b_S, b_B, z64, z67, show l16 L 6 = 0 by omega, Nat.reduceEqDiff, false_and, true_and, and_true, and_self, if_true, if_false, or_self, or_true, false_implies, implies_true, true_implies, Nat.reduceLeDiff]; ((repeat' (with_reducible refine And.intro ?_ ?_)) <;> (first | assumption | rfl | trivial | omega))
      · have := E2 k (by revert hk; simp only [s_S, s_B, Nat.reduceEqDiff, and_true, if_false]; exact id)
        unfold RelE at *; simp only [u2_r, s_S, s_B, b_S, b_B, Nat.reduceEqDiff, false_and, if_false]; exact this
      · (repeat' (first | exact fr_refl | assumption | refine fr_u ?_ (by unfold ownR; omega) | refine fr_row ?_ (by unfold ownR; omega)))
    · refine ⟨_, rm_wr (rm_wr h3), ⟨?_, ?_, fun k hk => ?_⟩, ?_⟩
      · unfold RelA; simp only [u2_r, s_S, s_B, b_S, b_B, Nat.reduceEqDiff, false_and, and_true, if_false]; ((repeat' (with_reducible refine And.intro ?_ ?_)) <;> (first | assumption | rfl | trivial | omega))
      · unfold RelZ RelZ2; simp only [u2_r, s_S, s_B, b_S, b_B, nfl_S, z64, z67, p65, p69, y27, y28, show ¬ l16 L 6 = 0 by omega, Nat.reduceEqDiff, false_and, true_and, and_true, and_self, if_true, if_false, or_self, or_false, true_or, false_implies, implies_true, true_implies, Nat.reduceLeDiff, not_true_eq_false, not_false_eq_true, ne_eq]
        refine ⟨rfl, z23, by rw [← p65]; exact z24, z26, by rw [Nat.add_sub_cancel], ⟨False.elim, fun q => ?_⟩, fun j hj => c29 j (by omega), fun q => absurd q p89⟩
        rcases q with q | q
        · omega
        · exact absurd q (by decide)
      · have := E2 k (by revert hk; simp only [s_S, s_B, Nat.reduceEqDiff, and_true, if_false]; exact id)
        unfold RelE at *; simp only [u2_r, s_S, s_B, b_S, b_B, Nat.reduceEqDiff, false_and, if_false]; exact this
      · (repeat' (first | exact fr_refl | assumption | refine fr_u ?_ (by unfold ownR; omega) | refine fr_row ?_ (by unfold ownR; omega)))
end RU
