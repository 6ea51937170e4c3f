/-! The reference sends a packet: the whole. -/
theorem u2_self {R : Nat → Nat → Int32} {f i : Nat} {v : Int32} (h : R f i = v) : sm_u2 R f i v = R := by
  funext f' i'
  rw [u2_r]
  split
  · rename_i q; rw [q.1, q.2]; exact h.symm
  · rfl
section RS
variable {a : Nat} {ra : Nat → Nat} {R : Nat → Nat → Int32} {M : sm_M} {D : Nat} {P : pP}
def rs19 (R : Nat → Nat → Int32) (s n f i : Nat) : Int32 := if f = 19 ∧ i < n ∧ i + 1 ≠ s then nI 0 else R f i
theorem rs19_0 {s : Nat} : rs19 R s 0 = R := by
  funext f i; unfold rs19; rw [if_neg (by omega)]
theorem rs19_s {s n : Nat} : sm_u2 (rs19 R s n) 19 n (if n + 1 = s then rs19 R s n 19 n else nI 0) = rs19 R s (n + 1) := by
  funext f i
  rw [u2_r]
  unfold rs19
  by_cases q : f = 19 ∧ i = n
  · rw [if_pos q]
    obtain ⟨rfl, rfl⟩ := q
    by_cases q1 : i + 1 = s
    · rw [if_pos q1, if_neg (by omega), if_neg (by omega)]
    · rw [if_neg q1, if_pos (by omega)]
  · rw [if_neg q]
    by_cases q1 : f = 19 ∧ i < n ∧ i + 1 ≠ s
    · rw [if_pos q1, if_pos (by omega)]
    · rw [if_neg q1, if_neg (by omega)]
theorem r_goE0 {j : Nat} {x1 x2 x3 x4 x5 x7 : Int32} {z9 z10 : Option sm_V} (hj : j < 60) (h43 : R 43 j = nI 0) : ∀ (m i : Nat) (M : sm_M), i + m = 6 → RM a ra R M → sm_Run (D + 1) 159 340 [some (.inr (some a)), some (.inl x1), some (.inl x2), some (.inl x3), some (.inl x4), some (.inl x5), some (.inl (nI j)), some (.inl x7), some (.inl (nI i)), z9, z10] [] M (fun v M' => v = some (.inl (nI 1)) ∧ RM a ra R M') := by
  intro m
  induction m with
  | zero =>
    intro i M hi h
    obtain rfl : i = 6 := by omega
    refine bb_159_340 ?_
    simp (disch := first | assumption | omega | decide) only [rd_r43 h, rR_43 h, rN_43 h, rW_43 h, rA_43 h, rk_39 h, h43, Nat.le_refl, ↓li_m1, li_0, li_1, li_2, li_3, li_4, li_5, li_6, li_7, li_8, li_9, li_10, li_11, li_12, li_13, li_14, li_16, li_18, li_20, li_32, li_36, li_40, li_50, li_60, li_64, li_100, li_127, li_128, li_200, li_255, li_256, li_290, li_300, li_336, li_512, li_513, li_515, li_660, li_2048, li_16385, li_32768, li_32774, li_32776, li_33280, li_49153, nI_add, pk_mul, nI_eq, nI_leI, nI_ltI, pk_sub, nI_clamp, Decidable.not_not, Nat.reduceAdd, Nat.reduceMul, Option.some.injEq, exists_eq_left', exists_eq_left, forall_eq', reduceCtorEq, false_implies, forall_const, true_and, and_true, not_false_eq_true, not_true_eq_false, Nat.reduceEqDiff, Ip_r h, Ip_a h, Ip_b h, I_put_s, I_put_k, Rp_j, u2_r, rowU_r, false_and, and_false, if_false, if_true, reduceIte]
    exact h
  | succ m ih =>
    intro i M hi h
    refine bb_159_340 ?_
    simp (disch := first | assumption | omega | decide) only [rd_r43 h, rR_43 h, rN_43 h, rW_43 h, rA_43 h, rd_r19 h, rR_19 h, rN_19 h, rW_19 h, rA_19 h, rk_39 h, h43, ↓li_m1, li_0, li_1, li_2, li_3, li_4, li_5, li_6, li_7, li_8, li_9, li_10, li_11, li_12, li_13, li_14, li_16, li_18, li_20, li_32, li_36, li_40, li_50, li_60, li_64, li_100, li_127, li_128, li_200, li_255, li_256, li_290, li_300, li_336, li_512, li_513, li_515, li_660, li_2048, li_16385, li_32768, li_32774, li_32776, li_33280, li_49153, nI_add, pk_mul, nI_eq, nI_leI, nI_ltI, pk_sub, nI_clamp, Decidable.not_not, Nat.reduceAdd, Nat.reduceMul, Option.some.injEq, exists_eq_left', exists_eq_left, forall_eq', reduceCtorEq, false_implies, forall_const, true_and, and_true, not_false_eq_true, not_true_eq_false, Nat.reduceEqDiff, Ip_r h, Ip_a h, Ip_b h, I_put_s, I_put_k, Rp_j, u2_r, rowU_r, false_and, and_false, if_false, if_true, reduceIte]
    refine ⟨fun q => by omega, fun _ => ?_⟩
    refine ih (i + 1) _ (by omega) ?_
    have := rm_wr h (f := 19) (j := i) (v := R 19 i)
    rw [u2_self rfl] at this
    exact this
theorem r_goE1 {j s c : Nat} {x2 x3 x4 x5 x7 : Int32} {z9 z10 : Option sm_V} (hj : j < 60) (hs : s < 7) (hc : c = 1 ∨ c = 2) (h43 : R 43 j = nI c) : ∀ (m i : Nat) (M : sm_M), i + m = 6 → RM a ra (rs19 R s i) M → sm_Run (D + 1) 159 340 [some (.inr (some a)), some (.inl (nE s)), some (.inl x2), some (.inl x3), some (.inl x4), some (.inl x5), some (.inl (nI j)), some (.inl x7), some (.inl (nI i)), z9, z10] [] M (fun v M' => v = some (.inl (nI 0)) ∧ RM a ra (rs19 R s 6) M') := by
  intro m
  induction m with
  | zero =>
    intro i M hi h
    obtain rfl : i = 6 := by omega
    have r43 : rs19 R s 6 43 j = nI c := by unfold rs19; rw [if_neg (by omega)]; exact h43
    refine bb_159_340 ?_
    simp (disch := first | assumption | omega | decide) only [rd_r43 h, rR_43 h, rN_43 h, rW_43 h, rA_43 h, rk_39 h, r43, Nat.le_refl, ↓li_m1, li_0, li_1, li_2, li_3, li_4, li_5, li_6, li_7, li_8, li_9, li_10, li_11, li_12, li_13, li_14, li_16, li_18, li_20, li_32, li_36, li_40, li_50, li_60, li_64, li_100, li_127, li_128, li_200, li_255, li_256, li_290, li_300, li_336, li_512, li_513, li_515, li_660, li_2048, li_16385, li_32768, li_32774, li_32776, li_33280, li_49153, nI_add, pk_mul, nI_eq, nI_leI, nI_ltI, pk_sub, nI_clamp, Decidable.not_not, Nat.reduceAdd, Nat.reduceMul, Option.some.injEq, exists_eq_left', exists_eq_left, forall_eq', reduceCtorEq, false_implies, forall_const, true_and, and_true, not_false_eq_true, not_true_eq_false, Nat.reduceEqDiff, Ip_r h, Ip_a h, Ip_b h, I_put_s, I_put_k, Rp_j, u2_r, rowU_r, false_and, and_false, if_false, if_true, reduceIte]
    exact ⟨fun _ => h, fun q => by omega⟩
  | succ m ih =>
    intro i M hi h
    have r43 : rs19 R s i 43 j = nI c := by unfold rs19; rw [if_neg (by omega)]; exact h43
    refine bb_159_340 ?_
    simp (disch := first | assumption | omega | decide) only [rd_r43 h, rR_43 h, rN_43 h, rW_43 h, rA_43 h, rd_r19 h, rR_19 h, rN_19 h, rW_19 h, rA_19 h, rk_39 h, r43, nI_nE, ↓li_m1, li_0, li_1, li_2, li_3, li_4, li_5, li_6, li_7, li_8, li_9, li_10, li_11, li_12, li_13, li_14, li_16, li_18, li_20, li_32, li_36, li_40, li_50, li_60, li_64, li_100, li_127, li_128, li_200, li_255, li_256, li_290, li_300, li_336, li_512, li_513, li_515, li_660, li_2048, li_16385, li_32768, li_32774, li_32776, li_33280, li_49153, nI_add, pk_mul, nI_eq, nI_leI, nI_ltI, pk_sub, nI_clamp, Decidable.not_not, Nat.reduceAdd, Nat.reduceMul, Option.some.injEq, exists_eq_left', exists_eq_left, forall_eq', reduceCtorEq, false_implies, forall_const, true_and, and_true, not_false_eq_true, not_true_eq_false, Nat.reduceEqDiff, Ip_r h, Ip_a h, Ip_b h, I_put_s, I_put_k, Rp_j, u2_r, rowU_r, false_and, and_false, if_false, if_true, reduceIte]
    refine ⟨fun q => by omega, fun _ => ⟨fun q => by omega, fun _ => ⟨fun q => ?_, fun q => ?_⟩⟩⟩
    · refine ih (i + 1) _ (by omega) ?_
      rw [← rs19_s, if_pos q.symm]
      exact rm_wr h
    · refine ih (i + 1) _ (by omega) ?_
      rw [← rs19_s, if_neg (fun q' => q q'.symm)]
      exact rm_wr h
/-- what sending leaves -/
def GOr (P : pP) (R R' : Nat → Nat → Int32) : Prop := RelK (p_carry1 P).1 R' (nk P) ∧ RF (p_carry1 P).1 R' ∧ R' 32 0 = nI (s_ P 228 0 + 1) ∧ R' 50 0 = nI (nk P) ∧ (∀ d, d < 6 → R' 19 d = if (p_carry1 P).2 ≠ none ∨ d + 1 = s_ P 140 (nk P) then R 19 d else nI 0) ∧ (∀ f i, f ≠ 19 → ¬ (32 ≤ f ∧ f ≤ 50) → R' f i = R f i) ∧ ∀ j, j < 60 → j ≠ nk P → ∀ f i, (37 ≤ f ∧ f ≤ 45 ∧ f ≠ 42 ∧ i = j) ∨ (f = 42 ∧ 100 * j ≤ i ∧ i < 100 * j + 100) → R' f i = R f i
theorem rf_cg {P' : pP} {R' : Nat → Nat → Int32} (h : RF P R) (h227 : s_ P' 227 0 = s_ P 227 0) (hf : f_ P' = f_ P) (hr : ∀ f i, 33 ≤ f ∧ f ≤ 36 → R' f i = R f i) : RF P' R' := by
  unfold RF at *
  rw [h227, hf]
  simp (disch := decide) only [hr]
  exact h
theorem rf_none (h : RF P R) (hS : s_ P 228 0 < 2 ^ 31) (hn : f_ P (s_ P 228 0) = none) : ∀ i, i < s_ P 227 0 → R 34 i ≠ nI (s_ P 228 0) := by
  obtain ⟨f1, f2, f3, f4, f5⟩ := h
  intro i hi q
  obtain ⟨p, w, x, p1, p2, p3, p4, p5, p6, p7⟩ := f3 i hi
  rw [p4, nI_eq p1 hS] at q
  rw [q, hn] at p7; cases p7
/-- the fault is gone -/
theorem rf_drop {i0 : Nat} (h : RF P R) (hS : s_ P 228 0 < 2 ^ 31) (h0 : i0 < s_ P 227 0) (hi0 : R 34 i0 = nI (s_ P 228 0)) : RF (p_drop P (s_ P 228 0)) (shR (sm_u2 R 33 0 (nI (s_ P 227 0 - 1))) i0 (s_ P 227 0 - 1)) := by
  obtain ⟨f1, f2, f3, f4, f5⟩ := h
  have e227 : s_ (p_drop P (s_ P 228 0)) 227 0 = s_ P 227 0 - 1 := by unfold p_drop; simp only [s_S, s_B, s_F, b_S, b_B, b_F, f_S, f_B, Nat.reduceEqDiff, false_and, and_false, true_and, and_true, and_self, if_true, if_false, reduceIte, ite_self]
  have ef : ∀ p, f_ (p_drop P (s_ P 228 0)) p = if p = s_ P 228 0 then none else f_ P p := fun p => by
    unfold p_drop; rw [f_S, f_F]
  have sg : ∀ f i, f = 34 ∨ f = 35 ∨ f = 36 → i < s_ P 227 0 - 1 → shR (sm_u2 R 33 0 (nI (s_ P 227 0 - 1))) i0 (s_ P 227 0 - 1) f i = R f (if i < i0 then i else i + 1) := by
    intro f i hf hi
    unfold shR
    by_cases q : i < i0
    · rw [if_neg (by omega), if_pos q, u2_r, if_neg (by omega)]
    · rw [if_pos (by omega), if_neg q, u2_r, if_neg (by omega)]
  unfold RF
  rw [e227]
  refine ⟨by omega, ?_, fun i hi => ?_, fun i i' hi hi' e => ?_, fun p w hw => ?_⟩
  · unfold shR; rw [if_neg (by omega), u2_r, if_pos ⟨rfl, rfl⟩]
  · rw [sg 34 i (by decide) hi, sg 35 i (by decide) hi, sg 36 i (by decide) hi]
    have hl : (if i < i0 then i else i + 1) < s_ P 227 0 := by split <;> omega
    have hne : (if i < i0 then i else i + 1) ≠ i0 := by split <;> omega
    generalize (if i < i0 then i else i + 1) = k at *
    obtain ⟨p, w, x, p1, p2, p3, p4, p5, p6, p7⟩ := f3 k hl
    refine ⟨p, w, x, p1, p2, p3, p4, p5, p6, ?_⟩
    rw [ef, if_neg]
    · exact p7
    · intro e
      exact hne (f4 k i0 hl h0 (by rw [p4, hi0, e]))
  · rw [sg 34 i (by decide) hi, sg 34 i' (by decide) hi'] at e
    have := f4 _ _ (by split <;> omega) (by split <;> omega) e
    revert this
    split <;> split <;> omega
  · rw [ef] at hw
    by_cases q : p = s_ P 228 0
    · rw [if_pos q] at hw; cases hw
    · rw [if_neg q] at hw
      obtain ⟨p1, i, hi, hp⟩ := f5 p w hw
      have hne : i ≠ i0 := by
        rintro rfl
        rw [hi0, nI_eq hS p1] at hp
        exact q hp.symm
      refine ⟨p1, if i < i0 then i else i - 1, ?_, ?_⟩
      · split <;> omega
      · rw [sg 34 _ (by decide) (by split <;> omega), ← hp]
        congr 1
        by_cases q2 : i < i0
        · rw [if_pos q2, if_pos q2]
        · rw [if_neg q2, if_neg (by omega)]; omega
end RS
