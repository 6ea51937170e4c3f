/-! The reference sends a packet. -/
section RG
variable {a : Nat} {ra : Nat → Nat} {R : Nat → Nat → Int32} {M : sm_M} {D : Nat} {P : pP}
/-- the planned faults -/
def RF (P : pP) (R : Nat → Nat → Int32) : Prop := s_ P 227 0 ≤ 50 ∧ R 33 0 = nI (s_ P 227 0) ∧ (∀ i, i < s_ P 227 0 → ∃ p w x, p < 2 ^ 31 ∧ w < 4 ∧ x < 2 ^ 31 ∧ R 34 i = nI p ∧ R 35 i = nI w ∧ (w ≠ 0 → R 36 i = nI x) ∧ f_ P p = some (w, x)) ∧ (∀ i i', i < s_ P 227 0 → i' < s_ P 227 0 → R 34 i = R 34 i' → i = i') ∧ ∀ p w, f_ P p = some w → p < 2 ^ 31 ∧ ∃ i, i < s_ P 227 0 ∧ R 34 i = nI p
abbrev gpR (R : Nat → Nat → Int32) (j n : Nat) (x1 x2 x3 x4 : Int32) : Nat → Nat → Int32 := sm_u2 (sm_u2 (sm_u2 (sm_u2 (sm_u2 (sm_u2 (sm_u2 R 37 j x1) 38 j x2) 39 j x3) 40 j x4) 41 j (nI n)) 43 j (nI 0)) 44 j (nE 0)
theorem r_goA1 {j n : Nat} {x1 x2 x3 x4 : Int32} {Q : Option sm_V → sm_M → Prop} (j60 : j < 60) (hn : n ≤ 64)
    (hQ : ∀ M1, RM a ra (rowU R 42 (100 * j) n (fun i => R 52 i)) M1 → sm_Run (D + 1) 159 109 [some (.inr (some a)), some (.inl x1), some (.inl x2), some (.inl x3), some (.inl x4), some (.inl (nI n)), some (.inl (nI j)), some (.inl (nE 0)), some (.inl (nI 0)), none, none] [] M1 Q) : ∀ (m i : Nat) (M1 : sm_M), i + m = n → RM a ra (rowU R 42 (100 * j) i (fun i => R 52 i)) M1 → sm_Run (D + 1) 159 70 [some (.inr (some a)), some (.inl x1), some (.inl x2), some (.inl x3), some (.inl x4), some (.inl (nI n)), some (.inl (nI j)), some (.inl (nI i)), none, none, none] [] M1 Q := by
  intro m
  induction m with
  | zero =>
    intro i M1 hi h1
    obtain rfl : i = n := by omega
    have := hQ M1 h1
    refine bb_159_70 ?_
    simp (disch := first | assumption | omega | decide) only [rk_39 h1, Nat.le_refl, ↓li_m1, li_0, li_1, li_2, li_3, li_4, li_5, li_6, li_7, li_8, li_9, li_10, li_11, li_12, li_13, li_14, li_16, li_18, li_20, li_32, li_36, li_40, li_50, li_60, li_64, li_100, li_127, li_128, li_200, li_255, li_256, li_290, li_300, li_336, li_512, li_513, li_515, li_660, li_2048, li_16385, li_32768, li_32774, li_32776, li_33280, li_49153, nI_add, pk_mul, nI_eq, nI_leI, nI_ltI, pk_sub, nI_clamp, Decidable.not_not, Nat.reduceAdd, Nat.reduceMul, Option.some.injEq, exists_eq_left', exists_eq_left, forall_eq', reduceCtorEq, false_implies, forall_const, true_and, and_true, not_false_eq_true, not_true_eq_false, Nat.reduceEqDiff, Ip_r h1, Ip_a h1, Ip_b h1, I_put_s, I_put_k, Rp_j, u2_r, rowU_r, false_and, and_false, if_false, if_true, reduceIte]
    exact this
  | succ m ih =>
    intro i M1 hi h1
    refine bb_159_70 ?_
    simp (disch := first | assumption | omega | decide) only [rd_r52 h1, rR_52 h1, rN_52 h1, rW_52 h1, rA_52 h1, rd_r42 h1, rR_42 h1, rN_42 h1, rW_42 h1, rA_42 h1, rk_39 h1, ↓li_m1, li_0, li_1, li_2, li_3, li_4, li_5, li_6, li_7, li_8, li_9, li_10, li_11, li_12, li_13, li_14, li_16, li_18, li_20, li_32, li_36, li_40, li_50, li_60, li_64, li_100, li_127, li_128, li_200, li_255, li_256, li_290, li_300, li_336, li_512, li_513, li_515, li_660, li_2048, li_16385, li_32768, li_32774, li_32776, li_33280, li_49153, nI_add, pk_mul, nI_eq, nI_leI, nI_ltI, pk_sub, nI_clamp, Decidable.not_not, Nat.reduceAdd, Nat.reduceMul, Option.some.injEq, exists_eq_left', exists_eq_left, forall_eq', reduceCtorEq, false_implies, forall_const, true_and, and_true, not_false_eq_true, not_true_eq_false, Nat.reduceEqDiff, Ip_r h1, Ip_a h1, Ip_b h1, I_put_s, I_put_k, Rp_j, u2_r, rowU_r, false_and, and_false, if_false, if_true, reduceIte]
    refine ⟨fun q => by omega, fun _ => ?_⟩
    refine ih (i + 1) _ (by omega) ?_
    have := rm_wr h1 (f := 42) (j := 100 * j + i) (v := R 52 i)
    rw [rowU_s (v := fun i => R 52 i)] at this
    exact this
theorem r_goA {S j n : Nat} {x1 x2 x3 x4 : Int32} {Q : Option sm_V → sm_M → Prop} (h : RM a ra R M) (h32 : R 32 0 = nI S) (hS : S < 2 ^ 31) (hj : S % 60 = j) (hn : n ≤ 64)
    (hQ : ∀ M1, RM a ra (rowU (gpR R j n x1 x2 x3 x4) 42 (100 * j) n (fun i => R 52 i)) M1 → sm_Run (D + 1) 159 109 [some (.inr (some a)), some (.inl x1), some (.inl x2), some (.inl x3), some (.inl x4), some (.inl (nI n)), some (.inl (nI j)), some (.inl (nE 0)), some (.inl (nI 0)), none, none] [] M1 Q) :
    sm_Run (D + 1) 159 0 (sm_ent 159 [.inr (some a), .inl x1, .inl x2, .inl x3, .inl x4, .inl (nI n)]) [] M Q := by
  have j60 : j < 60 := by omega
  refine bb_159_0 ?_
  simp (disch := first | assumption | omega | decide) only [rS_32 h, rd_r37 h, rR_37 h, rN_37 h, rW_37 h, rA_37 h, rd_r38 h, rR_38 h, rN_38 h, rW_38 h, rA_38 h, rd_r39 h, rR_39 h, rN_39 h, rW_39 h, rA_39 h, rd_r40 h, rR_40 h, rN_40 h, rW_40 h, rA_40 h, rd_r41 h, rR_41 h, rN_41 h, rW_41 h, rA_41 h, rk_39 h, h32, pk_rem, hj, ↓li_m1, li_0, li_1, li_2, li_3, li_4, li_5, li_6, li_7, li_8, li_9, li_10, li_11, li_12, li_13, li_14, li_16, li_18, li_20, li_32, li_36, li_40, li_50, li_60, li_64, li_100, li_127, li_128, li_200, li_255, li_256, li_290, li_300, li_336, li_512, li_513, li_515, li_660, li_2048, li_16385, li_32768, li_32774, li_32776, li_33280, li_49153, nI_add, pk_mul, nI_eq, nI_leI, nI_ltI, pk_sub, nI_clamp, Decidable.not_not, Nat.reduceAdd, Nat.reduceMul, Option.some.injEq, exists_eq_left', exists_eq_left, forall_eq', reduceCtorEq, false_implies, forall_const, true_and, and_true, not_false_eq_true, not_true_eq_false, Nat.reduceEqDiff, Ip_r h, Ip_a h, Ip_b h, I_put_s, I_put_k, Rp_j, u2_r, rowU_r, false_and, and_false, if_false, if_true, reduceIte]
  have h1 := rm_wr (rm_wr (rm_wr (rm_wr (rm_wr h (f := 37) (j := j) (v := x1)) (f := 38) (j := j) (v := x2)) (f := 39) (j := j) (v := x3)) (f := 40) (j := j) (v := x4)) (f := 41) (j := j) (v := nI n)
  generalize sm_putI (sm_putI (sm_putI (sm_putI (sm_putI M (ra 37) j x1) (ra 38) j x2) (ra 39) j x3) (ra 40) j x4) (ra 41) j (nI n) = M1 at *
  refine bb_159_51 ?_
  simp (disch := first | assumption | omega | decide) only [rd_r43 h1, rR_43 h1, rN_43 h1, rW_43 h1, rA_43 h1, rd_r44 h1, rR_44 h1, rN_44 h1, rW_44 h1, rA_44 h1, rk_39 h1, ↓li_m1, li_0, li_1, li_2, li_3, li_4, li_5, li_6, li_7, li_8, li_9, li_10, li_11, li_12, li_13, li_14, li_16, li_18, li_20, li_32, li_36, li_40, li_50, li_60, li_64, li_100, li_127, li_128, li_200, li_255, li_256, li_290, li_300, li_336, li_512, li_513, li_515, li_660, li_2048, li_16385, li_32768, li_32774, li_32776, li_33280, li_49153, nI_add, pk_mul, nI_eq, nI_leI, nI_ltI, pk_sub, nI_clamp, Decidable.not_not, Nat.reduceAdd, Nat.reduceMul, Option.some.injEq, exists_eq_left', exists_eq_left, forall_eq', reduceCtorEq, false_implies, forall_const, true_and, and_true, not_false_eq_true, not_true_eq_false, Nat.reduceEqDiff, Ip_r h1, Ip_a h1, Ip_b h1, I_put_s, I_put_k, Rp_j, u2_r, rowU_r, false_and, and_false, if_false, if_true, reduceIte]
  have h2 := rm_wr (rm_wr h1 (f := 43) (j := j) (v := nI 0)) (f := 44) (j := j) (v := nE 0)
  refine r_goA1 (R := gpR R j n x1 x2 x3 x4) j60 hn ?_ n 0 _ (by omega) (by rw [rowU_0]; exact h2)
  intro M2 h3
  refine hQ M2 ?_
  have e : (fun i => gpR R j n x1 x2 x3 x4 52 i) = fun i => R 52 i := by
    funext i; simp only [u2_r, rowU_r, s_S, s_B, s_F, b_S, b_B, b_F, f_S, f_B, nfl_S, nfl_B, Nat.reduceEqDiff, false_and, and_false, true_and, and_true, and_self, if_true, if_false, reduceIte, ite_self, or_self, or_false, false_or, or_true, true_or, false_implies, implies_true, true_implies, Nat.reduceLeDiff, not_true_eq_false, not_false_eq_true, ne_eq]
  rw [e] at h3
  exact h3
/-- which fault -/
theorem r_goN {S n : Nat} {x1 x2 x3 x4 x5 x6 : Int32} {Q : Option sm_V → sm_M → Prop} (h : RM a ra R M) (h32 : R 32 0 = nI S) (hn : n ≤ 50) (h33 : R 33 0 = nI n) (hno : ∀ i, i < n → R 34 i ≠ nI S) (hQ : ∀ x8, sm_Run (D + 1) 159 321 [some (.inr (some a)), some (.inl x1), some (.inl x2), some (.inl x3), some (.inl x4), some (.inl x5), some (.inl x6), some (.inl (nE 0)), some (.inl x8), none, none] [] M Q) : ∀ (m i : Nat), i + m = n → sm_Run (D + 1) 159 109 [some (.inr (some a)), some (.inl x1), some (.inl x2), some (.inl x3), some (.inl x4), some (.inl x5), some (.inl x6), some (.inl (nE 0)), some (.inl (nI i)), none, none] [] M Q := by
  intro m
  induction m with
  | zero =>
    intro i hi
    obtain rfl : i = n := by omega
    refine bb_159_109 ⟨h.1, fun _ => ⟨fun _ => hQ _, fun q => absurd rfl q⟩, fun q => ?_⟩
    exfalso; apply q
    rw [rS_33 h, h33]; exact nI_le (Nat.le_refl _) (by omega)
  | succ m ih =>
    intro i hi
    have := hno i (by omega)
    refine bb_159_109 ?_
    simp (disch := first | assumption | omega | decide) only [rS_32 h, rS_33 h, rd_r34 h, rR_34 h, rN_34 h, rW_34 h, rA_34 h, rk_39 h, h32, h33, ↓li_m1, li_0, li_1, li_2, li_3, li_4, li_5, li_6, li_7, li_8, li_9, li_10, li_11, li_12, li_13, li_14, li_16, li_18, li_20, li_32, li_36, li_40, li_50, li_60, li_64, li_100, li_127, li_128, li_200, li_255, li_256, li_290, li_300, li_336, li_512, li_513, li_515, li_660, li_2048, li_16385, li_32768, li_32774, li_32776, li_33280, li_49153, nI_add, pk_mul, nI_eq, nI_leI, nI_ltI, pk_sub, nI_clamp, Decidable.not_not, Nat.reduceAdd, Nat.reduceMul, Option.some.injEq, exists_eq_left', exists_eq_left, forall_eq', reduceCtorEq, false_implies, forall_const, true_and, and_true, not_false_eq_true, not_true_eq_false, Nat.reduceEqDiff, Ip_r h, Ip_a h, Ip_b h, I_put_s, I_put_k, Rp_j, u2_r, rowU_r, false_and, and_false, if_false, if_true, reduceIte]
    exact ⟨fun q => by omega, fun _ => ⟨fun _ => ih (i + 1) (by omega), fun q => absurd q this⟩⟩
theorem r_goF {S n i0 : Nat} {x1 x2 x3 x4 x5 x6 : Int32} {Q : Option sm_V → sm_M → Prop} (h : RM a ra R M) (h32 : R 32 0 = nI S) (hn : n ≤ 50) (h33 : R 33 0 = nI n) (h0 : i0 < n) (hi0 : R 34 i0 = nI S) (hno : ∀ i, i < n → i ≠ i0 → R 34 i ≠ nI S) (hQ : ∀ M1, RM a ra (sm_u2 R 33 0 (nI (n - 1))) M1 → sm_Run (D + 1) 159 185 [some (.inr (some a)), some (.inl x1), some (.inl x2), some (.inl x3), some (.inl x4), some (.inl x5), some (.inl x6), some (.inl (nI i0)), some (.inl (R 35 i0)), some (.inl (R 36 i0)), some (.inl (nI i0))] [] M1 Q) : ∀ (m i : Nat), i + m = n → sm_Run (D + 1) 159 109 [some (.inr (some a)), some (.inl x1), some (.inl x2), some (.inl x3), some (.inl x4), some (.inl x5), some (.inl x6), some (.inl (if i0 < i then nI i0 else nE 0)), some (.inl (nI i)), none, none] [] M Q := by
  have n1 := nI_n1 (show i0 < 2 ^ 31 by omega)
  intro m
  induction m with
  | zero =>
    intro i hi
    obtain rfl : i = n := by omega
    rw [if_pos h0]
    refine bb_159_109 ?_
    simp (disch := first | assumption | omega | decide) only [rS_33 h, rd_r35 h, rR_35 h, rN_35 h, rW_35 h, rA_35 h, rd_r36 h, rR_36 h, rN_36 h, rW_36 h, rA_36 h, rk_39 h, h33, Nat.le_refl, ↓li_m1, li_0, li_1, li_2, li_3, li_4, li_5, li_6, li_7, li_8, li_9, li_10, li_11, li_12, li_13, li_14, li_16, li_18, li_20, li_32, li_36, li_40, li_50, li_60, li_64, li_100, li_127, li_128, li_200, li_255, li_256, li_290, li_300, li_336, li_512, li_513, li_515, li_660, li_2048, li_16385, li_32768, li_32774, li_32776, li_33280, li_49153, nI_add, pk_mul, nI_eq, nI_leI, nI_ltI, pk_sub, nI_clamp, Decidable.not_not, Nat.reduceAdd, Nat.reduceMul, Option.some.injEq, exists_eq_left', exists_eq_left, forall_eq', reduceCtorEq, false_implies, forall_const, true_and, and_true, not_false_eq_true, not_true_eq_false, Nat.reduceEqDiff, Ip_r h, Ip_a h, Ip_b h, I_put_s, I_put_k, Rp_j, u2_r, rowU_r, false_and, and_false, if_false, if_true, reduceIte]
    refine ⟨fun q => absurd q n1, fun _ => hQ _ (rm_sr h)⟩
  | succ m ih =>
    intro i hi
    have ih' := ih (i + 1) (by omega)
    refine bb_159_109 ?_
    by_cases q0 : i = i0
    · subst q0
      rw [if_pos (by omega)] at ih'
      simp (disch := first | assumption | omega | decide) only [rS_32 h, rS_33 h, rd_r34 h, rR_34 h, rN_34 h, rW_34 h, rA_34 h, rk_39 h, h32, h33, hi0, ↓li_m1, li_0, li_1, li_2, li_3, li_4, li_5, li_6, li_7, li_8, li_9, li_10, li_11, li_12, li_13, li_14, li_16, li_18, li_20, li_32, li_36, li_40, li_50, li_60, li_64, li_100, li_127, li_128, li_200, li_255, li_256, li_290, li_300, li_336, li_512, li_513, li_515, li_660, li_2048, li_16385, li_32768, li_32774, li_32776, li_33280, li_49153, nI_add, pk_mul, nI_eq, nI_leI, nI_ltI, pk_sub, nI_clamp, Decidable.not_not, Nat.reduceAdd, Nat.reduceMul, Option.some.injEq, exists_eq_left', exists_eq_left, forall_eq', reduceCtorEq, false_implies, forall_const, true_and, and_true, not_false_eq_true, not_true_eq_false, Nat.reduceEqDiff, Ip_r h, Ip_a h, Ip_b h, I_put_s, I_put_k, Rp_j, u2_r, rowU_r, false_and, and_false, if_false, if_true, reduceIte]
      exact ⟨fun q => by omega, fun _ => ih'⟩
    · have := hno i (by omega) q0
      have e : (if i0 < i + 1 then nI i0 else nE 0) = if i0 < i then nI i0 else nE 0 := by
        by_cases q1 : i0 < i
        · rw [if_pos q1, if_pos (by omega)]
        · rw [if_neg q1, if_neg (by omega)]
      rw [e] at ih'
      generalize (if i0 < i then nI i0 else nE 0) = y at *
      simp (disch := first | assumption | omega | decide) only [rS_32 h, rS_33 h, rd_r34 h, rR_34 h, rN_34 h, rW_34 h, rA_34 h, rk_39 h, h32, h33, ↓li_m1, li_0, li_1, li_2, li_3, li_4, li_5, li_6, li_7, li_8, li_9, li_10, li_11, li_12, li_13, li_14, li_16, li_18, li_20, li_32, li_36, li_40, li_50, li_60, li_64, li_100, li_127, li_128, li_200, li_255, li_256, li_290, li_300, li_336, li_512, li_513, li_515, li_660, li_2048, li_16385, li_32768, li_32774, li_32776, li_33280, li_49153, nI_add, pk_mul, nI_eq, nI_leI, nI_ltI, pk_sub, nI_clamp, Decidable.not_not, Nat.reduceAdd, Nat.reduceMul, Option.some.injEq, exists_eq_left', exists_eq_left, forall_eq', reduceCtorEq, false_implies, forall_const, true_and, and_true, not_false_eq_true, not_true_eq_false, Nat.reduceEqDiff, Ip_r h, Ip_a h, Ip_b h, I_put_s, I_put_k, Rp_j, u2_r, rowU_r, false_and, and_false, if_false, if_true, reduceIte]
      exact ⟨fun q => by omega, fun _ => ⟨fun _ => ih', fun q => absurd q this⟩⟩
/-- the fault goes -/
def shR (R : Nat → Nat → Int32) (i0 k f i : Nat) : Int32 := if (f = 34 ∨ f = 35 ∨ f = 36) ∧ i0 ≤ i ∧ i < k then R f (i + 1) else R f i
theorem shR_0 {i0 : Nat} : shR R i0 i0 = R := by
  funext f i; unfold shR; rw [if_neg (by omega)]
theorem shR_s {i0 k : Nat} (hk : i0 ≤ k) : sm_u2 (sm_u2 (sm_u2 (shR R i0 k) 34 k (R 34 (k + 1))) 35 k (R 35 (k + 1))) 36 k (R 36 (k + 1)) = shR R i0 (k + 1) := by
  funext f i
  rw [u2_r, u2_r, u2_r]
  unfold shR
  by_cases q : i = k
  · subst q
    by_cases q4 : f = 34
    · subst q4; rw [if_neg (by omega), if_neg (by omega), if_pos (by omega), if_pos (by omega)]
    · by_cases q5 : f = 35
      · subst q5; rw [if_neg (by omega), if_pos (by omega), if_pos (by omega)]
      · by_cases q6 : f = 36
        · subst q6; rw [if_pos (by omega), if_pos (by omega)]
        · rw [if_neg (by omega), if_neg (by omega), if_neg (by omega), if_neg (by omega), if_neg (by omega)]
  · rw [if_neg (by omega), if_neg (by omega), if_neg (by omega)]
    by_cases q1 : (f = 34 ∨ f = 35 ∨ f = 36) ∧ i0 ≤ i ∧ i < k
    · rw [if_pos q1, if_pos (show (f = 34 ∨ f = 35 ∨ f = 36) ∧ i0 ≤ i ∧ i < k + 1 by omega)]
    · rw [if_neg q1, if_neg (by omega)]
theorem r_goS {n i0 : Nat} {x1 x2 x3 x4 x5 x6 x7 x8 x9 : Int32} {Q : Option sm_V → sm_M → Prop} (h33 : R 33 0 = nI n) (hn : n < 50) (hQ : ∀ M1 x10, RM a ra (shR R i0 n) M1 → sm_Run (D + 1) 159 185 [some (.inr (some a)), some (.inl x1), some (.inl x2), some (.inl x3), some (.inl x4), some (.inl x5), some (.inl x6), some (.inl x7), some (.inl x8), some (.inl x9), some (.inl (nI n))] [] M1 Q ∨ x10 = n + 1) : ∀ (m i : Nat) (M : sm_M), i0 ≤ i → i + m = n → RM a ra (shR R i0 i) M → sm_Run (D + 1) 159 185 [some (.inr (some a)), some (.inl x1), some (.inl x2), some (.inl x3), some (.inl x4), some (.inl x5), some (.inl x6), some (.inl x7), some (.inl x8), some (.inl x9), some (.inl (nI i))] [] M Q := by
  intro m
  induction m with
  | zero =>
    intro i M h0 hi h
    obtain rfl : i = n := by omega
    exact (hQ M 0 h).resolve_right (by omega)
  | succ m ih =>
    intro i M h0 hi h
    have r33 : shR R i0 i 33 0 = nI n := by unfold shR; rw [if_neg (by omega)]; exact h33
    have s1 : ∀ f, shR R i0 i f (i + 1) = R f (i + 1) := fun f => by unfold shR; rw [if_neg (by omega)]
    refine bb_159_185 ?_
    simp (disch := first | assumption | omega | decide) only [rS_33 h, rd_r34 h, rR_34 h, rN_34 h, rW_34 h, rA_34 h, rd_r35 h, rR_35 h, rN_35 h, rW_35 h, rA_35 h, rd_r36 h, rR_36 h, rN_36 h, rW_36 h, rA_36 h, rk_39 h, r33, s1, ↓li_m1, li_0, li_1, li_2, li_3, li_4, li_5, li_6, li_7, li_8, li_9, li_10, li_11, li_12, li_13, li_14, li_16, li_18, li_20, li_32, li_36, li_40, li_50, li_60, li_64, li_100, li_127, li_128, li_200, li_255, li_256, li_290, li_300, li_336, li_512, li_513, li_515, li_660, li_2048, li_16385, li_32768, li_32774, li_32776, li_33280, li_49153, nI_add, pk_mul, nI_eq, nI_leI, nI_ltI, pk_sub, nI_clamp, Decidable.not_not, Nat.reduceAdd, Nat.reduceMul, Option.some.injEq, exists_eq_left', exists_eq_left, forall_eq', reduceCtorEq, false_implies, forall_const, true_and, and_true, not_false_eq_true, not_true_eq_false, Nat.reduceEqDiff, Ip_r h, Ip_a h, Ip_b h, I_put_s, I_put_k, Rp_j, u2_r, rowU_r, false_and, and_false, if_false, if_true, reduceIte]
    refine ⟨fun q => by omega, fun _ => ?_⟩
    refine bb_159_242 ?_
    rw [nI_1]
    refine ih (i + 1) _ (by omega) (by omega) ?_
    rw [← shR_s h0]
    exact rm_wr (rm_wr (rm_wr h))
end RG
