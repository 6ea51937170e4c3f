/-! The reference's found. -/
section IA_
variable {a : Nat} {ra : Nat → Nat} {R R' : Nat → Nat → Int32} {M : sm_M} {D : Nat} {P X Z : pP} {T d k t m s tot : Nat}
def FPost (a : Nat) (ra : Nat → Nat) (R : Nat → Nat → Int32) (X : pP) (t d : Nat) : Option sm_V → sm_M → Prop := fun v M' => v = none ∧ ∃ R', RM a ra R' M' ∧ KF R R' t ∧ (¬ (s_ X 208 t = 6 ∧ isCmp X t) → HREL (p_gof X t) R') ∧ (s_ X 208 t = 6 ∧ isCmp X t → R' 61 d = nI (s_ (p_gof X t) 164 d) ∧ HRx (p_gof X t) R' d (s_ (p_gof X t) 164 d))
theorem fn_cmp (hI : INV X) (hF : FN X t) : isCmp X t ↔ s_ X 211 t = 1 ∧ s_ X 210 t = (b_ X 36 t).length := by
  obtain ⟨f1, f2, f3, f4, f5, f6, f7, f8, -⟩ := hF
  have a2 := (hI.2.1 t f1).2.1
  obtain ⟨w1, w2, w3, w4, w5⟩ := f7
  unfold isCmp
  constructor
  · rintro ⟨c1, c2⟩
    refine ⟨c1, ?_⟩
    rcases c2 with c | c
    · have l0 : (b_ X 36 t).length = 0 := by
        rw [f8, w1] at c
        have s26 : s_ X 208 t = 2 ∨ s_ X 208 t = 6 := by
          by_cases c2 : s_ X 208 t = 2
          · exact Or.inl c2
          · by_cases c6 : s_ X 208 t = 6
            · exact Or.inr c6
            · unfold fdW at c
              rw [if_neg c2, if_neg c6, if_neg (by decide)] at c
              omega
        rw [w4 (by omega)]
        rcases s26 with c2 | c2 <;> rw [c2] <;> rfl
      omega
    · exact c
  · rintro ⟨c1, c2⟩
    exact ⟨c1, Or.inr c2⟩
/-- the rows of the configuration become pipes, both sides -/
theorem r_320 {x1 x3 x4 x5 : Int32} {c : Nat} : ∀ (n m : Nat) (P : pP) (R : Nat → Nat → Int32) (M : sm_M) (z7 : Option sm_V), m + n = 7 → RM a ra R M → OL P d m → HRx P R d m → R 61 d = nI m → s_ P 165 d - 1 = c → R 85 d = nI (b_ P 36 c).length → (∀ i, i < (b_ P 36 c).length → R 86 (60 * d + i) = nI ((b_ P 36 c).getD i 0)) → ∀ n', n ≤ n' → sm_Run (D + 1) 190 320 [some (.inr (some a)), some (.inl x1), some (.inl (nI d)), some (.inl x3), some (.inl x4), some (.inl x5), some (.inl (nI (18 + 7 * m))), z7] [] M (fun v M' => v = none ∧ ∃ R', RM a ra R' M' ∧ (∀ f i, ¬ (61 ≤ f ∧ f ≤ 65) → R' f i = R f i) ∧ R' 61 d = nI (s_ (p_opL P d c (18 + 7 * m) n') 164 d) ∧ HRx (p_opL P d c (18 + 7 * m) n') R' d (s_ (p_opL P d c (18 + 7 * m) n') 164 d)) := by
  intro n
  induction n with
  | zero =>
    intro m P R M z7 hm h hO hX h61 hc h85 h86 n' hn
    have := hO.2.2.2.2.1
    omega
  | succ n ih =>
    intro m P R M z7 hm h hO hX h61 hc h85 h86 n' hn
    obtain ⟨n'', rfl⟩ : ∃ n'', n' = n'' + 1 := ⟨n' - 1, by omega⟩
    have cf := ol_cfg hO
    obtain ⟨o1, o2, o3, o4, o5, o6, o7, o8, o9, o10⟩ := id hO
    obtain ⟨c1, c2, c3, c4, c5, c6, c7⟩ := id cf
    rw [hc] at c4 c5
    have ed : (nI d).toNatClampNeg = d := nI_clamp (by omega)
    have e7 : nI (18 + 7 * m) + 7 = nI (18 + 7 * m + 7) := by rw [li_7, nI_add]
    refine bb_190_320 ⟨h.1, ra 85, rd_r85 h, of_eq_true (rA_85 h), of_eq_true (rN_85 h o3), ?_⟩
    rw [ed, rR_85 h, h85, e7, nI_ltI (by omega) (by omega)]
    by_cases q : (b_ P 36 c).length < 18 + 7 * m + 7
    · refine ⟨fun _ => ⟨rfl, R, h, fun _ _ _ => rfl, ?_⟩, fun q' => absurd q q'⟩
      have eo : p_opL P d c (18 + 7 * m) (n'' + 1) = P := by
        rcases Nat.lt_or_ge m 6 with m6 | m6
        · have := opl_S (n := n'') cf o6 o4 m6
          rw [hc, if_pos q] at this
          exact this
        · exact opl_6 (by omega) _
      rw [eo, o4]
      exact ⟨h61, hX⟩
    · refine ⟨fun q' => absurd q' q, fun _ => ?_⟩
      obtain ⟨m6, m86, oS⟩ := ol_S hO (by rw [hc]; exact q)
      have row : ∀ j, j < 7 → R 86 (60 * d + (18 + 7 * m) + j) = nI ((p_row P (6 * d + m)).getD j 0) := fun j hj => by
        have := (cfg_row cf (m := m) (j := j) (by rw [hc]; omega) hj).2
        rw [hc] at this
        rw [← this, show 60 * d + (18 + 7 * m) + j = 60 * d + (18 + 7 * m + j) by omega]
        exact h86 _ (by omega)
      have r2 : R 86 (60 * d + (18 + 7 * m) + 2) = nI (s_ P 100 (6 * d + m)) := row 2 (by decide)
      have r3 : R 86 (60 * d + (18 + 7 * m) + 3) = nI (if s_ P 102 (6 * d + m) = 0 then 2 else 3) := row 3 (by decide)
      have r4 : R 86 (60 * d + (18 + 7 * m) + 4) = nI (s_ P 101 (6 * d + m)) := row 4 (by decide)
      have r6 : R 86 (60 * d + (18 + 7 * m) + 6) = nI (s_ P 102 (6 * d + m)) := row 6 (by decide)
      simp (disch := first | assumption | omega | decide) only [rd_r61 h, rR_61 h, rN_61 h, rW_61 h, rA_61 h, rd_r62 h, rR_62 h, rN_62 h, rW_62 h, rA_62 h, rd_r63 h, rR_63 h, rN_63 h, rW_63 h, rA_63 h, rd_r86 h, rR_86 h, rN_86 h, rW_86 h, rA_86 h, rk_39 h, h61, r2, r3, ↓li_m1, li_0, li_1, li_2, li_3, li_4, li_5, li_6, li_7, li_8, li_9, li_10, li_11, li_12, li_13, li_14, li_16, li_18, li_20, li_32, li_36, li_40, li_50, li_60, li_64, li_100, li_127, li_128, li_200, li_255, li_256, li_290, li_300, li_336, li_512, li_513, li_515, li_660, li_2048, li_16385, li_32768, li_32774, li_32776, li_33280, li_49153, nI_add, pk_mul, nI_eq, nI_leI, nI_ltI, pk_sub, nI_clamp, Decidable.not_not, Nat.reduceAdd, Nat.reduceMul, Option.some.injEq, exists_eq_left', exists_eq_left, forall_eq', reduceCtorEq, false_implies, forall_const, true_and, and_true, not_false_eq_true, not_true_eq_false, Nat.reduceEqDiff, Ip_r h, Ip_a h, Ip_b h, I_put_s, I_put_k, Rp_j, u2_r, rowU_r, false_and, and_false, if_false, if_true, reduceIte]
      have h2 := rm_wr (rm_wr h (f := 62) (j := 10 * d + m) (v := nI (s_ P 100 (6 * d + m)))) (f := 63) (j := 10 * d + m) (v := nI (if s_ P 102 (6 * d + m) = 0 then 2 else 3))
      have g4 : sm_u2 (sm_u2 R 62 (10 * d + m) (nI (s_ P 100 (6 * d + m)))) 63 (10 * d + m) (nI (if s_ P 102 (6 * d + m) = 0 then 2 else 3)) 86 (60 * d + (18 + 7 * m) + 4) = nI (s_ P 101 (6 * d + m)) := by simp only [u2_r, rowU_r, s_S, s_B, s_F, b_S, b_B, b_F, f_S, f_B, nfl_S, nfl_B, Nat.reduceEqDiff, false_and, and_false, true_and, and_true, and_self, if_true, if_false, reduceIte, ite_self, or_self, or_false, false_or, or_true, true_or, false_implies, implies_true, true_implies, Nat.reduceLeDiff, not_true_eq_false, not_false_eq_true, ne_eq]; exact r4
      have g6 : sm_u2 (sm_u2 R 62 (10 * d + m) (nI (s_ P 100 (6 * d + m)))) 63 (10 * d + m) (nI (if s_ P 102 (6 * d + m) = 0 then 2 else 3)) 86 (60 * d + (18 + 7 * m) + 6) = nI (s_ P 102 (6 * d + m)) := by simp only [u2_r, rowU_r, s_S, s_B, s_F, b_S, b_B, b_F, f_S, f_B, nfl_S, nfl_B, Nat.reduceEqDiff, false_and, and_false, true_and, and_true, and_self, if_true, if_false, reduceIte, ite_self, or_self, or_false, false_or, or_true, true_or, false_implies, implies_true, true_implies, Nat.reduceLeDiff, not_true_eq_false, not_false_eq_true, ne_eq]; exact r6
      have g61 : sm_u2 (sm_u2 R 62 (10 * d + m) (nI (s_ P 100 (6 * d + m)))) 63 (10 * d + m) (nI (if s_ P 102 (6 * d + m) = 0 then 2 else 3)) 61 d = nI m := by simp only [u2_r, rowU_r, s_S, s_B, s_F, b_S, b_B, b_F, f_S, f_B, nfl_S, nfl_B, Nat.reduceEqDiff, false_and, and_false, true_and, and_true, and_self, if_true, if_false, reduceIte, ite_self, or_self, or_false, false_or, or_true, true_or, false_implies, implies_true, true_implies, Nat.reduceLeDiff, not_true_eq_false, not_false_eq_true, ne_eq]; exact h61
      refine bb_190_389 ?_
      simp (disch := first | assumption | omega | decide) only [rd_r61 h2, rR_61 h2, rN_61 h2, rW_61 h2, rA_61 h2, rd_r64 h2, rR_64 h2, rN_64 h2, rW_64 h2, rA_64 h2, rd_r65 h2, rR_65 h2, rN_65 h2, rW_65 h2, rA_65 h2, rd_r86 h2, rR_86 h2, rN_86 h2, rW_86 h2, rA_86 h2, rk_39 h2, g61, g4, g6, ↓li_m1, li_0, li_1, li_2, li_3, li_4, li_5, li_6, li_7, li_8, li_9, li_10, li_11, li_12, li_13, li_14, li_16, li_18, li_20, li_32, li_36, li_40, li_50, li_60, li_64, li_100, li_127, li_128, li_200, li_255, li_256, li_290, li_300, li_336, li_512, li_513, li_515, li_660, li_2048, li_16385, li_32768, li_32774, li_32776, li_33280, li_49153, nI_add, pk_mul, nI_eq, nI_leI, nI_ltI, pk_sub, nI_clamp, Decidable.not_not, Nat.reduceAdd, Nat.reduceMul, Option.some.injEq, exists_eq_left', exists_eq_left, forall_eq', reduceCtorEq, false_implies, forall_const, true_and, and_true, not_false_eq_true, not_true_eq_false, Nat.reduceEqDiff, Ip_r h2, Ip_a h2, Ip_b h2, I_put_s, I_put_k, Rp_j, u2_r, rowU_r, false_and, and_false, if_false, if_true, reduceIte]
      rw [rR_86 h, r4, rR_86 h, r6]
      have h5 := rm_wr (rm_wr (rm_wr h2 (f := 64) (j := 10 * d + m) (v := nI (s_ P 101 (6 * d + m)))) (f := 65) (j := 10 * d + m) (v := nI (s_ P 102 (6 * d + m)))) (f := 61) (j := d) (v := nI (m + 1))
      refine bb_190_442 ?_
      rw [e7, show 18 + 7 * m + 7 = 18 + 7 * (m + 1) by omega]
      have e165 : s_ (p_mkP P d (s_ P 100 (6 * d + m)) (if s_ P 102 (6 * d + m) = 0 then 1 else 0) (s_ P 101 (6 * d + m)) (s_ P 102 (6 * d + m))) 165 d = s_ P 165 d := mkP_n (by omega) (by omega) (by omega) (by omega)
      have eo : p_opL P d c (18 + 7 * m) (n'' + 1) = p_opL (p_mkP P d (s_ P 100 (6 * d + m)) (if s_ P 102 (6 * d + m) = 0 then 1 else 0) (s_ P 101 (6 * d + m)) (s_ P 102 (6 * d + m))) d c (18 + 7 * (m + 1)) n'' := by
        have := opl_S (n := n'') cf o6 o4 m6
        rw [hc, if_neg q] at this
        exact this
      rw [eo]
      refine ru_mono (ih (m + 1) _ _ _ _ (by omega) h5 oS ?_ ?_ (by rw [e165]; exact hc) ?_ (fun i hi => ?_) n'' (by omega)) ?_
      · refine hrx_S hX o3 o4 m6 (fun d' k' hd' hk' => ?_) (fun t' ht' => (o1.2.1 t' ht').2.2.2.2.2.2.2.2.2.1) o1.1.2.2.2.2.2.2.2.1 (fun f j n1 n2 => ?_) ?_ ?_ ?_ ?_ ?_
        · have dd := o1.2.2.2.2.2.2.2.2.1 d' hd'
          have := dd.2.2.2.2.2.1
          have := o2 d' hd'
          exact ⟨(dd.2.2.2.2.2.2.1 k' hk').2.1, by omega⟩
        · rw [u2_r, if_neg n1, u2_r, if_neg (by omega), u2_r, if_neg (by omega), u2_r, if_neg (by omega), u2_r, if_neg (by omega)]
        · simp only [u2_r, rowU_r, s_S, s_B, s_F, b_S, b_B, b_F, f_S, f_B, nfl_S, nfl_B, Nat.reduceEqDiff, false_and, and_false, true_and, and_true, and_self, if_true, if_false, reduceIte, ite_self, or_self, or_false, false_or, or_true, true_or, false_implies, implies_true, true_implies, Nat.reduceLeDiff, not_true_eq_false, not_false_eq_true, ne_eq]
        · simp only [u2_r, rowU_r, s_S, s_B, s_F, b_S, b_B, b_F, f_S, f_B, nfl_S, nfl_B, Nat.reduceEqDiff, false_and, and_false, true_and, and_true, and_self, if_true, if_false, reduceIte, ite_self, or_self, or_false, false_or, or_true, true_or, false_implies, implies_true, true_implies, Nat.reduceLeDiff, not_true_eq_false, not_false_eq_true, ne_eq]
        · simp only [u2_r, rowU_r, s_S, s_B, s_F, b_S, b_B, b_F, f_S, f_B, nfl_S, nfl_B, Nat.reduceEqDiff, false_and, and_false, true_and, and_true, and_self, if_true, if_false, reduceIte, ite_self, or_self, or_false, false_or, or_true, true_or, false_implies, implies_true, true_implies, Nat.reduceLeDiff, not_true_eq_false, not_false_eq_true, ne_eq]
          by_cases z : s_ P 102 (6 * d + m) = 0
          · rw [if_pos z, if_pos z, if_neg (by decide)]
          · rw [if_neg z, if_neg z, if_pos rfl]
        · simp only [u2_r, rowU_r, s_S, s_B, s_F, b_S, b_B, b_F, f_S, f_B, nfl_S, nfl_B, Nat.reduceEqDiff, false_and, and_false, true_and, and_true, and_self, if_true, if_false, reduceIte, ite_self, or_self, or_false, false_or, or_true, true_or, false_implies, implies_true, true_implies, Nat.reduceLeDiff, not_true_eq_false, not_false_eq_true, ne_eq]
        · simp only [u2_r, rowU_r, s_S, s_B, s_F, b_S, b_B, b_F, f_S, f_B, nfl_S, nfl_B, Nat.reduceEqDiff, false_and, and_false, true_and, and_true, and_self, if_true, if_false, reduceIte, ite_self, or_self, or_false, false_or, or_true, true_or, false_implies, implies_true, true_implies, Nat.reduceLeDiff, not_true_eq_false, not_false_eq_true, ne_eq]
      · simp only [u2_r, rowU_r, s_S, s_B, s_F, b_S, b_B, b_F, f_S, f_B, nfl_S, nfl_B, Nat.reduceEqDiff, false_and, and_false, true_and, and_true, and_self, if_true, if_false, reduceIte, ite_self, or_self, or_false, false_or, or_true, true_or, false_implies, implies_true, true_implies, Nat.reduceLeDiff, not_true_eq_false, not_false_eq_true, ne_eq]
      · simp only [u2_r, rowU_r, s_S, s_B, s_F, b_S, b_B, b_F, f_S, f_B, nfl_S, nfl_B, Nat.reduceEqDiff, false_and, and_false, true_and, and_true, and_self, if_true, if_false, reduceIte, ite_self, or_self, or_false, false_or, or_true, true_or, false_implies, implies_true, true_implies, Nat.reduceLeDiff, not_true_eq_false, not_false_eq_true, ne_eq]; exact h85
      · simp only [u2_r, rowU_r, s_S, s_B, s_F, b_S, b_B, b_F, f_S, f_B, nfl_S, nfl_B, Nat.reduceEqDiff, false_and, and_false, true_and, and_true, and_self, if_true, if_false, reduceIte, ite_self, or_self, or_false, false_or, or_true, true_or, false_implies, implies_true, true_implies, Nat.reduceLeDiff, not_true_eq_false, not_false_eq_true, ne_eq]; exact h86 i hi
      · rintro v M' ⟨rfl, R', y1, y2, y3, y4⟩
        refine ⟨rfl, R', y1, fun f i hf => ?_, y3, y4⟩
        rw [y2 f i hf, u2_r, if_neg (by omega), u2_r, if_neg (by omega), u2_r, if_neg (by omega), u2_r, if_neg (by omega), u2_r, if_neg (by omega)]
end IA_
