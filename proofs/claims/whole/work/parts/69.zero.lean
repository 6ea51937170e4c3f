/-! The reference's device, endpoint 0: ACK and OUT. -/
section RY
variable {a : Nat} {ra : Nat → Nat} {R : Nat → Nat → Int32} {M : sm_M} {D : Nat} {P : pP}
/-- a packet -/
def RelK (P : pP) (R : Nat → Nat → Int32) (j : Nat) : Prop := R 37 j = nE (s_ P 140 j) ∧ R 38 j = nI (s_ P 141 j) ∧ (isTok (s_ P 141 j) → R 39 j = nI (s_ P 142 j % 128) ∧ R 40 j = nI (s_ P 142 j / 128)) ∧ (s_ P 141 j = 5 → R 39 j = nI (s_ P 142 j)) ∧ R 41 j = nI (b_ P 7 j).length ∧ (∀ i, i < (b_ P 7 j).length → R 42 (100 * j + i) = nI ((b_ P 7 j).getD i 0)) ∧ R 43 j = nI (s_ P 145 j) ∧ (s_ P 145 j = 2 → R 44 j = nI (s_ P 146 j) ∧ R 45 j = nI (s_ P 147 j))
/-- a device's step without an answer -/
theorem ds_q {d : Nat} {P' : pP} {R' : Nat → Nat → Int32} (h : RelD P' R' d) (hf : FrR d R R') (h0 : s_ P' 91 d = 0) (hs : SmA R R') : DS P' d R R' := ⟨h, hf, fun _ => hs, fun q => absurd h0 q⟩
/-- WireBusModel.acked at endpoint 0 -/
theorem r_zAck {d : Nat} (h : RM a ra R M) (hx : EX P) (hr : RelD P R d) (hd : d < 6) (hD : DI P d) (h91 : s_ P 91 d = 0) (h89 : s_ P 89 d = 0) (hz2 : s_ P 60 d = 2 → R 28 d = nI (s_ P 68 d) ∧ s_ P 69 d = 0) : sm_Run (D + 1) 164 0 (sm_ent 164 [.inr (some a), .inl (nI d), .inl (nI 0)]) [] M (fun v M' => v = none ∧ ∃ R', RM a ra R' M' ∧ DS (p_zAck P d) d R R') := by
  have hr0 := hr
  obtain ⟨⟨a4, a5, a6, a7, a8, a9, a19, a20, a18⟩, hz, he⟩ := hr
  obtain ⟨z60, z21, z23, z24, z26, z22, z22b, z2, z4, z5⟩ := hz
  have sb := stg_b z60
  have b67 := ex_b hx 67 d
  have b80 := ex_b hx 80 d
  have b65 := ex_b hx 65 d
  obtain ⟨d1, d2, d3, d4, d5, d6⟩ := hD
  refine bb_164_0 ?_
  unfold p_zAck
  by_cases hs : s_ P 60 d = 2
  · obtain ⟨h28, h69⟩ := hz2 hs
    obtain ⟨y25, y28, y27, y69, y29, y68⟩ := z2 hs
    rw [if_pos hs]
    have hst : stg (s_ P 60 d) = 2 := (stg_2 _).mpr hs
    have e21 : R 21 d = nI (stg 2) := by rw [z21, hs]
    have e22 := z22 (Or.inl hs)
    have n0 : ¬ nI (s_ P 68 d) = nE 0 := by rw [nI_E (by omega) (by omega)]; omega
    simp (disch := first | assumption | omega | decide) only [rd_r21 h, rR_21 h, rN_21 h, rW_21 h, rA_21 h, rd_r26 h, rR_26 h, rN_26 h, rW_26 h, rA_26 h, rd_r28 h, rR_28 h, rN_28 h, rW_28 h, rA_28 h, rd_r6 h, rR_6 h, rN_6 h, rA_6 h, rd_r27 h, rN_27 h, rW_27 h, rd_r23 h, rR_23 h, rN_23 h, rW_23 h, rA_23 h, rk_39 h, z21, hst, z26, h28, a6, z23, Nat.le_refl, ↓li_m1, li_0, li_1, li_2, li_4, li_5, nI_add, nI_eq, nI_leI, pk_sub, nI_clamp, Decidable.not_not, Option.some.injEq, exists_eq_left', false_implies, forall_const, true_and, and_true, not_false_eq_true, not_true_eq_false, Nat.reduceEqDiff, Ip_r h, Rp_i]
    have mk : ∀ (x : Nat), (x = 0 ∧ ¬ s_ P 68 d < s_ P 80 d) ∨ (x = 1 ∧ s_ P 68 d < s_ P 80 d) → DS (pS (pS (pS P 64 d (s_ P 64 d + s_ P 68 d)) 61 d (1 - s_ P 61 d)) 69 d (if s_ P 64 d + s_ P 68 d = s_ P 65 d ∨ s_ P 68 d < s_ P 80 d then 1 else 0)) d R (sm_u2 (sm_u2 (sm_u2 (sm_u2 R 26 d (nI (s_ P 64 d + s_ P 68 d))) 27 d (nI x)) 28 d (nE 0)) 23 d (nI (1 - s_ P 61 d))) := by
      intro x hx'
      refine ds_q ⟨?_, ?_, fun k hk => ?_⟩ ?_ ?_ ?_
      · unfold RelA; simp only [u2_r, s_S, b_S, Nat.reduceEqDiff, false_and, and_true, if_false]; ((repeat' (with_reducible refine And.intro ?_ ?_)) <;> (first | assumption | rfl | trivial | omega))
      · unfold RelZ RelZ2; simp only [u2_r, s_S, b_S, nfl_S, hs, h89, Nat.reduceEqDiff, false_and, true_and, and_true, and_self, if_true, if_false, or_self, or_false, true_or, false_implies, true_implies, Nat.reduceLeDiff, not_false_eq_true, ne_eq]
        refine ⟨e21, z24, e22, y25, ?_, ?_, y29⟩
        · rcases hx' with ⟨rfl, -⟩ | ⟨rfl, -⟩
          · exact Or.inl rfl
          · exact Or.inr rfl
        · have ex : nI x = nI 1 ↔ x = 1 := nI_eq (by omega) (by decide)
          rw [ex]
          constructor
          · intro q
            by_cases q1 : s_ P 64 d + s_ P 68 d = s_ P 65 d ∨ s_ P 68 d < s_ P 80 d
            · omega
            · rw [if_neg q1] at q; omega
          · intro q
            rw [if_pos (by omega)]; decide
      · have := he k (by revert hk; simp only [s_S, Nat.reduceEqDiff, and_true, if_false]; exact id)
        unfold RelE at *; simp only [u2_r, s_S, b_S, Nat.reduceEqDiff, false_and, if_false]; exact this
      · (repeat' (first | exact fr_refl | assumption | refine fr_u ?_ (by unfold ownR; omega) | refine fr_row ?_ (by unfold ownR; omega)))
      · simp only [s_S, h91, Nat.reduceEqDiff, and_true, if_false]
      · unfold SmA; simp only [u2_r, Nat.reduceEqDiff, false_and, and_self, if_false, implies_true]
    refine ⟨fun q => ?_, fun q => ?_⟩
    · refine bb_164_191 ⟨rfl, _, rm_wr (rm_wr (rm_wr (rm_wr h))), ?_⟩
      exact mk 0 (Or.inl ⟨rfl, by omega⟩)
    · refine bb_164_191 ⟨rfl, _, rm_wr (rm_wr (rm_wr (rm_wr h))), ?_⟩
      exact mk 1 (Or.inr ⟨rfl, by omega⟩)
  · rw [if_neg hs]
    by_cases q5 : s_ P 60 d = 5
    · rw [if_pos q5]
      have e21 : R 21 d = nI (stg 5) := by rw [z21, q5]
      have e22 := z22b (by omega)
      have e30 := z5 (Or.inr q5)
      have hst : stg (s_ P 60 d) = 4 := stg_4.mpr q5
      by_cases q67 : s_ P 67 d = 0
      · rw [if_pos q67] at e30 ⊢
        simp (disch := first | assumption | omega | decide) only [rd_r21 h, rR_21 h, rN_21 h, rW_21 h, rA_21 h, rd_r30 h, rR_30 h, rN_30 h, rW_30 h, rA_30 h, rk_39 h, z21, hst, e30, Nat.le_refl, ↓li_m1, li_0, li_1, li_2, li_4, li_5, nI_eq, nI_leI, nI_clamp, Decidable.not_not, Option.some.injEq, exists_eq_left', false_implies, forall_const, true_and, and_true, not_false_eq_true, not_true_eq_false, Nat.reduceEqDiff, Ip_r h, Rp_i]
        refine ⟨_, rm_wr h, ?_⟩
        refine ds_q ⟨?_, ?_, fun k hk => ?_⟩ ?_ ?_ ?_
        · unfold RelA; simp only [u2_r, s_S, b_S, Nat.reduceEqDiff, false_and, and_true, if_false]; ((repeat' (with_reducible refine And.intro ?_ ?_)) <;> (first | assumption | rfl | trivial | omega))
        · unfold RelZ RelZ2; simp only [u2_r, s_S, b_S, nfl_S, q5, Nat.reduceEqDiff, false_and, true_and, and_true, and_self, if_true, if_false, or_self, false_implies, true_implies, Nat.reduceLeDiff, not_false_eq_true, ne_eq]; ((repeat' (with_reducible refine And.intro ?_ ?_)) <;> (first | assumption | rfl | trivial | omega))
        · have := he k (by revert hk; simp only [s_S, Nat.reduceEqDiff, and_true, if_false]; exact id)
          unfold RelE at *; simp only [u2_r, s_S, b_S, Nat.reduceEqDiff, false_and, if_false]; exact this
        · (repeat' (first | exact fr_refl | assumption | refine fr_u ?_ (by unfold ownR; omega) | refine fr_row ?_ (by unfold ownR; omega)))
        · simp only [s_S, h91, Nat.reduceEqDiff, and_true, if_false]
        · unfold SmA; simp only [u2_r, Nat.reduceEqDiff, false_and, and_self, if_false, implies_true]
      · rw [if_neg q67] at e30 ⊢
        simp (disch := first | assumption | omega | decide) only [rd_r21 h, rR_21 h, rN_21 h, rW_21 h, rA_21 h, rd_r30 h, rR_30 h, rN_30 h, rW_30 h, rA_30 h, rd_r5 h, rN_5 h, rW_5 h, rd_r4 h, rN_4 h, rW_4 h, rk_39 h, z21, hst, e30, Nat.le_refl, ↓li_m1, li_0, li_1, li_2, li_4, li_5, nI_eq, nI_leI, nI_clamp, Decidable.not_not, Option.some.injEq, exists_eq_left', false_implies, forall_const, true_and, and_true, not_false_eq_true, not_true_eq_false, Nat.reduceEqDiff, Ip_r h, Rp_i]
        have n1 : ¬ nI (s_ P 67 d) = nE 0 := by
          intro q
          have := congrArg Int32.toInt q
          rw [nI_toInt b67, show (nE 0).toInt = -1 from rfl] at this
          omega
        refine ⟨fun q => absurd q n1, fun _ => ⟨_, rm_wr (rm_wr (rm_wr (rm_wr h))), ?_⟩⟩
        refine ds_q ⟨?_, ?_, fun k hk => ?_⟩ ?_ ?_ ?_
        · unfold RelA; simp only [u2_r, s_S, b_S, Nat.reduceEqDiff, false_and, true_and, and_true, and_self, if_true, if_false]; ((repeat' (with_reducible refine And.intro ?_ ?_)) <;> (first | assumption | rfl | trivial | omega))
        · unfold RelZ RelZ2; simp only [u2_r, s_S, b_S, nfl_S, q5, Nat.reduceEqDiff, false_and, true_and, and_true, and_self, if_true, if_false, ite_self, or_self, false_implies, true_implies, Nat.reduceLeDiff, not_false_eq_true, ne_eq]; ((repeat' (with_reducible refine And.intro ?_ ?_)) <;> (first | assumption | rfl | trivial | omega))
        · have := he k (by revert hk; simp only [s_S, Nat.reduceEqDiff, and_true, if_false]; exact id)
          unfold RelE at *; simp only [u2_r, s_S, b_S, Nat.reduceEqDiff, false_and, if_false]; exact this
        · (repeat' (first | exact fr_refl | assumption | refine fr_u ?_ (by unfold ownR; omega) | refine fr_row ?_ (by unfold ownR; omega)))
        · simp only [s_S, h91, Nat.reduceEqDiff, and_true, if_false]
        · unfold SmA; simp only [u2_r, Nat.reduceEqDiff, false_and, and_self, if_false, implies_true]
    · rw [if_neg q5]
      simp (disch := first | assumption | omega | decide) only [rd_r21 h, rR_21 h, rN_21 h, rW_21 h, rA_21 h, rk_39 h, z21, stg_2, stg_4, Nat.le_refl, ↓li_m1, li_0, li_1, li_2, li_4, li_5, nI_eq, nI_leI, nI_clamp, Decidable.not_not, Option.some.injEq, exists_eq_left', false_implies, forall_const, true_and, and_true, not_true_eq_false, Rp_i]
      refine ⟨fun _ => ⟨fun _ => ⟨_, h, ds_refl hr0 h91⟩, fun q => absurd q q5⟩, fun q => absurd q hs⟩
theorem kpl_gd {l b : List Nat} {v n j : Nat} (h1 : v + n ≤ l.length) (h2 : n ≤ b.length) : (kpl l b v n).getD j 0 = if v ≤ j ∧ j < v + n then b.getD (j - v) 0 else l.getD j 0 := by
  have e1 : (l.take v ++ b.take n).length = v + n := by rw [List.length_append, List.length_take, List.length_take]; omega
  unfold kpl
  simp only [List.getD_eq_getElem?_getD]
  by_cases q : v ≤ j ∧ j < v + n
  · rw [if_pos q, List.getElem?_append_left (by omega), List.getElem?_append_right (by rw [List.length_take]; omega), List.length_take, Nat.min_eq_left (by omega), List.getElem?_take_of_lt (by omega)]
  · rw [if_neg q]
    by_cases q1 : j < v
    · rw [List.getElem?_append_left (by omega), List.getElem?_append_left (by rw [List.length_take]; omega), List.getElem?_take_of_lt q1]
    · rw [List.getElem?_append_right (by omega), e1, List.getElem?_drop, show v + n + (j - (v + n)) = j by omega]
theorem app_gd {l b : List Nat} {j : Nat} : (l ++ b).getD j 0 = if j < l.length then l.getD j 0 else b.getD (j - l.length) 0 := by
  simp only [List.getD_eq_getElem?_getD]
  by_cases q : j < l.length
  · rw [if_pos q, List.getElem?_append_left q]
  · rw [if_neg q, List.getElem?_append_right (by omega)]
/-- the bytes are kept -/
theorem r_keep {d n w : Nat} {x2 x3 x4 : Int32} (hd : d < 6) (h24 : R 24 d = nI n) (h31 : R 31 d = nI w) (hw : w + n ≤ 64) : ∀ (m i : Nat) (M : sm_M), i + m = n → RM a ra (rowU R 18 (64 * d + w) i (fun j => R 29 (100 * d + j))) M →
    sm_Run (D + 1) 167 197 [some (.inr (some a)), some (.inl (nI d)), some (.inl x2), some (.inl x3), some (.inl x4), some (.inl (nI i))] [] M (fun v M' => v = none ∧ RM a ra (rowU R 18 (64 * d + w) n (fun j => R 29 (100 * d + j))) M') := by
  intro m
  induction m with
  | zero =>
    intro i M hi h
    obtain rfl : i = n := by omega
    refine bb_167_197 ?_
    simp (disch := first | assumption | omega | decide) only [rd_r24 h, rR_24 h, rN_24 h, rA_24 h, rk_39 h, h24, li_1, li_64, li_100, nI_add, pk_mul, nI_leI, nI_clamp, Option.some.injEq, exists_eq_left', true_and, Nat.reduceEqDiff, rowU_r, false_and, if_false]
    exact ⟨fun _ => h, fun q => by omega⟩
  | succ m ih =>
    intro i M hi h
    refine bb_167_197 ?_
    simp (disch := first | assumption | omega | decide) only [rd_r24 h, rR_24 h, rN_24 h, rA_24 h, rd_r31 h, rR_31 h, rN_31 h, rA_31 h, rd_r29 h, rR_29 h, rN_29 h, rA_29 h, rd_r18 h, rN_18 h, rW_18 h, rk_39 h, h24, h31, li_1, li_64, li_100, nI_add, pk_mul, nI_leI, nI_clamp, Option.some.injEq, exists_eq_left', true_and, Nat.reduceEqDiff, rowU_r, false_and, if_false]
    refine ⟨fun q => by omega, fun _ => ?_⟩
    refine ih (i + 1) _ (by omega) ?_
    have h1 := rm_wr h (f := 18) (j := 64 * d + w + i) (v := R 29 (100 * d + i))
    rw [rowU_s (v := fun j => R 29 (100 * d + j))] at h1
    exact h1
theorem r_keep0 {d n w : Nat} {x2 x3 x4 : Int32} (h : RM a ra R M) (hd : d < 6) (h24 : R 24 d = nI n) (h31 : R 31 d = nI w) (hw : w + n ≤ 64) : sm_Run (D + 1) 167 197 [some (.inr (some a)), some (.inl (nI d)), some (.inl x2), some (.inl x3), some (.inl x4), some (.inl (nI 0))] [] M (fun v M' => v = none ∧ RM a ra (rowU R 18 (64 * d + w) n (fun j => R 29 (100 * d + j))) M') := r_keep hd h24 h31 hw n 0 M (by omega) (by rw [rowU_0]; exact h)
/-- bytes come in -/
theorem r_zTk {d n t j : Nat} {x2 x4 : Int32} {Q : Option sm_V → sm_M → Prop} (hd : d < 6) (h26 : R 26 d = nI t) (h50 : R 50 0 = nI j) (hj : j < 60) (hn : n ≤ 64) (hw : t + n ≤ 64) (hQ : ∀ M, RM a ra (rowU R 29 (100 * d + t) n (fun i => R 42 (100 * j + i))) M → sm_Run (D + 1) 167 95 [some (.inr (some a)), some (.inl (nI d)), some (.inl x2), some (.inl (nI n)), some (.inl x4), some (.inl (nI n))] [] M Q) : ∀ (m i : Nat) (M : sm_M), i + m = n → RM a ra (rowU R 29 (100 * d + t) i (fun i => R 42 (100 * j + i))) M →
    sm_Run (D + 1) 167 95 [some (.inr (some a)), some (.inl (nI d)), some (.inl x2), some (.inl (nI n)), some (.inl x4), some (.inl (nI i))] [] M Q := by
  intro m
  induction m with
  | zero =>
    intro i M hi h
    obtain rfl : i = n := by omega
    exact hQ M h
  | succ m ih =>
    intro i M hi h
    refine bb_167_95 ?_
    simp (disch := first | assumption | omega | decide) only [rd_r26 h, rR_26 h, rN_26 h, rW_26 h, rA_26 h, rS_50 h, rd_r42 h, rR_42 h, rN_42 h, rA_42 h, rd_r29 h, rN_29 h, rW_29 h, rk_39 h, h26, h50, li_0, li_1, li_2, li_100, nI_add, pk_mul, nI_leI, nI_clamp, Option.some.injEq, exists_eq_left', true_and, Nat.reduceEqDiff, Rp_i, rowU_r, false_and, if_false]
    refine ⟨fun q => by omega, fun _ => ?_⟩
    refine ih (i + 1) _ (by omega) ?_
    have h1 := rm_wr h (f := 29) (j := 100 * d + t + i) (v := R 42 (100 * j + i))
    rw [rowU_s (v := fun i => R 42 (100 * j + i))] at h1
    exact h1
/-- WireBusModel.givenAtZero -/
theorem r_zOut {d j : Nat} (h : RM a ra R M) (hx : EX P) (hr : RelD P R d) (hd : d < 6) (hD : DI P d) (h50 : R 50 0 = nI j) (hj : j < 60) (hk : RelK P R j) (hdat : isDat (s_ P 141 j)) : sm_Run (D + 2) 167 0 (sm_ent 167 [.inr (some a), .inl (nI d), .inl (nI (tgo (s_ P 141 j))), .inl (nI (b_ P 7 j).length)]) [] M (fun v M' => v = none ∧ ∃ R', RM a ra R' M' ∧ DS (p_zOut P d j) d R R') := by
  have hr0 := hr
  obtain ⟨⟨a4, a5, a6, a7, a8, a9, a19, a20, a18⟩, hz, he⟩ := hr
  obtain ⟨z60, z21, z23, z24, z26, z22, z22b, z2, z4, z5⟩ := hz
  have sb := stg_b z60
  have b64 := ex_b hx 64 d
  have b65 := ex_b hx 65 d
  have l29 := ex_29 hx hd
  have l28 := ex_28 hx hd
  have l7 := ex_7 hx (show j < 66 by omega)
  have tg1 := tgo_le (s_ P 141 j)
  obtain ⟨d1, d2, d3, d4, d5, d6⟩ := hD
  have kA : ∀ {Q : Option sm_V → sm_M → Prop} {k : Nat}, (∀ M' R', RM a ra R' M' → DS (p_ans P d k) d R R' → Q none M') → sm_Run (D + 1) 160 0 (sm_ent 160 [.inr (some a), .inl (nI d), .inl (nI k), .inl (nI 0)]) [] M Q := by
    intro Q k hQ
    refine ru_mono (r_ans h) ?_
    rintro v M1 ⟨rfl, h1⟩
    exact hQ M1 _ h1 (ds_ans hr0 hd fr_refl)
  have kR : ∀ {Q : Option sm_V → sm_M → Prop}, (∀ M' R', RM a ra R' M' → DS (p_ans (pS P 60 d 1) d 14) d R R' → Q none M') → sm_Run (D + 1) 166 0 (sm_ent 166 [.inr (some a), .inl (nI d)]) [] M Q := by
    intro Q hQ
    refine ru_mono (r_refuse h hr0 hd fr_refl) ?_
    rintro v M1 ⟨rfl, R', h1, h2⟩
    exact hQ M1 R' h1 h2
  have k269 : ∀ (x4 : Int32) (z5 : Option sm_V), s_ P 60 d = 2 ∨ s_ P 60 d = 3 → sm_Run (D + 2) 167 269 [some (.inr (some a)), some (.inl (nI d)), some (.inl (nI (tgo (s_ P 141 j)))), some (.inl (nI (b_ P 7 j).length)), some (.inl x4), z5] [] M (fun v M' => v = none ∧ ∃ R', RM a ra R' M' ∧ DS (p_zOut P d j) d R R') := by
    intro x4 z5 q
    have et : tgo (s_ P 141 j) = 1 ↔ s_ P 141 j = 11 := by
      unfold tgo; unfold isDat at hdat; split <;> omega
    have e : p_zOut P d j = if s_ P 141 j = 11 ∧ (b_ P 7 j).length = 0 then p_ans (pS P 60 d 3) d 2 else p_ans (pS P 60 d 1) d 14 := by
      unfold p_zOut; rw [if_neg (by omega), if_pos q]
    rw [e]
    refine bb_167_269 ?_
    simp (disch := first | assumption | omega | decide) only [rd_r21 h, rN_21 h, rW_21 h, rk_39 h, et, li_0, li_1, li_2, li_5, nI_eq, nI_clamp, Decidable.not_not, Option.some.injEq, exists_eq_left', true_and]
    refine ⟨fun q1 => kR fun M' R' h1 h2 => ?_, fun q1 => ⟨fun q2 => kR fun M' R' h1 h2 => ?_, fun q2 => ?_⟩⟩
    · refine bb_167_300 ⟨rfl, R', h1, ?_⟩
      rw [if_neg (fun q => q1 q.1)]; exact h2
    · refine bb_167_300 ⟨rfl, R', h1, ?_⟩
      rw [if_neg (fun q => q2 q.2)]; exact h2
    · refine ru_mono (r_ans (rm_wr h)) ?_
      rintro v M1 ⟨rfl, h1⟩
      refine bb_167_292 ⟨rfl, _, h1, ?_⟩
      rw [if_pos ⟨q1, q2⟩]
      refine ds_ans ⟨?_, ?_, fun k hk => ?_⟩ hd (by (repeat' (first | exact fr_refl | assumption | refine fr_u ?_ (by unfold ownR; omega) | refine fr_row ?_ (by unfold ownR; omega))))
      · unfold RelA; simp only [u2_r, s_S, b_S, Nat.reduceEqDiff, false_and, and_true, if_false]; ((repeat' (with_reducible refine And.intro ?_ ?_)) <;> (first | assumption | rfl | trivial | omega))
      · have e22 : R 22 d = nI 1 := z22 q
        unfold RelZ RelZ2; simp only [u2_r, s_S, b_S, nfl_S, Nat.reduceEqDiff, false_and, true_and, and_true, and_self, if_true, if_false, or_self, or_true, false_implies, true_implies, Nat.reduceLeDiff, not_false_eq_true, ne_eq]; ((repeat' (with_reducible refine And.intro ?_ ?_)) <;> (first | assumption | rfl | trivial | omega))
      · have := he k (by revert hk; simp only [s_S, Nat.reduceEqDiff, and_true, if_false]; exact id)
        unfold RelE at *; simp only [u2_r, s_S, b_S, Nat.reduceEqDiff, false_and, if_false]; exact this
  have k303 : ∀ (x4 : Int32) (z5 : Option sm_V), s_ P 60 d = 5 ∨ s_ P 60 d = 6 → sm_Run (D + 2) 167 303 [some (.inr (some a)), some (.inl (nI d)), some (.inl (nI (tgo (s_ P 141 j)))), some (.inl (nI (b_ P 7 j).length)), some (.inl x4), z5] [] M (fun v M' => v = none ∧ ∃ R', RM a ra R' M' ∧ DS (p_zOut P d j) d R R') := by
    intro x4 z5 q
    have e : p_zOut P d j = if tgo (s_ P 141 j) ≠ s_ P 61 d then p_ans P d 2 else p_ans (pS P 60 d 1) d 14 := by
      unfold p_zOut; rw [if_neg (by omega), if_neg (by omega), if_neg (by omega), if_pos q]
    rw [e]
    refine bb_167_303 ?_
    simp (disch := first | assumption | omega | decide) only [rd_r23 h, rR_23 h, rN_23 h, rA_23 h, rk_39 h, z23, li_0, li_2, nI_eq, nI_clamp, Option.some.injEq, exists_eq_left', true_and]
    refine ⟨fun q1 => kR fun M' R' h1 h2 => ?_, fun q1 => kA fun M' R' h1 h2 => ?_⟩
    · refine bb_167_328 ⟨rfl, R', h1, ?_⟩
      rw [if_neg (by omega)]; exact h2
    · refine bb_167_320 ⟨rfl, R', h1, ?_⟩
      rw [if_pos q1]; exact h2
  have k95 : ∀ (x4 : Int32), s_ P 60 d = 4 → tgo (s_ P 141 j) = s_ P 61 d → (b_ P 7 j).length ≤ s_ P 65 d - s_ P 64 d → sm_Run (D + 2) 167 95 [some (.inr (some a)), some (.inl (nI d)), some (.inl (nI (tgo (s_ P 141 j)))), some (.inl (nI (b_ P 7 j).length)), some (.inl x4), some (.inl (nI 0))] [] M (fun v M' => v = none ∧ ∃ R', RM a ra R' M' ∧ DS (p_zOut P d j) d R R') := by
    intro x4 q4 qt ql
    obtain ⟨c1, c2, c3⟩ := d3 q4
    obtain ⟨w31, w29⟩ := z4 q4
    have e : p_zOut P d j = if s_ P 64 d + (b_ P 7 j).length = s_ P 65 d then pS (p_keep (p_zTk1 P d j) d (s_ P 66 d) (s_ P 65 d)) 60 d 5 else p_zTk1 P d j := by
      unfold p_zOut; rw [if_neg (by omega), if_neg (by omega), if_pos q4]
      unfold p_zTake; rw [if_neg (by omega), if_neg (by omega)]
    rw [e]
    refine r_zTk (D := D + 1) (t := s_ P 64 d) (j := j) hd z26 h50 hj l7 (by omega) ?_ (b_ P 7 j).length 0 M (by omega) (by rw [rowU_0]; exact h)
    intro M1 h1
    refine bb_167_95 ?_
    simp (disch := first | assumption | omega | decide) only [rd_r26 h1, rR_26 h1, rN_26 h1, rW_26 h1, rA_26 h1, rd_r23 h1, rR_23 h1, rN_23 h1, rW_23 h1, rA_23 h1, rk_39 h1, z26, z23, Nat.le_refl, li_0, li_1, li_2, li_100, nI_add, pk_mul, nI_leI, pk_sub, nI_clamp, Option.some.injEq, exists_eq_left', false_implies, forall_const, true_and, and_true, not_true_eq_false, Nat.reduceEqDiff, Ip_r h1, Rp_i, rowU_r, false_and, if_false]
    refine ru_mono (r_ans (rm_wr (rm_wr h1))) ?_
    rintro v M2 ⟨rfl, h2⟩
    refine bb_167_172 ?_
    simp (disch := first | assumption | omega | decide) only [rd_r26 h2, rR_26 h2, rN_26 h2, rA_26 h2, rd_r24 h2, rR_24 h2, rN_24 h2, rA_24 h2, rd_r21 h2, rN_21 h2, rW_21 h2, rk_39 h2, z26, z24, li_0, li_4, nI_eq, nI_clamp, Decidable.not_not, Option.some.injEq, exists_eq_left', true_and, and_true, Nat.reduceEqDiff, u2_r, rowU_r, false_and, if_false, if_true]
    have e21 : R 21 d = nI (stg 4) := by rw [z21, q4]
    have e22 := z22b (by omega)
    have e30 := z5 (Or.inl q4)
    obtain ⟨k37, k38, kt, k5, k41, k42, k43, k44⟩ := hk
    have row : ∀ i, i < s_ P 64 d + (b_ P 7 j).length → (if 100 * d + s_ P 64 d ≤ 100 * d + i ∧ 100 * d + i < 100 * d + s_ P 64 d + (b_ P 7 j).length then R 42 (100 * j + (100 * d + i - (100 * d + s_ P 64 d))) else R 29 (100 * d + i)) = nI ((b_ P 29 d ++ b_ P 7 j).getD i 0) := by
      intro i hi
      rw [app_gd]
      by_cases q : i < s_ P 64 d
      · rw [if_neg (by omega), if_pos (by omega)]; exact w29 i q
      · rw [if_pos (by omega), if_neg (by omega), k42 _ (by omega), show 100 * d + i - (100 * d + s_ P 64 d) = i - (b_ P 29 d).length by omega]
    refine ⟨fun q => ⟨_, h2, ?_⟩, fun q => ?_⟩
    · rw [if_neg q]
      unfold p_zTk1
      refine ds_ans ⟨?_, ?_, fun k hk => ?_⟩ hd (by (repeat' (first | exact fr_refl | assumption | refine fr_u ?_ (by unfold ownR; omega) | refine fr_row ?_ (by unfold ownR; omega))))
      · unfold RelA; simp only [u2_r, rowU_r, s_S, s_B, b_S, b_B, Nat.reduceEqDiff, false_and, and_true, if_false]; ((repeat' (with_reducible refine And.intro ?_ ?_)) <;> (first | assumption | rfl | trivial | omega))
      · unfold RelZ RelZ2; simp only [u2_r, rowU_r, s_S, s_B, b_S, b_B, nfl_S, q4, Nat.reduceEqDiff, false_and, true_and, and_true, and_self, if_true, if_false, or_self, or_false, false_implies, true_implies, Nat.reduceLeDiff, not_false_eq_true, ne_eq]; ((repeat' (with_reducible refine And.intro ?_ ?_)) <;> (first | assumption | rfl | trivial | omega))
      · have := he k (by revert hk; simp only [s_S, s_B, Nat.reduceEqDiff, and_true, if_false]; exact id)
        unfold RelE at *; simp only [u2_r, rowU_r, s_S, s_B, b_S, b_B, Nat.reduceEqDiff, false_and, if_false]; exact this
    · rw [if_pos q]
      refine ru_mono (r_keep0 (D := D + 1) (n := s_ P 65 d) (w := s_ P 66 d) (rm_wr h2) hd (by simp only [u2_r, rowU_r, Nat.reduceEqDiff, false_and, and_true, if_false]; exact z24) (by simp only [u2_r, rowU_r, Nat.reduceEqDiff, false_and, and_true, if_false]; exact w31) (by omega)) ?_
      rintro v M3 ⟨rfl, h3⟩
      refine ⟨rfl, _, h3, ?_⟩
      unfold p_keep p_zTk1 p_ans
      refine ⟨⟨?_, ?_, fun k hk => ?_⟩, ?_, fun q => ?_, fun _ => ?_⟩
      · unfold RelA; simp only [u2_r, rowU_r, s_S, s_B, b_S, b_B, Nat.reduceEqDiff, false_and, true_and, and_true, and_self, if_true, if_false]
        refine ⟨a4, a5, a6, a7, a8, a9, a19, a20, ?_⟩
        intro i hi
        rw [kpl_gd (by omega) (by rw [List.length_append]; omega)]
        by_cases q' : s_ P 66 d ≤ i ∧ i < s_ P 66 d + s_ P 65 d
        · rw [if_pos (by omega), if_pos q', show 64 * d + i - (64 * d + s_ P 66 d) = i - s_ P 66 d by omega]
          exact row _ (by omega)
        · rw [if_neg (by omega), if_neg q']; exact a18 i hi
      · unfold RelZ RelZ2; simp only [u2_r, rowU_r, s_S, s_B, b_S, b_B, nfl_S, nfl_B, Nat.reduceEqDiff, false_and, true_and, and_true, and_self, if_true, if_false, or_self, or_true, false_implies, true_implies, Nat.reduceLeDiff, not_false_eq_true, ne_eq]; ((repeat' (with_reducible refine And.intro ?_ ?_)) <;> (first | assumption | rfl | trivial | omega))
      · have := he k (by revert hk; simp only [s_S, s_B, b_S, b_B, Nat.reduceEqDiff, false_and, and_true, and_self, if_true, if_false]; exact id)
        unfold RelE at *; simp only [u2_r, rowU_r, s_S, s_B, b_S, b_B, Nat.reduceEqDiff, false_and, true_and, and_true, and_self, if_true, if_false]; exact this
      · (repeat' (first | exact fr_refl | assumption | refine fr_u ?_ (by unfold ownR; omega) | refine fr_row ?_ (by unfold ownR; omega)))
      · revert q; simp only [u2_r, rowU_r, s_S, s_B, b_S, b_B, Nat.reduceEqDiff, false_and, true_and, and_true, and_self, if_true, if_false, false_implies]
      · unfold AnsR; simp only [u2_r, rowU_r, s_S, s_B, b_S, b_B, Nat.reduceEqDiff, false_and, true_and, and_true, and_self, if_true, if_false]
        exact ⟨rfl, fun j hj => by cases hj⟩
  refine bb_167_0 ?_
  simp (disch := first | assumption | omega | decide) only [rd_r21 h, rR_21 h, rN_21 h, rA_21 h, rd_r23 h, rR_23 h, rN_23 h, rA_23 h, rd_r24 h, rR_24 h, rN_24 h, rA_24 h, rd_r26 h, rR_26 h, rN_26 h, rA_26 h, rd_r22 h, rR_22 h, rN_22 h, rW_22 h, rk_39 h, z21, stg_0, stg_1, stg_2, stg_3, stg_5, z23, z24, z26, li_0, li_1, li_2, li_3, li_5, li_10, li_14, nI_eq, nI_clamp, Decidable.not_not, Option.some.injEq, exists_eq_left', true_and]
  refine ⟨fun q1 => ⟨fun q0 => ⟨fun q4 => ⟨fun q2 => k269 _ _ (Or.inl q2), fun q2 => ⟨fun q5 => k303 _ _ (by omega), fun q5 => ?_⟩⟩, fun q4 => ⟨fun qt => ?_, fun qt => kA fun M' R' h1 h2 => ?_⟩⟩, fun q0 => kA fun M' R' h1 h2 => ?_⟩, fun q1 => kA fun M' R' h1 h2 => ?_⟩
  · rcases q5 with q5 | q5
    · have e22 := z22 (Or.inr q5)
      simp (disch := first | assumption | omega | decide) only [e22, nI_eq, reduceCtorEq, false_implies, forall_const, true_and, not_false_eq_true]
      exact k269 _ _ (Or.inr q5)
    · have e22 := z22b (by omega)
      simp (disch := first | assumption | omega | decide) only [e22, false_implies, forall_const, and_true, not_true_eq_false]
      exact k303 _ _ (Or.inr q5)
  · obtain ⟨c1, c2, c3⟩ := d3 q4
    simp (disch := first | assumption | omega | decide) only [pk_sub c2, nI_leI]
    refine ⟨fun ql => k95 _ q4 qt ql, fun ql => kR fun M' R' h1 h2 => ?_⟩
    refine bb_167_89 ⟨rfl, R', h1, ?_⟩
    have e : p_zOut P d j = p_ans (pS P 60 d 1) d 14 := by
      unfold p_zOut; rw [if_neg (by omega), if_neg (by omega), if_pos q4]
      unfold p_zTake; rw [if_neg (by omega), if_pos (by omega)]
    rw [e]; exact h2
  · refine bb_167_64 ⟨rfl, R', h1, ?_⟩
    have e : p_zOut P d j = p_ans P d 2 := by
      unfold p_zOut; rw [if_neg (by omega), if_neg (by omega), if_pos q4]
      unfold p_zTake; rw [if_pos qt]
    rw [e]; exact h2
  · refine bb_167_38 ⟨rfl, R', h1, ?_⟩
    have e : p_zOut P d j = p_ans P d 10 := by
      unfold p_zOut; rw [if_neg (by omega), if_neg (by omega), if_neg (by omega), if_neg (by omega)]
    rw [e]; exact h2
  · refine bb_167_22 ⟨rfl, R', h1, ?_⟩
    have e : p_zOut P d j = p_ans P d 14 := by
      unfold p_zOut; rw [if_pos q1]
    rw [e]; exact h2
end RY
