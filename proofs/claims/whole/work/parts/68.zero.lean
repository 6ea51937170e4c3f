/-! The reference's device, endpoint 0. -/
section RZ
variable {a : Nat} {ra : Nat → Nat} {R : Nat → Nat → Int32} {M : sm_M} {D : Nat} {P : pP}
theorem stg_1 (n : Nat) : stg n = 1 ↔ n = 1 := by unfold stg; (repeat' split) <;> omega
theorem stg_2 (n : Nat) : stg n = 2 ↔ n = 2 := by unfold stg; (repeat' split) <;> omega
theorem stg_0 (n : Nat) : stg n = 0 ↔ n = 0 := by unfold stg; (repeat' split) <;> omega
theorem stg_3 {n : Nat} : stg n = 3 ↔ n = 4 := by unfold stg; (repeat' split) <;> omega
theorem stg_4 {n : Nat} : stg n = 4 ↔ n = 5 := by unfold stg; (repeat' split) <;> omega
theorem stg_5 {n : Nat} : stg n = 5 ↔ n = 3 ∨ n = 6 := by unfold stg; (repeat' split) <;> omega
theorem stg_b {n : Nat} (h : n ≤ 6) : stg n < 2 ^ 31 := by unfold stg; (repeat' split) <;> omega
/-- the stage becomes refused -/
theorem relD_ref {d : Nat} (h : RelD P R d) : RelD (pS P 60 d 1) (sm_u2 R 21 d (nI 1)) d := by
  obtain ⟨⟨a4, a5, a6, a7, a8, a9, a19, a20, a18⟩, hz, he⟩ := h
  obtain ⟨z60, z21, z23, z24, z26, z22, z22b, z2, z4, z5⟩ := hz
  refine ⟨?_, ?_, fun k hk => ?_⟩
  · unfold RelA; simp only [u2_r, s_S, b_S, Nat.reduceEqDiff, false_and, and_true, if_false]; exact ⟨a4, a5, a6, a7, a8, a9, a19, a20, a18⟩
  · unfold RelZ; simp only [u2_r, s_S, b_S, Nat.reduceEqDiff, false_and, true_and, and_true, and_self, if_true, if_false, or_self, false_implies, Nat.reduceLeDiff]
    ((repeat' (with_reducible refine And.intro ?_ ?_)) <;> (first | assumption | rfl | trivial | omega))
  · have := he k (by revert hk; simp only [s_S, Nat.reduceEqDiff, and_true, if_false]; exact id)
    unfold RelE at *; simp only [u2_r, s_S, b_S, Nat.reduceEqDiff, false_and, if_false]; exact this
/-- WireBusModel.refuse -/
theorem r_refuse {d : Nat} {R0 : Nat → Nat → Int32} (h : RM a ra R M) (hr : RelD P R d) (hd : d < 6) (hf : FrR d R0 R) : sm_Run (D + 1) 166 0 (sm_ent 166 [.inr (some a), .inl (nI d)]) [] M (fun v M' => v = none ∧ ∃ R', RM a ra R' M' ∧ DS (p_ans (pS P 60 d 1) d 14) d R0 R') := by
  refine bb_166_0 ?_
  simp (disch := first | assumption | omega | decide) only [rd_r21 h, rN_21 h, rW_21 h, rk_39 h, li_0, li_1, li_14, nI_clamp, Option.some.injEq, exists_eq_left', true_and]
  refine ru_mono (r_ans (rm_wr h)) ?_
  rintro v M1 ⟨rfl, h1⟩
  refine bb_166_15 ⟨rfl, _, h1, ds_ans (relD_ref hr) hd ?_⟩
  (repeat' (first | exact fr_refl | assumption | refine fr_u ?_ (by unfold ownR; omega) | refine fr_row ?_ (by unfold ownR; omega)))
/-- the loop of askedAtZero, and its end -/
theorem r_zIn_loop {d u t : Nat} (hd : d < 6) (hu : u ≤ 64) (h26 : R 26 d = nI t) (ht : t + u ≤ 64) (h28 : R 28 d = nI u) (h23 : ∃ x, R 23 d = nI x ∧ x ≤ 1) {s x3 : Int32} : ∀ (m i : Nat) (M : sm_M), i + m = u → RM a ra (rowU R 52 0 i (fun j => R 29 (100 * d + t + j))) M →
    sm_Run (D + 1) 163 140 [some (.inr (some a)), some (.inl (nI d)), some (.inl s), some (.inl x3), some (.inl (nI i))] [] M (fun v M' => v = none ∧ RM a ra (sm_u2 (sm_u2 (ansU (rowU R 52 0 u (fun j => R 29 (100 * d + t + j))) d (if R 23 d = nI 1 then 11 else 3) u) 19 d (nI 3)) 20 d (nI 0)) M') := by
  intro m
  obtain ⟨x, h23, hx⟩ := h23
  induction m with
  | zero =>
    intro i M hi h
    obtain rfl : i = u := by omega
    refine bb_163_140 ?_
    simp (disch := first | assumption | omega | decide) only [rd_r28 h, rR_28 h, rN_28 h, rA_28 h, rd_r23 h, rR_23 h, rN_23 h, rA_23 h, rk_39 h, h28, h23, li_1, li_3, li_11, li_100, nI_add, pk_mul, nI_eq, nI_leI, nI_clamp, Decidable.not_not, Option.some.injEq, exists_eq_left', true_and, Nat.reduceEqDiff, rowU_r, false_and, if_false]
    refine ⟨fun _ => ⟨fun q => ?_, fun q => ?_⟩, fun q => by omega⟩
    · rw [if_neg q]
      refine ru_mono (r_ans h) ?_
      rintro v M1 ⟨rfl, h1⟩
      refine bb_163_210 ?_
      simp (disch := first | assumption | omega | decide) only [rd_r19 h1, rN_19 h1, rW_19 h1, rd_r20 h1, rN_20 h1, rW_20 h1, rk_39 h1, li_0, li_3, nI_clamp, Option.some.injEq, exists_eq_left', true_and, Rp_i]
      (repeat' (first | assumption | refine rm_wr ?_ | refine rm_sr ?_))
    · rw [if_pos q]
      refine ru_mono (r_ans h) ?_
      rintro v M1 ⟨rfl, h1⟩
      refine bb_163_210 ?_
      simp (disch := first | assumption | omega | decide) only [rd_r19 h1, rN_19 h1, rW_19 h1, rd_r20 h1, rN_20 h1, rW_20 h1, rk_39 h1, li_0, li_3, nI_clamp, Option.some.injEq, exists_eq_left', true_and, Rp_i]
      (repeat' (first | assumption | refine rm_wr ?_ | refine rm_sr ?_))
  | succ m ih =>
    intro i M hi h
    refine bb_163_140 ?_
    simp (disch := first | assumption | omega | decide) only [rd_r28 h, rR_28 h, rN_28 h, rA_28 h, rd_r26 h, rR_26 h, rN_26 h, rA_26 h, rd_r29 h, rR_29 h, rN_29 h, rA_29 h, rd_r52 h, rN_52 h, rW_52 h, rk_39 h, h28, h26, li_1, li_3, li_11, li_100, nI_add, pk_mul, nI_leI, nI_clamp, Decidable.not_not, Option.some.injEq, exists_eq_left', true_and, Nat.reduceEqDiff, rowU_r, false_and, if_false]
    refine ⟨fun q => by omega, fun _ => ?_⟩
    refine ih (i + 1) _ (by omega) ?_
    have h1 := rm_wr h (f := 52) (j := i) (v := R 29 (100 * d + t + i))
    have e := rowU_s (R := R) (f := 52) (o := 0) (n := i) (v := fun j => R 29 (100 * d + t + j))
    rw [Nat.zero_add] at e
    rw [e] at h1
    exact h1
theorem dk_if {x : Nat} (h : x ≤ 1) : (if x = 1 then 11 else 3) = dkn x := by unfold dkn; (repeat' split) <;> omega
theorem dst {l : List Nat} {t u j : Nat} (h : j < (List.take u (l.drop t)).length) : (List.take u (l.drop t)).getD j 0 = l.getD (t + j) 0 := by
  have h1 : j < u ∧ j < l.length - t := by rw [List.length_take, List.length_drop] at h; omega
  rw [List.getD_eq_getElem?_getD, List.getD_eq_getElem?_getD, List.getElem?_take_of_lt h1.1, List.getElem?_drop]
/-- WireBusModel.askedAtZero -/
theorem r_zIn {d : Nat} (h : RM a ra R M) (hx : EX P) (hr : RelD P R d) (hd : d < 6) (hD : DI P d) : sm_Run (D + 1) 163 0 (sm_ent 163 [.inr (some a), .inl (nI d)]) [] M (fun v M' => v = none ∧ ∃ R', RM a ra R' M' ∧ DS (p_zIn P d) d R R') := by
  have hr0 := hr
  obtain ⟨⟨a4, a5, a6, a7, a8, a9, a19, a20, a18⟩, hz, he⟩ := hr
  obtain ⟨z60, z21, z23, z24, z26, z22, z22b, z2, z4, z5⟩ := hz
  have sb := stg_b z60
  have b64 := ex_b hx 64 d
  have b65 := ex_b hx 65 d
  have b63 := ex_b hx 63 d
  have b80 := ex_b hx 80 d
  have l29 := ex_29 hx hd
  have h61 := hD.1
  -- refused
  have kS : ∀ (x2 x3 : Int32) (z4 : Option sm_V), s_ P 60 d = 1 ∨ (s_ P 60 d = 2 ∧ s_ P 69 d ≠ 0) → sm_Run (D + 1) 163 61 [some (.inr (some a)), some (.inl (nI d)), some (.inl x2), some (.inl x3), z4] [] M (fun v M' => v = none ∧ ∃ R', RM a ra R' M' ∧ DS (p_zIn P d) d R R') := by
    intro x2 x3 z4 hc
    have e : p_zIn P d = p_ans (pS P 60 d 1) d 14 := by
      unfold p_zIn p_zIn1
      rcases hc with hc | hc
      · rw [if_neg (by omega)]
        unfold p_zIn2
        rw [if_pos hc]
        have := pSe (P := P) (f := 60) (i := d)
        rw [hc] at this
        rw [this]
      · rw [if_pos hc]
        unfold p_zIn2
        rw [s_Ss, if_pos rfl]
    rw [e]
    refine bb_163_61 ?_
    simp (disch := first | assumption | omega | decide) only [rd_r21 h, rN_21 h, rW_21 h, rk_39 h, li_0, li_1, li_14, nI_clamp, Option.some.injEq, exists_eq_left', true_and]
    refine ru_mono (r_ans (rm_wr h)) ?_
    rintro v M1 ⟨rfl, h1⟩
    refine bb_163_76 ⟨rfl, _, h1, ds_ans (relD_ref hr0) hd ?_⟩
    (repeat' (first | exact fr_refl | assumption | refine fr_u ?_ (by unfold ownR; omega) | refine fr_row ?_ (by unfold ownR; omega)))
  -- bytes
  have kD : ∀ (x2 x3 : Int32) (R1 : Nat → Nat → Int32) (M : sm_M), s_ P 60 d = 2 → s_ P 69 d = 0 → RM a ra R1 M → (R1 = R ∨ R1 = sm_u2 R 28 d (nI (nfl P d))) → R1 28 d = nI (nfl P d) → sm_Run (D + 1) 163 140 [some (.inr (some a)), some (.inl (nI d)), some (.inl x2), some (.inl x3), some (.inl (nI 0))] [] M (fun v M' => v = none ∧ ∃ R', RM a ra R' M' ∧ DS (p_zIn P d) d R R') := by
    intro x2 x3 R1 M hs h69 h1 hR1 h28
    obtain ⟨y25, y28, y27, y69, y29, y68⟩ := z2 hs
    obtain ⟨g1, g2⟩ := hD.2.1 hs h69
    have hn : nfl P d ≤ s_ P 63 d - 1 - s_ P 64 d := Nat.min_le_right _ _
    have e26 : R1 26 d = nI (s_ P 64 d) := by rcases hR1 with rfl | rfl <;> first | exact z26 | (simp only [u2_r, rowU_r, s_S, s_B, s_F, b_S, b_B, b_F, f_S, f_B, nfl_S, nfl_B, Nat.reduceEqDiff, false_and, and_false, true_and, and_true, and_self, if_true, if_false, reduceIte, ite_self, or_self, or_false, false_or, or_true, true_or, false_implies, implies_true, true_implies, Nat.reduceLeDiff, not_true_eq_false, not_false_eq_true, ne_eq]; exact z26)
    have e23 : R1 23 d = nI (s_ P 61 d) := by rcases hR1 with rfl | rfl <;> first | exact z23 | (simp only [u2_r, rowU_r, s_S, s_B, s_F, b_S, b_B, b_F, f_S, f_B, nfl_S, nfl_B, Nat.reduceEqDiff, false_and, and_false, true_and, and_true, and_self, if_true, if_false, reduceIte, ite_self, or_self, or_false, false_or, or_true, true_or, false_implies, implies_true, true_implies, Nat.reduceLeDiff, not_true_eq_false, not_false_eq_true, ne_eq]; exact z23)
    have eO : ∀ f i, f ≠ 28 → R1 f i = R f i := by
      intro f i hf
      rcases hR1 with rfl | rfl
      · rfl
      · rw [u2_r, if_neg (fun q => hf q.1)]
    refine ru_mono (r_zIn_loop (R := R1) (u := nfl P d) (t := s_ P 64 d) hd (by omega) e26 (by omega) h28 ⟨_, e23, h61⟩ (nfl P d) 0 M (by omega) (by rw [rowU_0]; exact h1)) ?_
    rintro v M' ⟨rfl, h2⟩
    refine ⟨rfl, _, h2, ?_⟩
    have e : p_zIn P d = pB (p_ansD (pS P 68 d (nfl P d)) d (s_ P 61 d) 0) 7 (60 + d) (((b_ P 29 d).drop (s_ P 64 d)).take (nfl P d)) := by
      unfold p_zIn p_zIn1
      rw [if_neg (by omega)]
      unfold p_zIn2
      rw [if_neg (by omega), if_pos hs]
    have ek : (if R1 23 d = nI 1 then 11 else 3) = dkn (s_ P 61 d) := by
      rw [e23, ← dk_if h61]
      simp only [nI_eq (show s_ P 61 d < 2 ^ 31 by omega) (show 1 < 2 ^ 31 by decide)]
    have hlen : (((b_ P 29 d).drop (s_ P 64 d)).take (nfl P d)).length = nfl P d := by rw [List.length_take, List.length_drop]; omega
    rw [e, ek]
    unfold p_ansD p_ans
    refine ⟨⟨?_, ?_, fun k hk => ?_⟩, ?_, fun q => ?_, fun _ => ?_⟩
    · rcases hR1 with rfl | rfl <;> (unfold RelA; simp only [u2_r, rowU_r, s_S, s_B, b_S, b_B, Nat.reduceEqDiff, false_and, true_and, and_true, and_self, if_true, if_false]; ((repeat' (with_reducible refine And.intro ?_ ?_)) <;> (first | assumption | rfl | trivial | omega)))
    · have e28 : ¬ nI (nfl P d) = nE 0 := by rw [nI_E (by omega) (by omega)]; omega
      have e21 : R 21 d = nI (stg 2) := by rw [z21, hs]
      have e22 := z22 (Or.inl hs)
      rcases hR1 with rfl | rfl
      · unfold RelZ RelZ2; simp only [u2_r, rowU_r, s_S, s_B, b_S, b_B, nfl_S, nfl_B, hs, h69, h28, e28, Nat.reduceEqDiff, false_and, true_and, and_true, and_self, if_true, if_false, ite_self, or_self, or_false, or_true, false_implies, implies_true, true_implies, Nat.reduceLeDiff, not_true_eq_false, not_false_eq_true, ne_eq]; ((repeat' (with_reducible refine And.intro ?_ ?_)) <;> (first | assumption | rfl | trivial | omega))
      · unfold RelZ RelZ2; simp only [u2_r, rowU_r, s_S, s_B, b_S, b_B, nfl_S, nfl_B, hs, h69, e28, Nat.reduceEqDiff, false_and, true_and, and_true, and_self, if_true, if_false, ite_self, or_self, or_false, or_true, false_implies, implies_true, true_implies, Nat.reduceLeDiff, not_true_eq_false, not_false_eq_true, ne_eq]; ((repeat' (with_reducible refine And.intro ?_ ?_)) <;> (first | assumption | rfl | trivial | omega))
    · have := he k (by revert hk; simp only [s_S, s_B, Nat.reduceEqDiff, false_and, and_true, if_false]; exact id)
      rcases hR1 with rfl | rfl <;> (unfold RelE at *; simp only [u2_r, rowU_r, s_S, s_B, b_S, b_B, Nat.reduceEqDiff, false_and, if_false]; exact this)
    · rcases hR1 with rfl | rfl <;> (repeat' (first | exact fr_refl | assumption | refine fr_u ?_ (by unfold ownR; omega) | refine fr_row ?_ (by unfold ownR; omega)))
    · revert q; simp only [s_S, s_B, Nat.reduceEqDiff, false_and, and_true, and_self, if_true, if_false, false_implies]
    · unfold AnsR; simp only [u2_r, rowU_r, s_S, s_B, b_S, b_B, hlen, Nat.reduceEqDiff, false_and, true_and, and_true, and_self, if_true, if_false, Nat.reduceLeDiff]
      intro j hj
      rw [if_pos (by omega), eO 29 _ (by decide), dst (by omega), show 100 * d + s_ P 64 d + (j - 0) = 100 * d + (s_ P 64 d + j) by omega]
      exact y29 _ (by omega)
  have kNS : s_ P 60 d ≠ 2 → s_ P 60 d ≠ 1 → sm_Run (D + 1) 163 50 [some (.inr (some a)), some (.inl (nI d)), some (.inl (nI (stg (s_ P 60 d)))), none, none] [] M (fun v M' => v = none ∧ ∃ R', RM a ra R' M' ∧ DS (p_zIn P d) d R R') := by
    intro q2 q1
    refine bb_163_50 ?_
    simp (disch := first | assumption | omega | decide) only [rk_39 h, stg_1, stg_2, stg_4, ↓li_m1, li_0, li_1, li_2, li_4, li_10, li_11, nI_eq, nI_clamp, Decidable.not_not, true_and]
    refine ⟨fun q => absurd q q1, fun _ => ⟨fun _ => ⟨fun q5 => ?_, fun q5 => ?_⟩, fun q => absurd q q2⟩⟩
    · refine ru_mono (r_ans h) ?_
      rintro v M1 ⟨rfl, h1⟩
      refine bb_163_265 ⟨rfl, _, h1, ?_⟩
      have e : p_zIn P d = p_ans P d 10 := by
        unfold p_zIn p_zIn1; rw [if_neg (by omega)]; unfold p_zIn2; rw [if_neg q1, if_neg q2, if_neg q5]
      rw [e]
      exact ds_ans hr0 hd fr_refl
    · refine ru_mono (r_ans h) ?_
      rintro v M1 ⟨rfl, h1⟩
      refine bb_163_240 ?_
      simp (disch := first | assumption | omega | decide) only [rd_r19 h1, rN_19 h1, rW_19 h1, rd_r20 h1, rN_20 h1, rW_20 h1, rk_39 h1, li_0, li_3, nI_clamp, Option.some.injEq, exists_eq_left', true_and, Rp_i]
      refine ⟨_, rm_wr (rm_wr h1), ?_⟩
      have e : p_zIn P d = p_ansD P d 1 0 := by
        unfold p_zIn p_zIn1; rw [if_neg (by omega)]; unfold p_zIn2; rw [if_neg q1, if_neg q2, if_pos q5]
      rw [e]
      unfold p_ansD p_ans
      have e21 : R 21 d = nI (stg 5) := by rw [z21, q5]
      have e22 := z22b (by omega)
      have e30 := z5 (Or.inr q5)
      refine ⟨⟨?_, ?_, fun k hk => ?_⟩, ?_, fun q => ?_, fun _ => ?_⟩
      · unfold RelA; simp only [u2_r, s_S, s_B, b_S, b_B, Nat.reduceEqDiff, false_and, true_and, and_true, and_self, if_true, if_false]; ((repeat' (with_reducible refine And.intro ?_ ?_)) <;> (first | assumption | rfl | trivial | omega))
      · unfold RelZ RelZ2; simp only [u2_r, s_S, s_B, b_S, b_B, nfl_S, nfl_B, q5, Nat.reduceEqDiff, false_and, true_and, and_true, and_self, if_true, if_false, or_self, or_true, false_implies, true_implies, Nat.reduceLeDiff, not_false_eq_true, ne_eq]; ((repeat' (with_reducible refine And.intro ?_ ?_)) <;> (first | assumption | rfl | trivial | omega))
      · have := he k (by revert hk; simp only [s_S, s_B, Nat.reduceEqDiff, false_and, and_true, if_false]; exact id)
        unfold RelE at *; simp only [u2_r, s_S, s_B, b_S, b_B, Nat.reduceEqDiff, false_and, if_false]; exact this
      · (repeat' (first | exact fr_refl | assumption | refine fr_u ?_ (by unfold ownR; omega) | refine fr_row ?_ (by unfold ownR; omega)))
      · revert q; simp only [s_S, s_B, Nat.reduceEqDiff, false_and, and_true, and_self, if_true, if_false, false_implies]
      · unfold AnsR; simp only [u2_r, s_S, s_B, b_S, b_B, Nat.reduceEqDiff, false_and, true_and, and_true, and_self, if_true, if_false, ite_self]
        refine ⟨rfl, rfl, fun j hj => by cases hj⟩
  refine bb_163_0 ?_
  by_cases hs : s_ P 60 d = 2
  · obtain ⟨y25, y28, y27, y69, y29, y68⟩ := z2 hs
    have hst : stg (s_ P 60 d) = 2 := (stg_2 _).mpr hs
    by_cases h69 : s_ P 69 d = 0
    · obtain ⟨g1, g2⟩ := hD.2.1 hs h69
      have hnn : nfl P d ≤ s_ P 63 d - 1 - s_ P 64 d := Nat.min_le_right _ _
      have h65 : s_ P 65 d < 2 ^ 31 := b65
      rcases y28 with y28 | y28
      · have hno : ¬ (s_ P 64 d = s_ P 65 d) ∧ ¬ R 27 d = nI 1 := by
          constructor
          · intro q; exact absurd h69 (y69.mpr ⟨y28, Or.inl q⟩)
          · intro q; exact absurd h69 (y69.mpr ⟨y28, Or.inr q⟩)
        have e27 : R 27 d = nI 0 := by rcases y27 with q | q; exact q; exact absurd q hno.2
        simp (disch := first | assumption | omega | decide) only [rd_r21 h, rR_21 h, rN_21 h, rA_21 h, rd_r28 h, rR_28 h, rN_28 h, rA_28 h, rd_r26 h, rR_26 h, rN_26 h, rA_26 h, rd_r24 h, rR_24 h, rN_24 h, rA_24 h, rd_r27 h, rR_27 h, rN_27 h, rW_27 h, rk_39 h, z21, hst, y28, z26, z24, e27, ↓li_m1, li_0, li_2, nI_eq, nI_clamp, Decidable.not_not, Option.some.injEq, exists_eq_left', false_implies, forall_const, true_and, and_true, not_true_eq_false]
        refine ⟨fun q => absurd q hno.1, fun _ => ?_⟩
        refine bb_163_50 ?_
        simp (disch := first | assumption | omega | decide) only [rd_r28 h, rR_28 h, rN_28 h, rW_28 h, rA_28 h, rd_r25 h, rR_25 h, rN_25 h, rA_25 h, rd_r26 h, rR_26 h, rN_26 h, rA_26 h, rd_r6 h, rR_6 h, rN_6 h, rA_6 h, rk_39 h, y28, y25, z26, a6, ↓li_m1, li_0, li_1, li_2, li_4, li_10, li_11, nI_eq, nI_leI, pk_sub, nI_clamp, Decidable.not_not, Option.some.injEq, exists_eq_left', false_implies, forall_const, true_and, and_true, not_false_eq_true, not_true_eq_false, Nat.reduceEqDiff]
        refine ⟨fun q => ?_, fun q => ?_⟩
        · refine kD _ _ _ _ hs h69 (rm_wr h) (Or.inr ?_) ?_
          · have e : nfl P d = s_ P 80 d := by unfold nfl; omega
            rw [e]
          · have e : nfl P d = s_ P 80 d := by unfold nfl; omega
            rw [u2_r, if_pos ⟨rfl, rfl⟩, e]
        · have e : nfl P d = s_ P 63 d - 1 - s_ P 64 d := by unfold nfl; omega
          refine kD _ _ _ _ hs h69 (rm_wr h) (Or.inr ?_) ?_
          · rw [e]
          · rw [u2_r, if_pos ⟨rfl, rfl⟩, e]
      · simp (disch := first | assumption | omega | decide) only [rd_r21 h, rR_21 h, rN_21 h, rA_21 h, rd_r28 h, rR_28 h, rN_28 h, rA_28 h, rd_r26 h, rR_26 h, rN_26 h, rA_26 h, rd_r24 h, rR_24 h, rN_24 h, rA_24 h, rd_r27 h, rR_27 h, rN_27 h, rW_27 h, rk_39 h, z21, hst, y28, z26, z24, nI_E, ↓li_m1, li_0, li_2, nI_eq, nI_clamp, Decidable.not_not, Option.some.injEq, exists_eq_left', reduceCtorEq, false_implies, forall_const, true_and, and_true, not_false_eq_true, not_true_eq_false]
        refine bb_163_50 ?_
        simp (disch := first | assumption | omega | decide) only [rd_r28 h, rR_28 h, rN_28 h, rW_28 h, rA_28 h, rk_39 h, y28, nI_E, ↓li_m1, li_0, li_1, li_2, li_4, li_10, li_11, nI_eq, nI_clamp, Decidable.not_not, Option.some.injEq, exists_eq_left', reduceCtorEq, false_implies, forall_const, true_and, and_true, not_false_eq_true, not_true_eq_false, Nat.reduceEqDiff]
        exact kD _ _ _ _ hs h69 h (Or.inl rfl) y28
    · obtain ⟨y28', hor⟩ := y69.mp h69
      simp (disch := first | assumption | omega | decide) only [rd_r21 h, rR_21 h, rN_21 h, rA_21 h, rd_r28 h, rR_28 h, rN_28 h, rA_28 h, rd_r26 h, rR_26 h, rN_26 h, rA_26 h, rd_r24 h, rR_24 h, rN_24 h, rA_24 h, rd_r27 h, rR_27 h, rN_27 h, rW_27 h, rk_39 h, z21, hst, y28', z26, z24, ↓li_m1, li_0, li_2, nI_eq, nI_clamp, Decidable.not_not, Option.some.injEq, exists_eq_left', false_implies, forall_const, true_and, not_true_eq_false]
      refine ⟨fun _ => bb_163_46 ⟨fun _ => kS _ _ _ (Or.inr ⟨hs, h69⟩), fun _ => kS _ _ _ (Or.inr ⟨hs, h69⟩)⟩, fun q => ?_⟩
      have e27 : R 27 d = nI 1 := by rcases hor with q' | q'; exact absurd q' q; exact q'
      simp (disch := first | assumption | omega | decide) only [e27, nI_eq, reduceCtorEq, false_implies, forall_const, true_and, not_false_eq_true]
      exact bb_163_46 ⟨fun _ => kS _ _ _ (Or.inr ⟨hs, h69⟩), fun _ => kS _ _ _ (Or.inr ⟨hs, h69⟩)⟩
  · simp (disch := first | assumption | omega | decide) only [rd_r21 h, rR_21 h, rN_21 h, rA_21 h, rk_39 h, z21, stg_2, ↓li_m1, li_0, li_2, nI_eq, nI_clamp, Decidable.not_not, Option.some.injEq, exists_eq_left', true_and]
    refine ⟨fun _ => ?_, fun q => absurd q hs⟩
    by_cases q1 : s_ P 60 d = 1
    · refine bb_163_50 ⟨fun _ => kS _ _ _ (Or.inl q1), fun q => absurd ?_ q⟩
      rw [q1]; rfl
    · exact kNS hs q1
end RZ
