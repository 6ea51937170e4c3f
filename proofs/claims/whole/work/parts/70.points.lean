/-! The reference's device: the other endpoints. -/
section RP
variable {a : Nat} {ra : Nat → Nat} {R : Nat → Nat → Int32} {M : sm_M} {D : Nat} {P : pP}
theorem nI_n1 {n : Nat} (h : n < 2 ^ 31) : ¬ nI n = nE 0 := by
  intro q
  have := congrArg Int32.toInt q
  rw [nI_toInt h, show (nE 0).toInt = -1 from rfl] at this
  omega
/-- the loop of asked, and its end -/
theorem r_eIn_loop {d e u n : Nat} {y : Nat} (hd : d < 6) (he : e < 36) (hu : u ≤ 64) (h16 : R 16 e = nI u) (h13 : R 13 e = nI y) (hy : y ≤ 1) (hn : n < 16) : ∀ (m i : Nat) (M : sm_M), i + m = u → RM a ra (rowU R 52 0 i (fun j => R 17 (256 * e + j))) M →
    sm_Run (D + 1) 162 136 [some (.inr (some a)), some (.inl (nI d)), some (.inl (nI n)), some (.inl (nI e)), some (.inl (nI i))] [] M (fun v M' => v = none ∧ RM a ra (sm_u2 (sm_u2 (ansU (rowU R 52 0 u (fun j => R 17 (256 * e + j))) d (dkn y) u) 19 d (nI 3)) 20 d (nI (128 + n))) M') := by
  intro m
  induction m with
  | zero =>
    intro i M hi h
    obtain rfl : i = u := by omega
    refine bb_162_136 ?_
    simp (disch := first | assumption | omega | decide) only [rd_r16 h, rR_16 h, rN_16 h, rA_16 h, rd_r13 h, rR_13 h, rN_13 h, rA_13 h, rk_39 h, h16, h13, li_1, li_3, li_11, li_256, nI_add, pk_mul, nI_eq, nI_leI, nI_clamp, Decidable.not_not, Option.some.injEq, exists_eq_left', true_and, Nat.reduceEqDiff, rowU_r, false_and, if_false]
    refine ⟨fun _ => ⟨fun q => ?_, fun q => ?_⟩, fun q => by omega⟩
    · rw [show dkn y = 3 by unfold dkn; rw [if_pos (by omega)]]
      refine ru_mono (r_ans h) ?_
      rintro v M1 ⟨rfl, h1⟩
      refine bb_162_200 ?_
      simp (disch := first | assumption | omega | decide) only [rd_r19 h1, rN_19 h1, rW_19 h1, rd_r20 h1, rN_20 h1, rW_20 h1, rk_39 h1, li_3, li_128, nI_add, nI_clamp, Option.some.injEq, exists_eq_left', true_and, Rp_i]
      (repeat' (first | assumption | refine rm_wr ?_ | refine rm_sr ?_))
    · rw [show dkn y = 11 by unfold dkn; rw [if_neg (by omega)]]
      refine ru_mono (r_ans h) ?_
      rintro v M1 ⟨rfl, h1⟩
      refine bb_162_200 ?_
      simp (disch := first | assumption | omega | decide) only [rd_r19 h1, rN_19 h1, rW_19 h1, rd_r20 h1, rN_20 h1, rW_20 h1, rk_39 h1, li_3, li_128, nI_add, nI_clamp, Option.some.injEq, exists_eq_left', true_and, Rp_i]
      (repeat' (first | assumption | refine rm_wr ?_ | refine rm_sr ?_))
  | succ m ih =>
    intro i M hi h
    refine bb_162_136 ?_
    simp (disch := first | assumption | omega | decide) only [rd_r16 h, rR_16 h, rN_16 h, rA_16 h, rd_r17 h, rR_17 h, rN_17 h, rA_17 h, rd_r52 h, rN_52 h, rW_52 h, rk_39 h, h16, li_1, li_3, li_11, li_256, nI_add, pk_mul, nI_leI, nI_clamp, Decidable.not_not, Option.some.injEq, exists_eq_left', true_and, Nat.reduceEqDiff, rowU_r, false_and, if_false]
    refine ⟨fun q => by omega, fun _ => ?_⟩
    refine ih (i + 1) _ (by omega) ?_
    have h1 := rm_wr h (f := 52) (j := i) (v := R 17 (256 * e + i))
    have e := rowU_s (R := R) (f := 52) (o := 0) (n := i) (v := fun j => R 17 (256 * e + j))
    rw [Nat.zero_add] at e
    rw [e] at h1
    exact h1
theorem tk_gd {l : List Nat} {u j : Nat} (h : j < u) : (l.take u).getD j 0 = l.getD j 0 := by
  rw [List.getD_eq_getElem?_getD, List.getD_eq_getElem?_getD, List.getElem?_take_of_lt h]
/-- WireBusModel.asked -/
theorem r_hIn {d n : Nat} (h : RM a ra R M) (hx : EX P) (hr : RelD P R d) (hd : d < 6) (hn : n < 16) (hD : DI P d) (h91 : s_ P 91 d = 0) (h101 : ∀ k, k < s_ P 86 d → 1 ≤ s_ P 101 (6 * d + k)) : sm_Run (D + 2) 162 0 (sm_ent 162 [.inr (some a), .inl (nI d), .inl (nI n)]) [] M (fun v M' => v = none ∧ ∃ R', RM a ra R' M' ∧ DS (p_hIn P d n) d R R') := by
  have hr0 := hr
  have h86 := ex_86 hx hd
  have b83 := ex_b hx 83 d
  refine bb_162_0 ?_
  unfold p_hIn
  simp (disch := first | assumption | omega | decide) only [rk_39 h, li_0, li_128, nI_add, nI_eq, Decidable.not_not, true_and]
  refine ⟨fun q0 => ?_, fun q0 => ?_⟩
  · rw [if_neg q0]
    refine ru_mono (r_pt h hx hr hd (by omega)) ?_
    rintro v M1 ⟨rfl, rfl⟩
    rw [Nat.add_comm 128 n]
    cases hf : p_find P d (n + 128) with
    | none => exact bb_162_20 ⟨fun _ => ⟨rfl, _, h, ds_refl hr0 h91⟩, fun q => absurd rfl q⟩
    | some k =>
      obtain ⟨hk, ha⟩ := find_lt hf
      obtain ⟨⟨a4, a5, a6, a7, a8, a9, a19, a20, a18⟩, hz, he⟩ := hr
      obtain ⟨e10, e11, e12, e13, e14, e15, e16, e17⟩ := he k hk
      obtain ⟨k1, k2, k3, k4⟩ := hD.2.2.2.2.2 k hk
      have k5 := h101 k hk
      have l1 := ex_1 hx hd hk
      have b104 := ex_b hx 104 (6 * d + k)
      have n1 := nI_n1 (show 6 * d + k < 2 ^ 31 by omega)
      refine bb_162_20 ⟨fun q => absurd q n1, fun _ => ?_⟩
      show sm_K M a = 39 ∧ _
      dsimp only [ptI]
      have key : ∀ u M1, 1 ≤ u → u ≤ (b_ P 1 (1 + (6 * d + k))).length → u ≤ 64 → RM a ra (sm_u2 R 16 (6 * d + k) (nI u)) M1 → sm_Run (D + 2) 162 136 [some (.inr (some a)), some (.inl (nI d)), some (.inl (nI n)), some (.inl (nI (6 * d + k))), some (.inl (nI 0))] [] M1 (fun v M' => v = none ∧ ∃ R', RM a ra R' M' ∧ DS (pB (p_ansD (pS P 105 (6 * d + k) u) d (s_ P 103 (6 * d + k)) (s_ P 100 (6 * d + k))) 7 (60 + d) ((b_ P 1 (1 + (6 * d + k))).take u)) d R R') := by
        intro u M1 hu1 hul hu64 hM
        refine ru_mono (r_eIn_loop (D := D + 1) (R := sm_u2 R 16 (6 * d + k) (nI u)) (u := u) (y := s_ P 103 (6 * d + k)) hd (by omega) (by omega) (by simp only [u2_r, and_self, if_true]) (by simp only [u2_r, Nat.reduceEqDiff, and_true, if_false]; exact e13) k1 hn u 0 M1 (by omega) (by rw [rowU_0]; exact hM)) ?_
        rintro v M2 ⟨rfl, h2⟩
        refine ⟨rfl, _, h2, ?_⟩
        have hlen : ((b_ P 1 (1 + (6 * d + k))).take u).length = u := by rw [List.length_take]; omega
        unfold p_ansD p_ans
        have a100 : 128 + n = s_ P 100 (6 * d + k) := by omega
        rw [a100]
        refine ⟨⟨?_, ?_, fun k' hk' => ?_⟩, ?_, fun q => ?_, fun _ => ?_⟩
        · unfold RelA; simp only [u2_r, rowU_r, s_S, s_B, b_S, b_B, Nat.reduceEqDiff, false_and, true_and, and_true, and_self, if_true, if_false]; ((repeat' (with_reducible refine And.intro ?_ ?_)) <;> (first | assumption | rfl | trivial | omega))
        · obtain ⟨z60, z21, z23, z24, z26, z22, z22b, z2, z4, z5⟩ := hz
          unfold RelZ; unfold RelZ2 at *; simp only [u2_r, rowU_r, s_S, s_B, b_S, b_B, nfl_S, nfl_B, Nat.reduceEqDiff, false_and, and_true, and_self, if_true, if_false, true_implies, not_false_eq_true, ne_eq]
          refine ⟨z60, z21, z23, z24, z26, z22, z22b, fun q => ?_, z4, z5⟩
          obtain ⟨y25, y28, y27, y69, y29, y68⟩ := z2 q
          exact ⟨y25, y28, y27, y69, y29, fun q => by omega⟩
        · have hk2 := he k' (by revert hk'; simp only [s_S, s_B, Nat.reduceEqDiff, false_and, and_true, if_false]; exact id)
          by_cases qk : k' = k
          · subst qk
            unfold RelE; simp only [u2_r, rowU_r, s_S, s_B, b_S, b_B, Nat.reduceEqDiff, false_and, and_true, and_self, if_true, if_false, ite_self]
            refine ⟨e10, e11, e12, e13, e14, e15, ?_, e17⟩
            rw [if_neg (by omega)]
          · unfold RelE at *; simp only [u2_r, rowU_r, s_S, s_B, b_S, b_B, show ¬ (6 * d + k' = 6 * d + k) by omega, Nat.reduceEqDiff, false_and, and_false, and_self, if_false]; exact hk2
        · (repeat' (first | exact fr_refl | assumption | refine fr_u ?_ (by unfold ownR; omega) | refine fr_row ?_ (by unfold ownR; omega)))
        · revert q; simp only [u2_r, s_S, s_B, Nat.reduceEqDiff, false_and, and_true, and_self, if_true, if_false, false_implies]
        · unfold AnsR; simp only [u2_r, rowU_r, s_S, s_B, b_S, b_B, hlen, Nat.reduceEqDiff, false_and, true_and, and_true, and_self, if_true, if_false, Nat.reduceLeDiff]
          intro j hj
          rw [if_pos (by omega), tk_gd hj]
          exact e17 j (by omega)
      simp (disch := first | assumption | omega | decide) only [rd_r4 h, rR_4 h, rN_4 h, rA_4 h, rd_r14 h, rR_14 h, rN_14 h, rW_14 h, rk_39 h, a4, e14, ↓li_m1, li_0, li_3, li_10, li_14, nI_eq, nI_clamp, Decidable.not_not, Option.some.injEq, exists_eq_left', true_and]
      refine ⟨fun q3 => ?_, fun q3 => ?_⟩
      · rw [if_pos q3]
        unfold p_eIn
        refine ⟨fun q4 => ?_, fun q4 => ?_⟩
        · rw [if_neg (by omega)]
          by_cases q5 : s_ P 105 (6 * d + k) = 0
          · rw [if_pos q5] at e16
            have e1 : p_eIn1 P (6 * d + k) = pS P 105 (6 * d + k) (min (s_ P 101 (6 * d + k)) (b_ P 1 (1 + (6 * d + k))).length) := by unfold p_eIn1; rw [if_pos q5]
            have e2 : s_ (p_eIn1 P (6 * d + k)) 105 (6 * d + k) = min (s_ P 101 (6 * d + k)) (b_ P 1 (1 + (6 * d + k))).length := by rw [e1, s_Ss]
            simp (disch := first | assumption | omega | decide) only [rd_r16 h, rR_16 h, rN_16 h, rA_16 h, rd_r15 h, rR_15 h, rN_15 h, rA_15 h, e16, e15, nI_eq, Option.some.injEq, exists_eq_left', false_implies, forall_const, true_and, not_true_eq_false]
            refine ⟨fun q6 => ?_, fun q6 => ?_⟩
            · rw [e2, e1, if_neg (by omega)]
              refine bb_162_87 ?_
              simp (disch := first | assumption | omega | decide) only [rd_r16 h, rR_16 h, rN_16 h, rW_16 h, rA_16 h, rd_r15 h, rR_15 h, rN_15 h, rA_15 h, rd_r11 h, rR_11 h, rN_11 h, rA_11 h, rk_39 h, e16, e15, e11, ↓li_m1, li_0, nI_leI, nI_clamp, Decidable.not_not, Option.some.injEq, exists_eq_left', false_implies, forall_const, true_and, not_true_eq_false]
              refine ⟨fun q7 => ?_, fun q7 => ?_⟩
              · rw [Nat.min_eq_left q7]
                exact key _ _ k5 q7 k4 (rm_wr h)
              · rw [Nat.min_eq_right (by omega)]
                exact key _ _ (by omega) (Nat.le_refl _) (by omega) (rm_wr h)
            · rw [e2, e1, if_pos (by omega), q6, Nat.min_zero]
              have ep : pS P 105 (6 * d + k) 0 = P := by
                have := pSe (P := P) (f := 105) (i := 6 * d + k)
                rw [q5] at this; exact this
              rw [ep]
              refine ru_mono (r_ans h) ?_
              rintro v M1 ⟨rfl, h1⟩
              exact bb_162_84 ⟨rfl, _, h1, ds_ans hr0 hd fr_refl⟩
          · rw [if_neg q5] at e16
            have e1 : p_eIn1 P (6 * d + k) = P := by unfold p_eIn1; rw [if_neg q5]
            have ns := nI_n1 (show s_ P 105 (6 * d + k) < 2 ^ 31 by omega)
            rw [e1, if_neg q5]
            simp (disch := first | assumption | omega | decide) only [rd_r16 h, rR_16 h, rN_16 h, rA_16 h, rd_r15 h, rR_15 h, rN_15 h, rA_15 h, e16, ns, Option.some.injEq, exists_eq_left', false_implies, forall_const, true_and, and_true, not_false_eq_true]
            refine bb_162_87 ?_
            simp (disch := first | assumption | omega | decide) only [rd_r16 h, rR_16 h, rN_16 h, rW_16 h, rA_16 h, rk_39 h, e16, ns, ↓li_m1, li_0, nI_clamp, Decidable.not_not, Option.some.injEq, exists_eq_left', false_implies, forall_const, true_and, and_true, not_false_eq_true]
            have := key (s_ P 105 (6 * d + k)) M (by omega) k2 k3 (by
              have eu : sm_u2 R 16 (6 * d + k) (nI (s_ P 105 (6 * d + k))) = R := by
                funext f i
                rw [u2_r]
                split
                · next q => rw [q.1, q.2]; exact e16.symm
                · rfl
              rw [eu]; exact h)
            rw [pSe] at this
            exact this
        · rw [if_pos (by omega)]
          refine ru_mono (r_ans h) ?_
          rintro v M1 ⟨rfl, h1⟩
          exact bb_162_54 ⟨rfl, _, h1, ds_ans hr0 hd fr_refl⟩
      · rw [if_neg q3]
        exact ⟨_, h, ds_refl hr0 h91⟩
  · rw [if_pos q0]
    refine ru_mono (r_zIn h hx hr hd hD) ?_
    rintro v M1 ⟨rfl, R', h1, h2⟩
    exact bb_162_9 ⟨rfl, R', h1, h2⟩
end RP
