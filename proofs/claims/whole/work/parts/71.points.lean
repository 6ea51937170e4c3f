/-! The reference's device: ACK and OUT at the other endpoints. -/
section RQ
variable {a : Nat} {ra : Nat → Nat} {R : Nat → Nat → Int32} {M : sm_M} {D : Nat} {P : pP}
theorem r_eAck_loop {e s m : Nat} {x1 x2 : Int32} {Q : Option sm_V → sm_M → Prop} (he : e < 36) (hs : 1 ≤ s) (hsm : s ≤ m) (hm : m ≤ 256) (h15 : R 15 e = nI m) (h16 : R 16 e = nI s) (hQ : ∀ M, RM a ra (rowU R 17 (256 * e) (m - s) (fun j => R 17 (256 * e + s + j))) M → sm_Run (D + 1) 164 30 [some (.inr (some a)), some (.inl x1), some (.inl x2), some (.inl (nI e)), some (.inl (nI m))] [] M Q) : ∀ (n i : Nat) (M : sm_M), s + i + n = m → RM a ra (rowU R 17 (256 * e) i (fun j => R 17 (256 * e + s + j))) M →
    sm_Run (D + 1) 164 30 [some (.inr (some a)), some (.inl x1), some (.inl x2), some (.inl (nI e)), some (.inl (nI (s + i)))] [] M Q := by
  intro n
  induction n with
  | zero =>
    intro i M hi h
    obtain rfl : m = s + i := by omega
    refine hQ M ?_
    rw [show s + i - s = i by omega]; exact h
  | succ n ih =>
    intro i M hi h
    refine bb_164_30 ?_
    simp (disch := first | assumption | omega | decide) only [rd_r15 h, rR_15 h, rN_15 h, rW_15 h, rA_15 h, rd_r16 h, rR_16 h, rN_16 h, rW_16 h, rA_16 h, rd_r17 h, rR_17 h, rN_17 h, rW_17 h, rA_17 h, rk_39 h, h15, h16, ↓li_m1, li_1, li_256, nI_add, pk_mul, nI_leI, pk_sub, nI_clamp, Option.some.injEq, exists_eq_left', true_and, Nat.reduceEqDiff, Rp_i, rowU_r, false_and, if_false]
    refine ⟨fun q => by omega, fun _ => ?_⟩
    rw [if_neg (by omega)]
    refine ih (i + 1) _ (by omega) ?_
    have h1 := rm_wr h (f := 17) (j := 256 * e + i) (v := R 17 (256 * e + s + i))
    rw [rowU_s (v := fun j => R 17 (256 * e + s + j))] at h1
    rw [show 256 * e + (s + i) - s = 256 * e + i by omega, show 256 * e + (s + i) = 256 * e + s + i by omega]
    exact h1
theorem dr_gd {l : List Nat} {u j : Nat} : (l.drop u).getD j 0 = l.getD (u + j) 0 := by
  rw [List.getD_eq_getElem?_getD, List.getD_eq_getElem?_getD, List.getElem?_drop]
/-- WireBusModel.acked -/
theorem r_hAck {d : Nat} (h : RM a ra R M) (hx : EX P) (hr : RelD P R d) (hd : d < 6) (hD : DI P d) (h91 : s_ P 91 d = 0) (h89 : s_ P 89 d = 0) (hz2 : s_ P 90 d = 0 → s_ P 60 d = 2 → R 28 d = nI (s_ P 68 d) ∧ s_ P 69 d = 0) (hp : s_ P 90 d ≠ 0 → ∃ k, p_find P d (s_ P 90 d) = some k ∧ s_ P 105 (6 * d + k) ≠ 0) : sm_Run (D + 1) 164 0 (sm_ent 164 [.inr (some a), .inl (nI d), .inl (nI (s_ P 90 d))]) [] M (fun v M' => v = none ∧ ∃ R', RM a ra R' M' ∧ DS (p_hAck P d) d R R') := by
  have hr0 := hr
  have h86 := ex_86 hx hd
  have b90 := ex_b hx 90 d
  unfold p_hAck
  by_cases q0 : s_ P 90 d = 0
  · rw [if_pos q0, q0]
    exact r_zAck h hx hr hd hD h91 h89 (hz2 q0)
  · rw [if_neg q0]
    obtain ⟨k, hf, h105⟩ := hp q0
    rw [hf]
    obtain ⟨hk, ha⟩ := find_lt hf
    obtain ⟨⟨a4, a5, a6, a7, a8, a9, a19, a20, a18⟩, hz, he⟩ := hr
    obtain ⟨e10, e11, e12, e13, e14, e15, e16, e17⟩ := he k hk
    obtain ⟨k1, k2, k3, k4⟩ := hD.2.2.2.2.2 k hk
    have l1 := ex_1 hx hd hk
    rw [if_neg h105] at e16
    have ns := nI_n1 (show s_ P 105 (6 * d + k) < 2 ^ 31 by omega)
    refine bb_164_0 ?_
    simp (disch := first | assumption | omega | decide) only [rk_39 h, ↓li_m1, li_0, li_1, li_2, li_4, li_5, nI_leI, nI_clamp, Decidable.not_not, true_and, Rp_i]
    refine ⟨fun q => by omega, fun _ => ?_⟩
    refine ru_mono (r_pt h hx hr0 hd b90) ?_
    rintro v M1 ⟨rfl, rfl⟩
    rw [hf]
    refine bb_164_10 ?_
    dsimp only [ptI]
    simp (disch := first | assumption | omega | decide) only [rd_r16 h, rR_16 h, rN_16 h, rA_16 h, rk_39 h, e16, ns, ↓li_m1, nI_clamp, Decidable.not_not, Option.some.injEq, exists_eq_left', false_implies, forall_const, true_and, and_true, not_false_eq_true]
    refine r_eAck_loop (R := R) (e := 6 * d + k) (s := s_ P 105 (6 * d + k)) (m := (b_ P 1 (1 + (6 * d + k))).length) (by omega) (by omega) k2 l1 e15 e16 ?_ ((b_ P 1 (1 + (6 * d + k))).length - s_ P 105 (6 * d + k)) 0 M (by omega) (by rw [rowU_0]; exact h)
    intro M1 h1
    refine bb_164_30 ?_
    simp (disch := first | assumption | omega | decide) only [rd_r15 h1, rR_15 h1, rN_15 h1, rW_15 h1, rA_15 h1, rd_r16 h1, rR_16 h1, rN_16 h1, rW_16 h1, rA_16 h1, rd_r13 h1, rR_13 h1, rN_13 h1, rW_13 h1, rA_13 h1, rk_39 h1, e15, e16, e13, Nat.le_refl, ↓li_m1, li_1, li_256, nI_add, pk_mul, nI_leI, pk_sub, nI_clamp, Option.some.injEq, exists_eq_left', false_implies, forall_const, true_and, and_true, not_true_eq_false, Nat.reduceEqDiff, Ip_r h1, Rp_i, rowU_r, false_and, if_false]
    refine bb_164_116 ⟨rfl, _, rm_wr (rm_wr (rm_wr h1)), ?_⟩
    unfold p_eAck
    refine ds_q ⟨?_, ?_, fun k' hk' => ?_⟩ ?_ ?_ ?_
    · unfold RelA; simp only [u2_r, rowU_r, s_S, s_B, b_S, b_B, Nat.reduceEqDiff, false_and, if_false]; ((repeat' (with_reducible refine And.intro ?_ ?_)) <;> (first | assumption | rfl | trivial | omega))
    · obtain ⟨z60, z21, z23, z24, z26, z22, z22b, z2, z4, z5⟩ := hz
      unfold RelZ; unfold RelZ2 at *; simp only [u2_r, rowU_r, s_S, s_B, b_S, b_B, nfl_S, nfl_B, Nat.reduceEqDiff, false_and, if_false, not_false_eq_true, ne_eq]; ((repeat' (with_reducible refine And.intro ?_ ?_)) <;> (first | assumption | rfl | trivial | omega))
    · have hk2 := he k' (by revert hk'; simp only [s_S, s_B, Nat.reduceEqDiff, false_and, if_false]; exact id)
      by_cases qk : k' = k
      · subst qk
        unfold RelE; simp only [u2_r, rowU_r, s_S, s_B, b_S, b_B, List.length_drop, Nat.reduceEqDiff, false_and, true_and, and_true, and_self, if_true, if_false]
        refine ⟨e10, e11, e12, e14, fun j hj => ?_⟩
        rw [if_pos (by omega), dr_gd, show 256 * (6 * d + k') + s_ P 105 (6 * d + k') + (256 * (6 * d + k') + j - 256 * (6 * d + k')) = 256 * (6 * d + k') + (s_ P 105 (6 * d + k') + j) by omega]
        exact e17 _ (by omega)
      · have l1' := ex_1 hx hd (show k' < s_ P 86 d by revert hk'; simp only [s_S, s_B, Nat.reduceEqDiff, false_and, if_false]; exact id)
        unfold RelE at *; simp only [u2_r, rowU_r, s_S, s_B, b_S, b_B, show ¬ (6 * d + k' = 6 * d + k) by omega, show ¬ (1 + (6 * d + k') = 1 + (6 * d + k)) by omega, Nat.reduceEqDiff, false_and, and_false, true_and, and_self, if_false]
        obtain ⟨f10, f11, f12, f13, f14, f15, f16, f17⟩ := hk2
        refine ⟨f10, f11, f12, f13, f14, f15, f16, fun j hj => ?_⟩
        rw [if_neg (by omega)]
        exact f17 j hj
    · (repeat' (first | exact fr_refl | assumption | refine fr_u ?_ (by unfold ownR; omega) | refine fr_row ?_ (by unfold ownR; omega)))
    · simp only [s_S, s_B, h91, Nat.reduceEqDiff, false_and, if_false, ite_self]
    · unfold SmA; simp only [u2_r, rowU_r, Nat.reduceEqDiff, false_and, and_self, if_false, implies_true]
/-- bytes come in -/
theorem r_eOut_loop {d e n t j : Nat} {x2 x3 : Int32} {Q : Option sm_V → sm_M → Prop} (he : e < 36) (h15 : R 15 e = nI t) (h50 : R 50 0 = nI j) (hj : j < 60) (hn : n ≤ 64) (hw : t + n ≤ 256) (hQ : ∀ M, RM a ra (rowU R 17 (256 * e + t) n (fun i => R 42 (100 * j + i))) M → sm_Run (D + 1) 165 133 [some (.inr (some a)), some (.inl (nI d)), some (.inl x2), some (.inl x3), some (.inl (nI n)), some (.inl (nI e)), some (.inl (nI n))] [] M Q) : ∀ (m i : Nat) (M : sm_M), i + m = n → RM a ra (rowU R 17 (256 * e + t) i (fun i => R 42 (100 * j + i))) M →
    sm_Run (D + 1) 165 133 [some (.inr (some a)), some (.inl (nI d)), some (.inl x2), some (.inl x3), some (.inl (nI n)), some (.inl (nI e)), some (.inl (nI i))] [] M Q := by
  intro m
  induction m with
  | zero =>
    intro i M hi h
    obtain rfl : i = n := by omega
    exact hQ M h
  | succ m ih =>
    intro i M hi h
    refine bb_165_133 ?_
    simp (disch := first | assumption | omega | decide) only [rd_r15 h, rR_15 h, rN_15 h, rW_15 h, rA_15 h, rS_50 h, rd_r42 h, rR_42 h, rN_42 h, rA_42 h, rd_r17 h, rN_17 h, rW_17 h, rk_39 h, h15, h50, li_0, li_1, li_2, li_100, li_256, nI_add, pk_mul, nI_leI, nI_clamp, Option.some.injEq, exists_eq_left', true_and, Nat.reduceEqDiff, Rp_i, rowU_r, false_and, if_false]
    refine ⟨fun q => by omega, fun _ => ?_⟩
    refine ih (i + 1) _ (by omega) ?_
    have h1 := rm_wr h (f := 17) (j := 256 * e + t + i) (v := R 42 (100 * j + i))
    rw [rowU_s (v := fun i => R 42 (100 * j + i))] at h1
    exact h1
/-- WireBusModel.given -/
theorem r_hOut {d j : Nat} (h : RM a ra R M) (hx : EX P) (hr : RelD P R d) (hd : d < 6) (hD : DI P d) (h91 : s_ P 91 d = 0) (h50 : R 50 0 = nI j) (hj : j < 60) (hk : RelK P R j) (hdat : isDat (s_ P 141 j)) : sm_Run (D + 3) 165 0 (sm_ent 165 [.inr (some a), .inl (nI d), .inl (nI (s_ P 90 d)), .inl (nI (tgo (s_ P 141 j)))]) [] M (fun v M' => v = none ∧ ∃ R', RM a ra R' M' ∧ DS (p_hOut P d j) d R R') := by
  have hr0 := hr
  have hk0 := hk
  have h86 := ex_86 hx hd
  have b90 := ex_b hx 90 d
  have b83 := ex_b hx 83 d
  have l7 := ex_7 hx (show j < 66 by omega)
  have tg1 := tgo_le (s_ P 141 j)
  obtain ⟨k37, k38, kt, k5, k41, k42, k43, k44⟩ := hk
  unfold p_hOut
  refine bb_165_0 ?_
  simp (disch := first | assumption | omega | decide) only [rd_r41 h, rR_41 h, rN_41 h, rA_41 h, rS_50 h, rk_39 h, h50, k41, li_0, nI_eq, nI_clamp, Decidable.not_not, Option.some.injEq, exists_eq_left', true_and]
  refine ⟨fun q0 => ?_, fun q0 => ?_⟩
  · rw [if_neg q0]
    refine ru_mono (r_pt h hx hr hd b90) ?_
    rintro v M1 ⟨rfl, rfl⟩
    cases hf : p_find P d (s_ P 90 d) with
    | none => exact bb_165_30 ⟨fun _ => ⟨rfl, _, h, ds_refl hr0 h91⟩, fun q => absurd rfl q⟩
    | some k =>
      obtain ⟨hk, ha⟩ := find_lt hf
      obtain ⟨⟨a4, a5, a6, a7, a8, a9, a19, a20, a18⟩, hz, he⟩ := hr
      obtain ⟨e10, e11, e12, e13, e14, e15, e16, e17⟩ := he k hk
      obtain ⟨k1, k2, k3, k4⟩ := hD.2.2.2.2.2 k hk
      have l1 := ex_1 hx hd hk
      have b104 := ex_b hx 104 (6 * d + k)
      have n1 := nI_n1 (show 6 * d + k < 2 ^ 31 by omega)
      refine bb_165_30 ⟨fun q => absurd q n1, fun _ => ?_⟩
      show sm_K M a = 39 ∧ _
      dsimp only [ptI]
      simp (disch := first | assumption | omega | decide) only [rd_r4 h, rR_4 h, rN_4 h, rA_4 h, rd_r14 h, rR_14 h, rN_14 h, rW_14 h, rd_r13 h, rR_13 h, rN_13 h, rA_13 h, rd_r11 h, rR_11 h, rN_11 h, rA_11 h, rd_r15 h, rR_15 h, rN_15 h, rA_15 h, rk_39 h, a4, e14, e13, e11, e15, li_0, li_2, li_3, li_10, li_14, li_256, nI_add, nI_eq, nI_leI, nI_ltI, nI_clamp, Option.some.injEq, exists_eq_left', true_and]
      unfold p_eOut
      refine ⟨fun q3 => ?_, fun q3 => ?_⟩
      · rw [if_pos q3]
        refine ⟨fun q4 => ?_, fun q4 => ?_⟩
        · rw [if_neg (by omega)]
          refine ⟨fun q5 => ?_, fun q5 => ?_⟩
          · rw [if_neg (by omega)]
            refine ⟨fun q6 => ?_, fun q6 => ⟨fun q7 => ?_, fun q7 => ?_⟩⟩
            · rw [if_pos (by omega)]
              refine ru_mono (r_ans h) ?_
              rintro v M1 ⟨rfl, h1⟩
              exact bb_165_127 ⟨rfl, _, h1, ds_ans hr0 hd fr_refl⟩
            · rw [if_neg (by omega)]
              refine r_eOut_loop (D := D + 2) (R := R) (d := d) (e := 6 * d + k) (t := (b_ P 1 (1 + (6 * d + k))).length) (j := j) (by omega) e15 h50 hj l7 (by omega) ?_ (b_ P 7 j).length 0 M (by omega) (by rw [rowU_0]; exact h)
              intro M1 h1
              refine bb_165_133 ?_
              simp (disch := first | assumption | omega | decide) only [rd_r15 h1, rR_15 h1, rN_15 h1, rW_15 h1, rA_15 h1, rd_r13 h1, rR_13 h1, rN_13 h1, rW_13 h1, rA_13 h1, rk_39 h1, e15, e13, Nat.le_refl, li_0, li_1, li_2, li_100, li_256, nI_add, pk_mul, nI_leI, pk_sub, nI_clamp, Option.some.injEq, exists_eq_left', false_implies, forall_const, true_and, and_true, not_true_eq_false, Nat.reduceEqDiff, Ip_r h1, Rp_i, rowU_r, false_and, if_false]
              refine ru_mono (r_ans (rm_wr (rm_wr h1))) ?_
              rintro v M2 ⟨rfl, h2⟩
              refine bb_165_218 ⟨rfl, _, h2, ?_⟩
              refine ds_ans ⟨?_, ?_, fun k' hk' => ?_⟩ hd ?_
              · unfold RelA; simp only [u2_r, rowU_r, s_S, s_B, b_S, b_B, Nat.reduceEqDiff, false_and, if_false]; ((repeat' (with_reducible refine And.intro ?_ ?_)) <;> (first | assumption | rfl | trivial | omega))
              · obtain ⟨z60, z21, z23, z24, z26, z22, z22b, z2, z4, z5⟩ := hz
                unfold RelZ; unfold RelZ2 at *; simp only [u2_r, rowU_r, s_S, s_B, b_S, b_B, nfl_S, nfl_B, Nat.reduceEqDiff, false_and, if_false, not_false_eq_true, ne_eq]; ((repeat' (with_reducible refine And.intro ?_ ?_)) <;> (first | assumption | rfl | trivial | omega))
              · have hk2 := he k' (by revert hk'; simp only [s_S, s_B, Nat.reduceEqDiff, false_and, if_false]; exact id)
                by_cases qk : k' = k
                · subst qk
                  unfold RelE; simp only [u2_r, rowU_r, s_S, s_B, b_S, b_B, List.length_append, Nat.reduceEqDiff, false_and, true_and, and_true, and_self, if_true, if_false]
                  refine ⟨e10, e11, e12, e14, e16, fun i hi => ?_⟩
                  rw [app_gd]
                  by_cases q8 : i < (b_ P 1 (1 + (6 * d + k'))).length
                  · rw [if_neg (by omega), if_pos q8]; exact e17 i q8
                  · rw [if_pos (by omega), if_neg q8, k42 _ (by omega), show 256 * (6 * d + k') + i - (256 * (6 * d + k') + (b_ P 1 (1 + (6 * d + k'))).length) = i - (b_ P 1 (1 + (6 * d + k'))).length by omega]
                · have l1' := ex_1 hx hd (show k' < s_ P 86 d by revert hk'; simp only [s_S, s_B, Nat.reduceEqDiff, false_and, if_false]; exact id)
                  unfold RelE at *; simp only [u2_r, rowU_r, s_S, s_B, b_S, b_B, show ¬ (6 * d + k' = 6 * d + k) by omega, show ¬ (1 + (6 * d + k') = 1 + (6 * d + k)) by omega, Nat.reduceEqDiff, false_and, and_false, true_and, and_self, if_false]
                  obtain ⟨f10, f11, f12, f13, f14, f15, f16, f17⟩ := hk2
                  refine ⟨f10, f11, f12, f13, f14, f15, f16, fun j hj => ?_⟩
                  rw [if_neg (by omega)]
                  exact f17 j hj
              · (repeat' (first | exact fr_refl | assumption | refine fr_u ?_ (by unfold ownR; omega) | refine fr_row ?_ (by unfold ownR; omega)))
            · rw [if_pos (by omega)]
              refine ru_mono (r_ans h) ?_
              rintro v M1 ⟨rfl, h1⟩
              exact bb_165_127 ⟨rfl, _, h1, ds_ans hr0 hd fr_refl⟩
          · rw [if_pos q5]
            refine ru_mono (r_ans h) ?_
            rintro v M1 ⟨rfl, h1⟩
            exact bb_165_88 ⟨rfl, _, h1, ds_ans hr0 hd fr_refl⟩
        · rw [if_pos (by omega)]
          refine ru_mono (r_ans h) ?_
          rintro v M1 ⟨rfl, h1⟩
          exact bb_165_67 ⟨rfl, _, h1, ds_ans hr0 hd fr_refl⟩
      · rw [if_neg q3]
        exact ⟨_, h, ds_refl hr0 h91⟩
  · rw [if_pos q0]
    refine ru_mono (r_zOut (D := D) h hx hr hd hD h50 hj hk0 hdat) ?_
    rintro v M1 ⟨rfl, R', h1, h2⟩
    exact bb_165_23 ⟨rfl, R', h1, h2⟩
end RQ
