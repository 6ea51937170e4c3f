/-! The reference's devices hear a packet. -/
section RH
variable {a : Nat} {ra : Nat → Nat} {R : Nat → Nat → Int32} {M : sm_M} {D : Nat} {P : pP}
theorem ex_h0 {d : Nat} (hx : EX P) (hd : d < 6) : EX (p_h0 P d) := by
  obtain ⟨g, M, h⟩ := hx
  obtain ⟨l4, -⟩ := lq_s h hd
  exact ⟨g, _, rc_w' (c := 4) (k := 11) (rc_w' (c := 4) (k := 9) h l4 (show 0 < 2 ^ 31 by decide)) l4 (show 0 < 2 ^ 31 by decide)⟩
theorem ex_hear {d : Nat} {o : Option Nat} (hx : EX P) (hd : d < 6) (hD : DI P d) (ho : ∀ j, o = some j → j < 66 ∧ j ≠ 60 + d ∧ s_ P 141 j < 16 ∧ ∀ x ∈ b_ P 7 j, x < 256) : EX (p_hear P d o) := by
  obtain ⟨g, M, h⟩ := hx
  obtain ⟨v, M', -, h'⟩ := ru_ex (c_hear (D := 0) h hd hD ho)
  exact ⟨g, M', h'⟩
/-- what a device must keep -/
def HD (P : pP) (d : Nat) : Prop := DI P d ∧ (∀ k, k < s_ P 86 d → 1 ≤ s_ P 101 (6 * d + k)) ∧ s_ P 89 d ≠ 1 ∧ (s_ P 60 d = 2 → s_ P 63 d ≤ (b_ P 29 d).length + 1) ∧ (s_ P 89 d = 3 → s_ P 90 d ≠ 0 → ∃ k, p_find P d (s_ P 90 d) = some k ∧ s_ P 105 (6 * d + k) ≠ 0)
theorem relD_h0 {d : Nat} (hr : RelD P R d) : RelD (p_h0 P d) (sm_u2 R 19 d (nI 0)) d := by
  obtain ⟨⟨a4, a5, a6, a7, a8, a9, a19, a20, a18⟩, hz, he⟩ := hr
  refine ⟨?_, ?_, fun k hk => ?_⟩
  · unfold RelA p_h0; simp only [u2_r, s_S, b_S, Nat.reduceEqDiff, false_and, and_true, and_self, if_true, if_false, ite_self]; ((repeat' (with_reducible refine And.intro ?_ ?_)) <;> (first | assumption | rfl | trivial | omega))
  · obtain ⟨z60, z21, z23, z24, z26, z22, z22b, z2, z4, z5⟩ := hz
    unfold RelZ p_h0; unfold RelZ2 at *; simp only [u2_r, s_S, b_S, nfl_S, Nat.reduceEqDiff, false_and, and_true, and_self, if_true, if_false, ite_self, false_implies, not_false_eq_true, ne_eq]
    refine ⟨z60, z21, z23, z24, z26, z22, z22b, fun q => ?_, z4, z5⟩
    obtain ⟨y1, y2, y3, y4, y5, y6⟩ := z2 q
    exact ⟨y1, y2, y3, y4, y5⟩
  · have := he k (by revert hk; unfold p_h0; simp only [s_S, Nat.reduceEqDiff, and_true, if_false]; exact id)
    unfold RelE p_h0 at *; simp only [u2_r, s_S, b_S, Nat.reduceEqDiff, false_and, if_false]; exact this
theorem ds_h0 {d : Nat} {P' : pP} {R' : Nat → Nat → Int32} (h : DS P' d (sm_u2 R 19 d (nI 0)) R') : DS P' d R R' := by
  obtain ⟨h1, h2, h3, h4⟩ := h
  refine ⟨h1, frR_t (by (repeat' (first | exact fr_refl | assumption | refine fr_u ?_ (by unfold ownR; omega) | refine fr_row ?_ (by unfold ownR; omega)))) h2, fun q => ?_, h4⟩
  have := h3 q
  unfold SmA at *; revert this; simp only [u2_r, Nat.reduceEqDiff, false_and, if_false]; exact id
theorem relK_h0 {d j : Nat} {v : Int32} (h : RelK P R j) : RelK (p_h0 P d) (sm_u2 R 19 d v) j := by
  unfold RelK p_h0 at *; simp only [u2_r, s_S, b_S, Nat.reduceEqDiff, false_and, if_false]; exact h
theorem nI_wt {n : Nat} (h1 : n ≠ 1) : wt n = 1 ↔ n = 14 := by unfold wt; split <;> omega
theorem nI_wt2 {n k : Nat} (h1 : k = 2 ∨ k = 3) : wt n = k ↔ n = k := by unfold wt; split <;> omega
/-- one device hears a sound packet -/
theorem r_hear {d j : Nat} {x1 : Int32} {z4 z5 z6 : Option sm_V} {Q : Option sm_V → sm_M → Prop} (h : RM a ra R M) (hx : EX P) (hr : RelD P R d) (hd : d < 6) (hH : HD P d) (h83 : s_ P 83 d ≠ 0) (hs : nI d ≠ x1) (h50 : R 50 0 = nI j) (hj : j < 60) (hk : RelK P R j) (hp : PKo P j) (h55 : ∀ i, i < 18 → R 55 i = nI (hd0.getD i 0)) (hQ : ∀ R' M' z4 z5 z6, RM a ra R' M' → DS (p_hear P d (some j)) d R R' → sm_Run (D + 4) 161 17 [some (.inr (some a)), some (.inl x1), some (.inl (nI (s_ P 141 j))), some (.inl (nI (d + 1))), z4, z5, z6] [] M' Q) : sm_Run (D + 4) 161 17 [some (.inr (some a)), some (.inl x1), some (.inl (nI (s_ P 141 j))), some (.inl (nI d)), z4, z5, z6] [] M Q := by
  obtain ⟨hD, h101, h89, -, hA3⟩ := hH
  obtain ⟨p1, p2, p3⟩ := hp
  have hr0 := hr
  have x0 := ex_h0 hx hd
  have b83 := ex_b hx 83 d
  have b84 := ex_b hx 84 d
  have b90 := ex_b hx 90 d
  have b89 := ex_b hx 89 d
  have bw : wt (s_ P 89 d) < 2 ^ 31 := by unfold wt; split <;> omega
  have l7 := ex_7 hx (show j < 66 by omega)
  have hr1 := relD_h0 hr
  have hk1 := relK_h0 (d := d) (v := nI 0) hk
  have D0 := DI_h0 hD
  have h1 := rm_wr h (f := 19) (j := d) (v := nI 0)
  have q50 : sm_u2 R 19 d (nI 0) 50 0 = nI j := by simp only [u2_r, Nat.reduceEqDiff, false_and, if_false]; exact h50
  have q55 : ∀ i, i < 18 → sm_u2 R 19 d (nI 0) 55 i = nI (hd0.getD i 0) := fun i hi => by simp only [u2_r, Nat.reduceEqDiff, false_and, if_false]; exact h55 i hi
  have o91 : s_ (p_h0 P d) 91 d = 0 := by unfold p_h0; simp only [s_S, Nat.reduceEqDiff, and_true, and_self, if_true, if_false]
  have o89 : s_ (p_h0 P d) 89 d = 0 := by unfold p_h0; simp only [s_S, Nat.reduceEqDiff, and_true, and_self, if_true, ite_self]
  have o90 : s_ (p_h0 P d) 90 d = s_ P 90 d := by unfold p_h0; simp only [s_S, Nat.reduceEqDiff, and_true, if_false]
  have o141 : s_ (p_h0 P d) 141 j = s_ P 141 j := by unfold p_h0; simp only [s_S, Nat.reduceEqDiff, false_and, if_false]
  have o7 : b_ (p_h0 P d) 7 j = b_ P 7 j := rfl
  obtain ⟨k37, k38, kt, k5, k41, k42, k43, k44⟩ := hk
  obtain ⟨⟨a4, a5, a6, a7, a8, a9, a19, a20, a18⟩, hz, he⟩ := hr
  generalize hR1 : sm_u2 R 19 d (nI 0) = R1 at *
  have r5 : R1 5 d = nI (s_ P 84 d) := by rw [← hR1]; simp only [u2_r, Nat.reduceEqDiff, and_true, if_false]; exact a5
  have r39 : R1 39 j = R 39 j := by rw [← hR1]; simp only [u2_r, Nat.reduceEqDiff, false_and, if_false]
  have r40 : R1 40 j = R 40 j := by rw [← hR1]; simp only [u2_r, Nat.reduceEqDiff, false_and, if_false]
  have r41 : R1 41 j = nI (b_ P 7 j).length := by rw [← hR1]; simp only [u2_r, Nat.reduceEqDiff, false_and, if_false]; exact k41
  have hQ' : ∀ R' M' z4 z5 z6, RM a ra R' M' → DS (p_hear P d (some j)) d R1 R' → sm_Run (D + 4) 161 17 [some (.inr (some a)), some (.inl x1), some (.inl (nI (s_ P 141 j))), some (.inl (nI (d + 1))), z4, z5, z6] [] M' Q := fun R' M' z4 z5 z6 q1 q2 => hQ R' M' z4 z5 z6 q1 (ds_h0 (by rw [hR1]; exact q2))
  have eh : p_hear P d (some j) = if isTok (s_ P 141 j) ∧ s_ P 142 j % 128 = s_ P 84 d then
      (if s_ P 141 j = 9 then p_hIn (p_h0 P d) d (s_ P 142 j / 128 % 16) else pS (pS (p_h0 P d) 89 d (s_ P 141 j + 1)) 90 d (s_ P 142 j / 128 % 16))
    else if s_ P 89 d = 14 ∧ s_ P 90 d = 0 ∧ s_ P 141 j = 3 ∧ (b_ P 7 j).length = 8 then p_ans (p_zBeg (p_h0 P d) d (b_ P 7 j)) d 2
    else if s_ P 89 d = 2 ∧ isDat (s_ P 141 j) then p_hOut (p_h0 P d) d j
    else if s_ P 89 d = 3 ∧ s_ P 141 j = 2 then p_hAck (p_h0 P d) d
    else p_h0 P d := rfl
  generalize hM1 : sm_putI M (ra 19) d (nI 0) = M1 at *
  have quiet : ∀ z4 z5 z6, p_hear P d (some j) = p_h0 P d → sm_Run (D + 4) 161 17 [some (.inr (some a)), some (.inl x1), some (.inl (nI (s_ P 141 j))), some (.inl (nI (d + 1))), z4, z5, z6] [] M1 Q := by
    intro z4 z5 z6 e
    refine hQ' R1 M1 z4 z5 z6 h1 ?_
    rw [e]
    exact ds_refl hr1 o91
  have n1 : nI d + 1 = nI (d + 1) := nI_1 d
  have e259 : ∀ x6, ¬ (isTok (s_ P 141 j) ∧ s_ P 142 j % 128 = s_ P 84 d) → ¬ isDat (s_ P 141 j) → sm_Run (D + 4) 161 259 [some (.inr (some a)), some (.inl x1), some (.inl (nI (s_ P 141 j))), some (.inl (nI d)), some (.inl (nI (wt (s_ P 89 d)))), some (.inl (nI (s_ P 90 d))), some (.inl x6)] [] M1 Q := by
    intro x6 t1 t2
    refine bb_161_259 ?_
    simp (disch := first | assumption | omega | decide) only [rk_39 h1, li_1, li_2, li_3, nI_add, nI_eq, Decidable.not_not, true_and]
    have t3 : s_ P 141 j ≠ 3 := fun q => t2 (Or.inl q)
    refine ⟨fun q => quiet _ _ _ ?_, fun q => ⟨fun q2 => quiet _ _ _ ?_, fun q2 => ?_⟩⟩
    · rw [eh, if_neg t1, if_neg (fun q => t3 q.2.2.1), if_neg (fun q => t2 q.2), if_neg (fun q' => q q'.2)]
    · rw [nI_wt2 (Or.inr rfl)] at q2
      rw [eh, if_neg t1, if_neg (fun q => t3 q.2.2.1), if_neg (fun q => t2 q.2), if_neg (fun q' => q2 q'.1)]
    · rw [nI_wt2 (Or.inr rfl)] at q2
      have e : p_hear P d (some j) = p_hAck (p_h0 P d) d := by
        rw [eh, if_neg t1, if_neg (fun q => t3 q.2.2.1), if_neg (fun q => t2 q.2), if_pos ⟨q2, q⟩]
      rw [← o90]
      refine ru_mono (r_hAck (D := D + 2) h1 x0 hr1 hd D0 o91 o89 ?_ ?_) ?_
      · intro y1 y2
        have y2' : s_ P 60 d = 2 := by rw [← y2]; unfold p_h0; simp only [s_S, Nat.reduceEqDiff, and_true, if_false]
        obtain ⟨z60, z21, z23, z24, z26, z22, z22b, z2, -⟩ := hz
        obtain ⟨w1, w2, w3, w4, w5, w6⟩ := z2 y2'
        have w7 := w6 q2 (by rw [← o90]; exact y1)
        have e68 : s_ (p_h0 P d) 68 d = s_ P 68 d := by unfold p_h0; simp only [s_S, Nat.reduceEqDiff, and_true, if_false]
        have e69 : s_ (p_h0 P d) 69 d = s_ P 69 d := by unfold p_h0; simp only [s_S, Nat.reduceEqDiff, and_true, if_false]
        rw [e68, e69]
        refine ⟨by rw [← hR1]; simp only [u2_r, Nat.reduceEqDiff, and_true, if_false]; exact w7, ?_⟩
        refine Decidable.byContradiction (fun w8 => ?_)
        have := (w4.mp w8).1
        rw [w7] at this
        exact nI_n1 (by have := hD.2.2.2.2.1; omega) this
      · intro y1
        obtain ⟨k, f1, f2⟩ := hA3 q2 (by rw [← o90]; exact y1)
        refine ⟨k, ?_, ?_⟩
        · rw [o90]; exact f1
        · unfold p_h0; simp only [s_S, Nat.reduceEqDiff, false_and, if_false]; exact f2
      · rintro v M2 ⟨rfl, R', h2, ds⟩
        refine bb_161_277 ?_
        rw [n1]
        exact hQ' R' M2 _ _ _ h2 (by rw [e]; exact ds)
  have e165 : ∀ x6, ¬ (isTok (s_ P 141 j) ∧ s_ P 142 j % 128 = s_ P 84 d) → sm_Run (D + 4) 161 165 [some (.inr (some a)), some (.inl x1), some (.inl (nI (s_ P 141 j))), some (.inl (nI d)), some (.inl (nI (wt (s_ P 89 d)))), some (.inl (nI (s_ P 90 d))), some (.inl x6)] [] M1 Q := by
    intro x6 t1
    by_cases t2 : isDat (s_ P 141 j)
    · have e232 : s_ P 89 d ≠ 14 → sm_Run (D + 4) 161 232 [some (.inr (some a)), some (.inl x1), some (.inl (nI (s_ P 141 j))), some (.inl (nI d)), some (.inl (nI (wt (s_ P 89 d)))), some (.inl (nI (s_ P 90 d))), some (.inl x6)] [] M1 Q := by
        intro t4
        refine bb_161_232 ?_
        simp (disch := first | assumption | omega | decide) only [rk_39 h1, li_0, li_1, li_2, li_11, nI_eq, Decidable.not_not, true_and]
        have key : ∀ M1' x3, x3 = tgo (s_ P 141 j) → M1' = M1 → s_ P 89 d = 2 → sm_Run (D + 3) 165 0 (sm_ent 165 [.inr (some a), .inl (nI d), .inl (nI (s_ P 90 d)), .inl (nI x3)]) [] M1' (fun v M1 => sm_Run (D + 4) 161 256 [some (.inr (some a)), some (.inl x1), some (.inl (nI (s_ P 141 j))), some (.inl (nI d)), some (.inl (nI (wt (s_ P 89 d)))), some (.inl (nI (s_ P 90 d))), some (.inl x6)] (v.toList ++ []) M1 Q) := by
          rintro M1' x3 rfl rfl q2
          have e : p_hear P d (some j) = p_hOut (p_h0 P d) d j := by
            rw [eh, if_neg t1, if_neg (fun q => t4 q.1), if_pos ⟨q2, t2⟩]
          have := r_hOut (D := D) h1 x0 hr1 hd D0 o91 q50 hj hk1 (by rw [o141]; exact t2)
          rw [o90, o141] at this
          refine ru_mono this ?_
          rintro v M2 ⟨rfl, R', h2, ds⟩
          refine bb_161_256 ?_
          rw [n1]
          exact hQ' R' M2 _ _ _ h2 (by rw [e]; exact ds)
        refine ⟨fun q => ?_, fun q => ?_⟩
        · rw [nI_wt2 (Or.inl rfl)] at q
          refine bb_161_259 ?_
          simp (disch := first | assumption | omega | decide) only [rk_39 h1, li_1, li_2, li_3, nI_add, nI_eq, Decidable.not_not, true_and]
          refine ⟨fun _ => quiet _ _ _ ?_, fun q' => by unfold isDat at t2; omega⟩
          rw [eh, if_neg t1, if_neg (fun q => t4 q.1), if_neg (fun q' => q q'.1), if_neg (fun q' => by have := q'.2; unfold isDat at t2; omega)]
        · rw [nI_wt2 (Or.inl rfl)] at q
          exact ⟨fun q' => key _ 0 (by unfold tgo; unfold isDat at t2; rw [if_pos (by omega)]) rfl q, fun q' => key _ 1 (by unfold tgo; rw [if_neg (by omega)]) rfl q⟩
      have e221 : s_ P 89 d ≠ 14 → sm_Run (D + 4) 161 221 [some (.inr (some a)), some (.inl x1), some (.inl (nI (s_ P 141 j))), some (.inl (nI d)), some (.inl (nI (wt (s_ P 89 d)))), some (.inl (nI (s_ P 90 d))), some (.inl x6)] [] M1 Q := by
        intro t4
        refine bb_161_221 ?_
        simp (disch := first | assumption | omega | decide) only [li_3, li_11, nI_eq, Decidable.not_not]
        exact ⟨fun _ => e232 t4, fun q => ⟨fun q' => by unfold isDat at t2; omega, fun _ => e232 t4⟩⟩
      have e176 : sm_Run (D + 4) 161 176 [some (.inr (some a)), some (.inl x1), some (.inl (nI (s_ P 141 j))), some (.inl (nI d)), some (.inl (nI (wt (s_ P 89 d)))), some (.inl (nI (s_ P 90 d))), some (.inl x6)] [] M1 Q := by
        refine bb_161_176 ?_
        simp (disch := first | assumption | omega | decide) only [rd_r41 h1, rR_41 h1, rN_41 h1, rA_41 h1, rS_50 h1, rk_39 h1, q50, r41, li_0, li_1, li_3, li_8, nI_add, nI_eq, nI_clamp, Decidable.not_not, Option.some.injEq, exists_eq_left', true_and]
        rw [nI_wt h89]
        have qe : s_ P 89 d = 14 → ¬ (s_ P 90 d = 0 ∧ s_ P 141 j = 3 ∧ (b_ P 7 j).length = 8) → p_hear P d (some j) = p_h0 P d := by
          intro q1 q2
          rw [eh, if_neg t1, if_neg (fun q => q2 q.2), if_neg (fun q => by omega), if_neg (fun q => by omega)]
        refine ⟨e221, fun q14 => ⟨fun q => quiet _ _ _ (qe q14 (by omega)), fun q3 => ⟨fun q => quiet _ _ _ (qe q14 (by omega)), fun q8 => ⟨fun q => quiet _ _ _ (qe q14 (by omega)), fun q0 => ?_⟩⟩⟩⟩
        have e : p_hear P d (some j) = p_ans (p_zBeg (p_h0 P d) d (b_ P 7 j)) d 2 := by
          rw [eh, if_neg t1, if_pos ⟨q14, q0, q3, q8⟩]
        refine ru_mono (r_request (D := D) h1 x0 hr1 hd (by rw [o89]; decide) q50 hj hk1 q8 p3 q55) ?_
        rintro v M2 ⟨rfl, R2, h2, rd2, f2⟩
        refine bb_161_211 ⟨h2.1, ?_⟩
        refine ru_mono (r_ans h2) ?_
        rintro v M3 ⟨rfl, h3⟩
        refine bb_161_218 ?_
        rw [n1]
        refine hQ' _ M3 _ _ _ h3 ?_
        rw [e]
        exact ds_ans rd2 hd f2
      refine bb_161_165 ?_
      simp (disch := first | assumption | omega | decide) only [li_3, li_11, nI_eq, Decidable.not_not]
      exact ⟨fun _ => e176, fun q => ⟨fun q' => by unfold isDat at t2; omega, fun _ => e176⟩⟩
    · refine bb_161_165 ?_
      simp (disch := first | assumption | omega | decide) only [li_3, li_11, nI_eq, Decidable.not_not]
      refine ⟨fun q => absurd (Or.inl q) t2, fun q => ⟨fun q' => ?_, fun q' => absurd (Or.inr q') t2⟩⟩
      refine bb_161_221 ?_
      simp (disch := first | assumption | omega | decide) only [li_3, li_11, nI_eq, Decidable.not_not]
      exact ⟨fun q => absurd (Or.inl q) t2, fun q => ⟨fun q' => e259 _ t1 t2, fun q' => absurd (Or.inr q') t2⟩⟩
  have e77 : ∀ z6, isTok (s_ P 141 j) → sm_Run (D + 4) 161 77 [some (.inr (some a)), some (.inl x1), some (.inl (nI (s_ P 141 j))), some (.inl (nI d)), some (.inl (nI (wt (s_ P 89 d)))), some (.inl (nI (s_ P 90 d))), z6] [] M1 Q := by
    intro z6 tk
    obtain ⟨k39, k40⟩ := kt tk
    rw [← r39] at k39
    rw [← r40] at k40
    refine bb_161_77 ?_
    simp (disch := first | assumption | omega | decide) only [rd_r39 h1, rR_39 h1, rN_39 h1, rA_39 h1, rd_r40 h1, rR_40 h1, rN_40 h1, rA_40 h1, rd_r5 h1, rR_5 h1, rN_5 h1, rA_5 h1, rS_50 h1, rd_r19 h1, rN_19 h1, rW_19 h1, rd_r20 h1, rN_20 h1, rW_20 h1, rk_39 h1, q50, k39, k40, r5, li_1, li_2, li_9, li_13, nI_add, nI_eq, nI_clamp, Decidable.not_not, Option.some.injEq, exists_eq_left', true_and, Ip_r h1, I_put_k, Rp_i]
    refine ⟨fun q => e165 _ (fun q' => q q'.2), fun q => ⟨fun q9 => ?_, fun q9 => ?_⟩⟩
    · have hs : ∀ (M2 : sm_M) w, w = s_ P 141 j + 1 → RM a ra (sm_u2 (sm_u2 R1 19 d (nI (wt w))) 20 d (nI (s_ P 142 j / 128))) M2 → sm_Run (D + 4) 161 17 [some (.inr (some a)), some (.inl x1), some (.inl (nI (s_ P 141 j))), some (.inl (nI (d + 1))), some (.inl (nI (wt (s_ P 89 d)))), some (.inl (nI (s_ P 90 d))), some (.inl (nI 1))] [] M2 Q := by
        rintro M2 w rfl h2
        refine hQ' _ M2 _ _ _ h2 ?_
        rw [eh, if_pos ⟨tk, q⟩, if_neg q9, show s_ P 142 j / 128 % 16 = s_ P 142 j / 128 by omega]
        have n3 : s_ P 141 j ≠ 2 := by unfold isTok at tk; omega
        obtain ⟨⟨a4, a5, a6, a7, a8, a9, a19, a20, a18⟩, hz, he⟩ := hr1
        refine ds_q ⟨?_, ?_, fun k hk => ?_⟩ (by (repeat' (first | exact fr_refl | assumption | refine fr_u ?_ (by unfold ownR; omega) | refine fr_row ?_ (by unfold ownR; omega)))) (by simp only [s_S, Nat.reduceEqDiff, and_true, if_false]; exact o91) (by unfold SmA; simp only [u2_r, Nat.reduceEqDiff, false_and, and_self, if_false, implies_true])
        · unfold RelA; simp only [u2_r, s_S, b_S, Nat.reduceEqDiff, false_and, true_and, and_true, and_self, if_true, if_false]; ((repeat' (with_reducible refine And.intro ?_ ?_)) <;> (first | assumption | rfl | trivial | omega))
        · obtain ⟨z60, z21, z23, z24, z26, z22, z22b, z2, z4, z5⟩ := hz
          unfold RelZ; unfold RelZ2 at *; simp only [u2_r, s_S, b_S, nfl_S, Nat.reduceEqDiff, false_and, and_true, and_self, if_true, if_false, not_false_eq_true, ne_eq]
          refine ⟨z60, z21, z23, z24, z26, z22, z22b, fun q => ?_, z4, z5⟩
          obtain ⟨y1, y2, y3, y4, y5, y6⟩ := z2 q
          exact ⟨y1, y2, y3, y4, y5, fun q => absurd q n3⟩
        · have := he k (by revert hk; simp only [s_S, Nat.reduceEqDiff, and_true, if_false]; exact id)
          unfold RelE at *; simp only [u2_r, s_S, b_S, Nat.reduceEqDiff, false_and, if_false]; exact this
      refine ⟨fun q13 => hs _ 2 ?_ ?_, fun q13 => hs _ 14 ?_ ?_⟩
      · unfold isTok at tk; omega
      · exact rm_wr (rm_wr h1)
      · omega
      · exact rm_wr (rm_wr h1)
    · have e : p_hear P d (some j) = p_hIn (p_h0 P d) d (s_ P 142 j / 128) := by
        rw [eh, if_pos ⟨tk, q⟩, if_pos q9, show s_ P 142 j / 128 % 16 = s_ P 142 j / 128 by omega]
      refine ru_mono (r_hIn (D := D + 1) h1 x0 hr1 hd (by omega) D0 o91 (fun k hk => ?_)) ?_
      · have := h101 k (by revert hk; unfold p_h0; simp only [s_S, Nat.reduceEqDiff, and_true, if_false]; exact id)
        unfold p_h0; simp only [s_S, Nat.reduceEqDiff, false_and, if_false]; exact this
      · rintro v M2 ⟨rfl, R', h2, ds⟩
        refine bb_161_127 ?_
        rw [n1]
        exact hQ' R' M2 _ _ _ h2 (by rw [e]; exact ds)
  refine bb_161_17 ?_
  simp (disch := first | assumption | omega | decide) only [rd_r4 h, rR_4 h, rN_4 h, rA_4 h, rd_r19 h, rR_19 h, rN_19 h, rW_19 h, rA_19 h, rd_r20 h, rR_20 h, rN_20 h, rA_20 h, rk_39 h, a4, a19, a20, hM1, li_0, li_1, li_6, li_9, li_13, nI_add, nI_eq, nI_leI, nI_clamp, Decidable.not_not, Option.some.injEq, exists_eq_left', true_and]
  refine ⟨fun q => by omega, fun _ => ⟨fun q => absurd q hs, fun _ => ⟨fun q => absurd q h83, fun _ => ⟨fun q => e77 _ (Or.inl q), fun q => ⟨fun q' => e77 _ (Or.inr (Or.inl q')), fun q' => ⟨fun q'' => e165 _ ?_, fun q'' => e77 _ (Or.inr (Or.inr q''))⟩⟩⟩⟩⟩⟩
  intro t
  have := t.1
  unfold isTok at this; omega
end RH
