/-! ControlPoint -/
section CP
variable {g : pG} {P : pP} {M : sm_M} {D : Nat}
/-- ControlPoint.hearAck -/
def p_zAck (P : pP) (d : Nat) : pP :=
  if s_ P 60 d = 2 then pS (pS (pS P 64 d (s_ P 64 d + s_ P 68 d)) 61 d (1 - s_ P 61 d)) 69 d (if s_ P 64 d + s_ P 68 d = s_ P 65 d ∨ s_ P 68 d < s_ P 80 d then 1 else 0)
  else if s_ P 60 d = 5 then (if s_ P 67 d = 0 then pS P 60 d 6 else pS (pS (pS P 60 d 6) 84 d (s_ P 67 d)) 83 d 2)
  else P
theorem c_zAck {d : Nat} (h : RC g P M) (hd : d < 6) (ht : s_ P 61 d ≤ 1) (hg : s_ P 64 d + s_ P 68 d < 2 ^ 31) : sm_Run D 56 0 (sm_ent 56 [.inr (some (g.1 3 d)), .inr (some (g.1 4 d))]) [] M (fun v M' => v = none ∧ RC g (p_zAck P d) M') := by
  obtain ⟨l4, l3, -⟩ := lq_s h hd
  refine bb_56_0 ?_
  simp (disch := first | assumption | exact rc_B (by assumption) _ _ | omega | decide) only [kK_3 h, kK_4 h, rI_60 h, rI_61 h, rI_64 h, rI_65 h, rI_67 h, rI_68 h, rI_80 h, li_0, li_1, li_2, li_5, li_6, nI_add, nI_eq, nI_leI, pk_sub, I_put_s, I_put_k, Decidable.not_not, Option.some.injEq, exists_eq_left', true_and]
  ((repeat' (first | (with_reducible refine And.intro ?_ ?_) | intro _)) <;> (try unfold p_zAck) <;> (repeat' split) <;> (first | omega | (repeat' (first | assumption | refine rc_w' ?_ ?_ ?_ | exact rc_B (by assumption) _ _ | omega | decide))))
/-- ControlPoint.hearIn -/
def p_zIn1 (P : pP) (d : Nat) : pP := if s_ P 60 d = 2 ∧ s_ P 69 d ≠ 0 then pS P 60 d 1 else P
def nfl (P : pP) (d : Nat) : Nat := min (s_ P 80 d) (s_ P 63 d - 1 - s_ P 64 d)
def p_zIn2 (P : pP) (d : Nat) : pP :=
  if s_ P 60 d = 1 then p_ans P d 14
  else if s_ P 60 d = 2 then pB (p_ansD (pS P 68 d (nfl P d)) d (s_ P 61 d) 0) 7 (60 + d) (((b_ P 29 d).drop (s_ P 64 d)).take (nfl P d))
  else if s_ P 60 d = 5 then p_ansD P d 1 0
  else p_ans P d 10
def p_zIn (P : pP) (d : Nat) : pP := p_zIn2 (p_zIn1 P d) d
theorem c_zIn_loop {d u : Nat} (hd : d < 6) (hu : s_ P 64 d + u ≤ (b_ P 29 d).length) (h68 : s_ P 68 d = u) : ∀ (n i : Nat) (M : sm_M), i + n = u → RC g (pB P 7 (60 + d) (((b_ P 29 d).drop (s_ P 64 d)).take i)) M →
    sm_Run (D + 1) 55 103 [some (.inr (some (g.1 3 d))), some (.inr (some (g.1 4 d))), some (.inl (nI (s_ P 64 d + i)))] [] M (fun v M' => v = none ∧ RC g (pB P 7 (60 + d) (((b_ P 29 d).drop (s_ P 64 d)).take u)) M') := by
  intro n
  induction n with
  | zero =>
    intro i M hi h
    obtain rfl : i = u := by omega
    obtain ⟨l4, l3, l8, l7, l26, l28, l29, l35, l67⟩ := lq_s h hd
    have h64 := (ar_29 h hd).1
    have e29 : b_ (pB P 7 (60 + d) (((b_ P 29 d).drop (s_ P 64 d)).take i)) 29 d = b_ P 29 d := by rw [b_B, if_neg (by omega)]
    rw [e29] at h64
    refine bb_55_103 ?_
    simp (disch := first | assumption | exact rc_B (by assumption) _ _ | omega | decide) only [kK_3 h, kK_4 h, kK_7 h, rd_4_12 h, rd_3_2 h, kL_29 h, kI_29 h, rI_64 h, rI_68 h, s_B, h68, nI_add, nI_leI, nI_clamp, Option.some.injEq, exists_eq_left', true_and]
    refine ⟨fun _ => h, fun q => absurd (Nat.le_refl _) q⟩
  | succ n ih =>
    intro i M hi h
    obtain ⟨l4, l3, l8, l7, l26, l28, l29, l35, l67⟩ := lq_s h hd
    obtain ⟨h64, ha⟩ := ar_29 h hd
    have e29 : b_ (pB P 7 (60 + d) (((b_ P 29 d).drop (s_ P 64 d)).take i)) 29 d = b_ P 29 d := by rw [b_B, if_neg (by omega)]
    rw [e29] at h64 ha
    have er : sm_I M (g.1 29 d) (s_ P 64 d + i) = nI ((b_ P 29 d).getD (s_ P 64 d + i) 0) := ha _ (by omega)
    have hk : 1 ≤ 14 ∧ 14 % 3 ≠ 0 := by decide
    refine bb_55_103 ?_
    simp (disch := first | assumption | exact rc_B (by assumption) _ _ | omega | decide) only [kK_3 h, kK_4 h, kK_7 h, rd_4_12 h, rd_3_2 h, kN_29 h, kL_29 h, kI_29 h, rI_64 h, rI_68 h, s_B, h68, kK_29 h, er, show Int32.ofNat 64 = nI 64 from rfl, nI_add, nI_leI, nI_clamp, Option.some.injEq, exists_eq_left', true_and]
    refine ⟨fun q => by omega, fun _ => ⟨hk, fun q => by omega, fun _ => ?_⟩⟩
    refine ru_mono (c_add h (by omega) ?_) ?_
    · rw [b_Bs, List.length_take, List.length_drop]; omega
    rintro v M2 ⟨rfl, h2⟩
    refine bb_55_138 ?_
    rw [nI_1]
    refine ih (i + 1) M2 (by omega) ?_
    unfold p_add at h2
    rw [b_Bs, pBB, ← getD_dropN, ← take_sN (by rw [List.length_drop]; omega)] at h2
    exact h2
theorem c_zIn {d : Nat} (h : RC g P M) (hd : d < 6) (ht : s_ P 61 d ≤ 1) (hz : s_ P 60 d = 2 → s_ P 69 d = 0 → s_ P 64 d + 1 ≤ s_ P 63 d ∧ s_ P 63 d ≤ (b_ P 29 d).length + 1) : sm_Run (D + 2) 55 0 (sm_ent 55 [.inr (some (g.1 3 d)), .inr (some (g.1 4 d))]) [] M (fun v M' => v = none ∧ RC g (p_zIn P d) M') := by
  obtain ⟨l4, l3, l8, l7, l26, l28, l29, l35, l67⟩ := lq_s h hd
  have key : ∀ (P : pP) (M : sm_M), RC g P M → s_ P 61 d ≤ 1 → (s_ P 60 d = 2 → s_ P 64 d + 1 ≤ s_ P 63 d ∧ s_ P 63 d ≤ (b_ P 29 d).length + 1) → sm_Run (D + 2) 55 20 [some (.inr (some (g.1 3 d))), some (.inr (some (g.1 4 d))), none] [] M (fun v M' => v = none ∧ RC g (p_zIn2 P d) M') := by
    intro P M h ht hz
    have h64 := (ar_29 h hd).1
    have b80 := rc_B h 80 d
    refine bb_55_20 ?_
    simp (disch := first | assumption | exact rc_B (by assumption) _ _ | omega | decide) only [kK_3 h, kK_4 h, rI_60 h, rI_61 h, li_0, li_1, li_2, li_3, li_4, li_5, li_10, li_14, nI_eq, I_put_k, Option.some.injEq, exists_eq_left', true_and]
    refine ⟨fun q => ?_, fun q => ?_, fun q => ?_, fun q => ?_, fun q => ?_, fun q1 q2 q3 q4 q5 => ?_⟩
    · refine ru_mono (c_answer h hd (by decide)) ?_
      rintro v M1 ⟨rfl, h1⟩
      refine bb_55_66 ⟨rfl, ?_⟩
      ((try unfold p_zIn2) <;> (repeat' split) <;> (first | omega | exact h1))
    · obtain ⟨z1, z2⟩ := hz q
      have e63 := rI_63 h hd
      have e64 := rI_64 h hd
      have e80 := rI_80 h hd
      have hw : (if sm_I M (g.1 3 d) 3 - sm_I M (g.1 3 d) 4 < sm_I M (g.1 4 d) 0 then sm_I M (g.1 3 d) 3 - sm_I M (g.1 3 d) 4 else sm_I M (g.1 4 d) 0) = nI (nfl P d) := by
        rw [e63, e64, e80, nE_sub z1, nmin (by omega) b80]
        rfl
      have hnf : nfl P d ≤ s_ P 63 d - 1 - s_ P 64 d := Nat.min_le_right _ _
      rw [hw]
      have h1 : RC g (pS P 68 d (nfl P d)) (sm_putI M (g.1 3 d) 8 (nI (nfl P d))) := rc_w' h l3 (by omega)
      refine ru_mono (c_answerData h1 hd (by omega) (show 0 < 2 ^ 31 by decide)) ?_
      rintro v M2 ⟨rfl, h2⟩
      have e2 : s_ (p_ansD (pS P 68 d (nfl P d)) d (s_ P 61 d) 0) 64 d = s_ P 64 d := by
        unfold p_ansD p_ans; simp only [s_S, s_B, Nat.reduceEqDiff, false_and, and_true, if_false]
      have e3 : s_ (p_ansD (pS P 68 d (nfl P d)) d (s_ P 61 d) 0) 68 d = nfl P d := by
        unfold p_ansD p_ans; simp only [s_S, s_B, Nat.reduceEqDiff, false_and, and_true, and_self, if_true, if_false]
      have e4 : b_ (p_ansD (pS P 68 d (nfl P d)) d (s_ P 61 d) 0) 29 d = b_ P 29 d := by
        unfold p_ansD p_ans; simp only [b_S, b_B, Nat.reduceEqDiff, false_and, if_false]
      have e5 : b_ (p_ansD (pS P 68 d (nfl P d)) d (s_ P 61 d) 0) 7 (60 + d) = [] := by
        unfold p_ansD p_ans; simp only [b_S, b_B, and_self, if_true]
      refine bb_55_98 ?_
      simp (disch := first | assumption | exact rc_B (by assumption) _ _ | omega | decide) only [kK_3 h2, rI_64 h2, e2, true_and]
      have := c_zIn_loop (D := D + 1) (P := p_ansD (pS P 68 d (nfl P d)) d (s_ P 61 d) 0) (u := nfl P d) hd (by rw [e2, e4]; omega) e3 (nfl P d) 0 M2 (by omega) (by rw [List.take_zero, ← e5, pBe]; exact h2)
      rw [e2, e4] at this
      unfold p_zIn2
      rw [if_neg (by omega), if_pos q]
      exact this
    · refine ru_mono (c_answer h hd (by decide)) ?_
      rintro v M1 ⟨rfl, h1⟩
      refine bb_55_162 ⟨rfl, ?_⟩
      ((try unfold p_zIn2) <;> (repeat' split) <;> (first | omega | exact h1))
    · refine ru_mono (c_answer h hd (by decide)) ?_
      rintro v M1 ⟨rfl, h1⟩
      refine bb_55_162 ⟨rfl, ?_⟩
      ((try unfold p_zIn2) <;> (repeat' split) <;> (first | omega | exact h1))
    · refine ru_mono (c_answerData h hd (show 1 < 2 ^ 31 by decide) (show 0 < 2 ^ 31 by decide)) ?_
      rintro v M1 ⟨rfl, h1⟩
      refine bb_55_153 ⟨rfl, ?_⟩
      ((try unfold p_zIn2) <;> (repeat' split) <;> (first | omega | exact h1))
    · refine ru_mono (c_answer h hd (by decide)) ?_
      rintro v M1 ⟨rfl, h1⟩
      refine bb_55_162 ⟨rfl, ?_⟩
      ((try unfold p_zIn2) <;> (repeat' split) <;> (first | omega | exact h1))
  refine bb_55_0 ?_
  simp (disch := first | assumption | exact rc_B (by assumption) _ _ | omega | decide) only [kK_3 h, rI_60 h, rI_69 h, li_0, li_1, li_2, nI_eq, Decidable.not_not, true_and]
  unfold p_zIn p_zIn1
  refine ⟨fun q => ?_, fun q => ⟨fun q1 => ?_, fun q1 => ?_⟩⟩
  · rw [if_neg (by omega)]
    exact key P M h ht (fun q1 => absurd q1 q)
  · rw [if_neg (by omega)]
    exact key P M h ht (fun q2 => hz q2 q1)
  · rw [if_pos ⟨q, q1⟩]
    refine key _ _ (rc_w' h l3 (by decide)) (by rw [s_S, if_neg (by omega)]; exact ht) (fun q2 => ?_)
    rw [s_Ss] at q2; omega
end CP
