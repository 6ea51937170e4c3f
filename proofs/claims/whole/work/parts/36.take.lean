/-! ControlPoint.takeBytes, hearOut; Device.keep -/
section TK
variable {g : pG} {P : pP} {M : sm_M} {D : Nat}
/-- Device.keep -/
def kpl (l b : List Nat) (v n : Nat) : List Nat := l.take v ++ b.take n ++ l.drop (v + n)
theorem kpl_len {l b : List Nat} {v n : Nat} (h1 : v + n ≤ l.length) (h2 : n ≤ b.length) : (kpl l b v n).length = l.length := by
  unfold kpl
  rw [List.length_append, List.length_append, List.length_take, List.length_take, List.length_drop]
  omega
theorem kpl_set {l b : List Nat} {v i : Nat} (h1 : v + i < l.length) (h2 : i < b.length) : (kpl l b v i).set (v + i) (b.getD i 0) = kpl l b v (i + 1) := by
  have e1 : (l.take v ++ b.take i).length = v + i := by rw [List.length_append, List.length_take, List.length_take]; omega
  unfold kpl
  rw [List.set_append_right _ _ (by omega), e1, Nat.sub_self, take_sN h2, List.drop_eq_getElem_cons h1, List.set_cons_zero, ← List.append_assoc, List.append_assoc (l.take v ++ b.take i)]
  rfl
def p_keep (P : pP) (d v n : Nat) : pP := pB P 28 d (kpl (b_ P 28 d) (b_ P 29 d) v n)
theorem c_keep_loop {d v n : Nat} (hd : d < 6) (hv : v + n ≤ 64) (hn : n ≤ (b_ P 29 d).length) (h64 : (b_ P 28 d).length = 64) : ∀ (m i : Nat) (M : sm_M), i + m = n → RC g (p_keep P d v i) M →
    sm_Run D 77 3 [some (.inr (some (g.1 4 d))), some (.inr (some (g.1 29 d))), some (.inl (nI v)), some (.inl (nI n)), some (.inl (nI i))] [] M (fun v' M' => v' = none ∧ RC g (p_keep P d v n) M') := by
  intro m
  induction m with
  | zero =>
    intro i M hi h
    obtain rfl : i = n := by omega
    refine bb_77_3 ⟨fun _ => ⟨rfl, h⟩, fun q => absurd (nI_le (Nat.le_refl _) (by omega)) q⟩
  | succ m ih =>
    intro i M hi h
    obtain ⟨l4, l3, l8, l7, l26, l28, l29, l35, l67⟩ := lq_s h hd
    have e29 : b_ (p_keep P d v i) 29 d = b_ P 29 d := by unfold p_keep; rw [b_B, if_neg (by omega)]
    have e28 : b_ (p_keep P d v i) 28 d = kpl (b_ P 28 d) (b_ P 29 d) v i := by unfold p_keep; rw [b_Bs]
    have h29 := ar_29 h hd
    have h28 := ar_28 h hd
    rw [e29] at h29
    rw [e28] at h28
    have er : sm_I M (g.1 29 d) i = nI ((b_ P 29 d).getD i 0) := h29.2 _ (by omega)
    have hk : 1 ≤ 14 ∧ 14 % 3 ≠ 0 := by decide
    have hk' : 1 ≤ 17 ∧ 17 % 3 ≠ 0 := by decide
    refine bb_77_3 ?_
    simp (disch := first | assumption | exact rc_B (by assumption) _ _ | omega | decide) only [kK_4 h, rd_4_7 h, kN_28 h, kN_29 h, kL_28 h, kL_29 h, kI_29 h, kW_28 h, kK_29 h, kK_28 h, er, show Int32.ofNat 64 = nI 64 from rfl, li_1, nI_add, nI_leI, nI_clamp, Option.some.injEq, exists_eq_left', true_and]
    refine ⟨fun q => by omega, fun _ => ⟨hk, fun q => by omega, fun _ => ⟨hk', fun q => by omega, fun _ => ?_⟩⟩⟩
    refine ih (i + 1) _ (by omega) ?_
    have h2 := rc_row (c := 28) (i := d) h (Or.inr (Or.inl ⟨rfl, hd, by rw [List.length_set]; exact h28.1⟩)) (ch_put rfl) (ar_set (j := v + i) (x := (b_ P 29 d).getD i 0) h28.2)
    rw [kpl_set (by omega) (by omega)] at h2
    unfold p_keep at h2 ⊢
    rw [pBB] at h2
    exact h2
theorem c_keep {d v n : Nat} (h : RC g P M) (hd : d < 6) (hv : v + n ≤ 64) (hn : n ≤ (b_ P 29 d).length) : sm_Run D 77 0 (sm_ent 77 [.inr (some (g.1 4 d)), .inr (some (g.1 29 d)), .inl (nI v), .inl (nI n)]) [] M (fun v' M' => v' = none ∧ RC g (p_keep P d v n) M') := by
  have h64 := (ar_28 h hd).1
  refine bb_77_0 (c_keep_loop hd hv hn h64 n 0 M (by omega) ?_)
  have : p_keep P d v 0 = P := by
    unfold p_keep kpl
    rw [List.take_zero, List.append_nil, Nat.add_zero, List.take_append_drop, pBe]
  rw [this]; exact h
/-- ControlPoint.takeBytes -/
def p_zTk1 (P : pP) (d j : Nat) : pP := p_ans (pS (pS (pB P 29 d (b_ P 29 d ++ b_ P 7 j)) 64 d (s_ P 64 d + (b_ P 7 j).length)) 61 d (1 - s_ P 61 d)) d 2
def p_zTake (P : pP) (d j : Nat) : pP :=
  if tgo (s_ P 141 j) ≠ s_ P 61 d then p_ans P d 2
  else if s_ P 65 d - s_ P 64 d < (b_ P 7 j).length then p_ans (pS P 60 d 1) d 14
  else if s_ P 64 d + (b_ P 7 j).length = s_ P 65 d then pS (p_keep (p_zTk1 P d j) d (s_ P 66 d) (s_ P 65 d)) 60 d 5
  else p_zTk1 P d j
abbrev zT (P : pP) (d j i : Nat) : pP := pS (pB P 29 d (b_ P 29 d ++ (b_ P 7 j).take i)) 64 d (s_ P 64 d + i)
theorem c_zTake_loop {d j : Nat} (hd : d < 6) (hj : j < 66) (hl : (b_ P 29 d).length = s_ P 64 d) (h64 : s_ P 64 d + (b_ P 7 j).length ≤ 64) {Q : Option sm_V → sm_M → Prop} (hQ : ∀ M, RC g (zT P d j (b_ P 7 j).length) M → sm_Run (D + 1) 58 100 [some (.inr (some (g.1 3 d))), some (.inr (some (g.1 4 d))), some (.inr (some (g.1 7 j))), some (.inl (nI (b_ P 7 j).length))] [] M Q) : ∀ (m i : Nat) (M : sm_M), i + m = (b_ P 7 j).length → RC g (zT P d j i) M →
    sm_Run (D + 1) 58 50 [some (.inr (some (g.1 3 d))), some (.inr (some (g.1 4 d))), some (.inr (some (g.1 7 j))), some (.inl (nI i))] [] M Q := by
  intro m
  induction m with
  | zero =>
    intro i M hi h
    obtain rfl : i = (b_ P 7 j).length := by omega
    have e4 := rl_7 h hj
    rw [b_S, b_B, if_neg (by omega)] at e4
    refine bb_58_50 ⟨_, rfl, rc_Ks h (c := 7) hj, fun _ => hQ M h, fun q => ?_⟩
    rw [e4] at q
    exact absurd (nI_le (Nat.le_refl _) (by omega)) q
  | succ m ih =>
    intro i M hi h
    obtain ⟨l4, l3, l8, l7, l26, l28, l29, l35, l67⟩ := lq_s h hd
    have l7j := (lq_p h hj).1
    have e7 : b_ (zT P d j i) 7 j = b_ P 7 j := by rw [b_S, b_B, if_neg (by omega)]
    have e29 : b_ (zT P d j i) 29 d = b_ P 29 d ++ (b_ P 7 j).take i := by rw [b_S, b_Bs]
    have e64 : s_ (zT P d j i) 64 d = s_ P 64 d + i := s_Ss
    have ha := (ar_29 h hd).2
    have hlen : (b_ P 29 d ++ (b_ P 7 j).take i).length = s_ P 64 d + i := by rw [List.length_append, List.length_take]; omega
    rw [e29] at ha
    have hk : 1 ≤ 14 ∧ 14 % 3 ≠ 0 := by decide
    refine bb_58_50 ?_
    simp (disch := first | assumption | exact rc_B (by assumption) _ _ | omega | decide) only [kK_3 h, kK_7 h, rd_3_2 h, kL_29 h, rl_7 h, rI_64 h, e7, e64, kK_29 h, show Int32.ofNat 64 = nI 64 from rfl, nI_leI, Option.some.injEq, exists_eq_left', true_and]
    refine ⟨fun q => by omega, fun _ => ⟨hk, fun q => by omega, fun _ => ru_mono (c_at h hj (by omega)) ?_⟩⟩
    rintro v M1 ⟨rfl, rfl⟩
    refine bb_58_83 ?_
    rw [e7]
    simp (disch := first | assumption | exact rc_B (by assumption) _ _ | omega | decide) only [kK_3 h, kN_29 h, kW_29 h, li_1, nI_add, nI_clamp, Option.some.injEq, exists_eq_left', true_and]
    have hne : g.1 3 d ≠ g.1 29 d := rf_ne h.1.1 l3 l29 (by omega)
    have x64 := rI_64 h hd
    rw [e64] at x64
    rw [I_put_a hne, x64, nI_add]
    have h1 := rc_row (c := 29) (i := d) (l := (b_ P 29 d ++ (b_ P 7 j).take i) ++ [(b_ P 7 j).getD i 0]) (M' := sm_putI M (g.1 29 d) (s_ P 64 d + i) (nI ((b_ P 7 j).getD i 0))) h (Or.inr (Or.inr (Or.inl ⟨rfl, hd, by rw [List.length_append, hlen]; show s_ P 64 d + i + 1 ≤ 64; omega⟩))) (ch_put rfl) (by have := arr_app (x := (b_ P 7 j).getD i 0) ha; rw [hlen] at this; exact this)
    have h2 := rc_w' (c := 3) (k := 4) (f := 64) (n := s_ P 64 d + i + 1) (v := nI (s_ P 64 d + i + 1)) h1 l3 (by omega)
    refine ih (i + 1) _ (by omega) ?_
    have : pS (pB (zT P d j i) 29 d ((b_ P 29 d ++ (b_ P 7 j).take i) ++ [(b_ P 7 j).getD i 0])) 64 d (s_ P 64 d + i + 1) = zT P d j (i + 1) := by
      unfold zT
      rw [List.append_assoc, ← take_sN (by omega)]
      show pS (pS (pB (pB P 29 d _) 29 d _) 64 d _) 64 d _ = _
      rw [pSS, pBB]
      rfl
    rw [this] at h2
    exact h2
theorem c_zTake {d j : Nat} (h : RC g P M) (hd : d < 6) (hj : j < 66) (hjd : j ≠ 60 + d) (ht : s_ P 61 d ≤ 1) (hl : (b_ P 29 d).length = s_ P 64 d) (hg : s_ P 64 d ≤ s_ P 65 d) (ha : s_ P 66 d + s_ P 65 d ≤ 64) : sm_Run (D + 1) 58 0 (sm_ent 58 [.inr (some (g.1 3 d)), .inr (some (g.1 4 d)), .inr (some (g.1 7 j))]) [] M (fun v M' => v = none ∧ RC g (p_zTake P d j) M') := by
  obtain ⟨l4, l3, l8, l7, l26, l28, l29, l35, l67⟩ := lq_s h hd
  have l7j := (lq_p h hj).1
  have h64 := rl_64 h hj
  have tg1 := tgo_le (s_ P 141 j)
  refine bb_58_0 ?_
  simp (disch := first | assumption | exact rc_B (by assumption) _ _ | omega | decide) only [kK_7 h, rI_141 h, Option.some.injEq, exists_eq_left', true_and]
  refine ru_mono (c_toggleOf (rc_B h _ _)) ?_
  rintro v M1 ⟨rfl, rfl⟩
  refine bb_58_7 ?_
  simp (disch := first | assumption | exact rc_B (by assumption) _ _ | omega | decide) only [kK_3 h, kK_4 h, kK_7 h, rl_7 h, rI_61 h, rI_64 h, rI_65 h, li_0, li_1, li_2, li_14, nI_eq, nI_leI, pk_sub, Option.some.injEq, exists_eq_left', true_and]
  refine ⟨fun q => ⟨fun q1 => ?_, fun q1 => ?_⟩, fun q => ?_⟩
  · refine c_zTake_loop hd hj hl (by omega) ?_ (b_ P 7 j).length 0 M (by omega) ?_
    · intro M1 h1
      have e61 : s_ (zT P d j (b_ P 7 j).length) 61 d = s_ P 61 d := by unfold zT; simp only [s_S, s_B, Nat.reduceEqDiff, and_true, if_false]
      refine bb_58_100 ?_
      simp (disch := first | assumption | exact rc_B (by assumption) _ _ | omega | decide) only [kK_3 h1, kK_4 h1, rI_61 h1, e61, li_1, li_2, pk_sub, Option.some.injEq, exists_eq_left', true_and]
      have h2 : RC g (pS (zT P d j (b_ P 7 j).length) 61 d (1 - s_ P 61 d)) (sm_putI M1 (g.1 3 d) 1 (nI (1 - s_ P 61 d))) := rc_w' h1 l3 (by omega)
      refine ru_mono (c_answer h2 hd (by decide)) ?_
      rintro v M2 ⟨rfl, h3⟩
      have e0 : p_ans (pS (zT P d j (b_ P 7 j).length) 61 d (1 - s_ P 61 d)) d 2 = p_zTk1 P d j := by
        unfold zT p_zTk1; rw [List.take_length]
      rw [e0] at h3
      have e64 : s_ (p_zTk1 P d j) 64 d = s_ P 64 d + (b_ P 7 j).length := by unfold p_zTk1 p_ans; simp only [s_S, s_B, Nat.reduceEqDiff, false_and, and_true, and_self, if_true, if_false]
      have e65 : s_ (p_zTk1 P d j) 65 d = s_ P 65 d := by unfold p_zTk1 p_ans; simp only [s_S, s_B, Nat.reduceEqDiff, false_and, and_true, if_false]
      have e66 : s_ (p_zTk1 P d j) 66 d = s_ P 66 d := by unfold p_zTk1 p_ans; simp only [s_S, s_B, Nat.reduceEqDiff, false_and, and_true, if_false]
      have e29 : b_ (p_zTk1 P d j) 29 d = b_ P 29 d ++ b_ P 7 j := by unfold p_zTk1 p_ans; simp only [b_S, b_B, Nat.reduceEqDiff, false_and, and_self, if_true, if_false]
      have b66 := rc_B h 66 d
      refine bb_58_115 ?_
      simp (disch := first | assumption | exact rc_B (by assumption) _ _ | omega | decide) only [kK_3 h3, kK_4 h3, rd_3_2 h3, rI_64 h3, rI_65 h3, rI_66 h3, e64, e65, e66, nI_eq, Decidable.not_not, Option.some.injEq, exists_eq_left', true_and]
      refine ⟨fun q2 => ?_, fun q2 => ?_⟩
      · ((try unfold p_zTake) <;> (repeat' split) <;> (first | omega | exact h3))
      · refine ru_mono (c_keep h3 hd ha (by rw [e29, List.length_append]; omega)) ?_
        rintro v M3 ⟨rfl, h4⟩
        refine bb_58_142 ⟨rc_K h4 l3, rfl, ?_⟩
        have h5 : RC g (pS (p_keep (p_zTk1 P d j) d (s_ P 66 d) (s_ P 65 d)) 60 d 5) (sm_putI M3 (g.1 3 d) 0 5) := rc_w' h4 l3 (by decide)
        ((try unfold p_zTake) <;> (repeat' split) <;> (first | omega | exact h5))
    · unfold zT
      rw [List.take_zero, List.append_nil, pBe, Nat.add_zero, pSe]; exact h
  · have h1 : RC g (pS P 60 d 1) (sm_putI M (g.1 3 d) 0 (nI 1)) := rc_w' h l3 (by decide)
    refine ru_mono (c_answer h1 hd (by decide)) ?_
    rintro v M1 ⟨rfl, h1⟩
    refine bb_58_47 ⟨rfl, ?_⟩
    ((try unfold p_zTake) <;> (repeat' split) <;> (first | omega | exact h1))
  · refine ru_mono (c_answer h hd (by decide)) ?_
    rintro v M1 ⟨rfl, h1⟩
    refine bb_58_19 ⟨rfl, ?_⟩
    ((try unfold p_zTake) <;> (repeat' split) <;> (first | omega | exact h1))
/-- ControlPoint.hearOut -/
def p_zOut (P : pP) (d j : Nat) : pP :=
  if s_ P 60 d = 1 then p_ans P d 14
  else if s_ P 60 d = 2 ∨ s_ P 60 d = 3 then (if s_ P 141 j = 11 ∧ (b_ P 7 j).length = 0 then p_ans (pS P 60 d 3) d 2 else p_ans (pS P 60 d 1) d 14)
  else if s_ P 60 d = 4 then p_zTake P d j
  else if s_ P 60 d = 5 ∨ s_ P 60 d = 6 then (if tgo (s_ P 141 j) ≠ s_ P 61 d then p_ans P d 2 else p_ans (pS P 60 d 1) d 14)
  else p_ans P d 10
theorem c_zOut {d j : Nat} (h : RC g P M) (hd : d < 6) (hj : j < 66) (hjd : j ≠ 60 + d) (ht : s_ P 61 d ≤ 1) (hz : s_ P 60 d = 4 → (b_ P 29 d).length = s_ P 64 d ∧ s_ P 64 d ≤ s_ P 65 d ∧ s_ P 66 d + s_ P 65 d ≤ 64) : sm_Run (D + 2) 57 0 (sm_ent 57 [.inr (some (g.1 3 d)), .inr (some (g.1 4 d)), .inr (some (g.1 7 j))]) [] M (fun v M' => v = none ∧ RC g (p_zOut P d j) M') := by
  obtain ⟨l4, l3, l8, l7, l26, l28, l29, l35, l67⟩ := lq_s h hd
  have l7j := (lq_p h hj).1
  have h64 := rl_64 h hj
  have tg1 := tgo_le (s_ P 141 j)
  have w1 : RC g (pS P 60 d 1) (sm_putI M (g.1 3 d) 0 (nI 1)) := rc_w' h l3 (by decide)
  have w3 : RC g (pS P 60 d 3) (sm_putI M (g.1 3 d) 0 (nI 3)) := rc_w' h l3 (by decide)
  have tail : s_ P 60 d = 5 ∨ s_ P 60 d = 6 → sm_Run (D + 2) 57 112 [some (.inr (some (g.1 3 d))), some (.inr (some (g.1 4 d))), some (.inr (some (g.1 7 j)))] [.inl (nI (tgo (s_ P 141 j)))] M (fun v M' => v = none ∧ RC g (p_zOut P d j) M') := by
    intro q
    refine bb_57_112 ?_
    simp (disch := first | assumption | exact rc_B (by assumption) _ _ | omega | decide) only [kK_3 h, kK_4 h, rI_61 h, li_1, li_2, li_14, nI_eq, Option.some.injEq, exists_eq_left', true_and]
    refine ⟨fun q1 => ?_, fun q1 => ?_⟩
    · refine ru_mono (c_answer w1 hd (by decide)) ?_
      rintro v M1 ⟨rfl, h1⟩
      refine bb_57_138 ⟨rfl, ?_⟩
      ((try unfold p_zOut) <;> (repeat' split) <;> (first | omega | exact h1))
    · refine ru_mono (c_answer h hd (by decide)) ?_
      rintro v M1 ⟨rfl, h1⟩
      refine bb_57_124 ⟨rfl, ?_⟩
      ((try unfold p_zOut) <;> (repeat' split) <;> (first | omega | exact h1))
  refine bb_57_0 ?_
  simp (disch := first | assumption | exact rc_B (by assumption) _ _ | omega | decide) only [kK_3 h, kK_4 h, kK_7 h, rl_7 h, rI_60 h, rI_141 h, li_0, li_1, li_2, li_3, li_4, li_5, li_6, li_10, li_11, li_14, nI_eq, Decidable.not_not, Option.some.injEq, exists_eq_left', true_and]
  refine ⟨fun q => ?_, fun q => ⟨fun q1 => ?_, fun q1 => ⟨fun q2 => ?_, fun q2 => ?_⟩⟩, fun q => ⟨fun q1 => ?_, fun q1 => ⟨fun q2 => ?_, fun q2 => ?_⟩⟩, fun q => ?_, fun q => ?_, fun q => ?_, fun q1 q2 q3 q4 q5 q6 => ?_⟩
  · refine ru_mono (c_answer h hd (by decide)) ?_
    rintro v M1 ⟨rfl, h1⟩
    refine bb_57_50 ⟨rfl, ?_⟩
    ((try unfold p_zOut) <;> (repeat' split) <;> (first | omega | exact h1))
  · refine ru_mono (c_answer w1 hd (by decide)) ?_
    rintro v M1 ⟨rfl, h1⟩
    refine bb_57_102 ⟨rfl, ?_⟩
    ((try unfold p_zOut) <;> (repeat' split) <;> (first | omega | exact h1))
  · refine ru_mono (c_answer w1 hd (by decide)) ?_
    rintro v M1 ⟨rfl, h1⟩
    refine bb_57_102 ⟨rfl, ?_⟩
    ((try unfold p_zOut) <;> (repeat' split) <;> (first | omega | exact h1))
  · refine ru_mono (c_answer w3 hd (by decide)) ?_
    rintro v M1 ⟨rfl, h1⟩
    refine bb_57_88 ⟨rfl, ?_⟩
    ((try unfold p_zOut) <;> (repeat' split) <;> (first | omega | exact h1))
  · refine ru_mono (c_answer w1 hd (by decide)) ?_
    rintro v M1 ⟨rfl, h1⟩
    refine bb_57_102 ⟨rfl, ?_⟩
    ((try unfold p_zOut) <;> (repeat' split) <;> (first | omega | exact h1))
  · refine ru_mono (c_answer w1 hd (by decide)) ?_
    rintro v M1 ⟨rfl, h1⟩
    refine bb_57_102 ⟨rfl, ?_⟩
    ((try unfold p_zOut) <;> (repeat' split) <;> (first | omega | exact h1))
  · refine ru_mono (c_answer w3 hd (by decide)) ?_
    rintro v M1 ⟨rfl, h1⟩
    refine bb_57_88 ⟨rfl, ?_⟩
    ((try unfold p_zOut) <;> (repeat' split) <;> (first | omega | exact h1))
  · obtain ⟨z1, z2, z3⟩ := hz q
    refine ru_mono (c_zTake h hd hj hjd ht z1 z2 z3) ?_
    rintro v M1 ⟨rfl, h1⟩
    refine bb_57_59 ⟨rfl, ?_⟩
    unfold p_zOut
    rw [if_neg (by omega), if_neg (by omega), if_pos q]
    exact h1
  · refine ru_mono (c_toggleOf (rc_B h _ _)) ?_
    rintro v M1 ⟨rfl, rfl⟩
    exact tail (Or.inl q)
  · refine ru_mono (c_toggleOf (rc_B h _ _)) ?_
    rintro v M1 ⟨rfl, rfl⟩
    exact tail (Or.inr q)
  · refine ru_mono (c_answer h hd (by decide)) ?_
    rintro v M1 ⟨rfl, h1⟩
    refine bb_57_147 ⟨rfl, ?_⟩
    ((try unfold p_zOut) <;> (repeat' split) <;> (first | omega | exact h1))
end TK
