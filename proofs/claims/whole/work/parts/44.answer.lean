/-! Transfer: byteAt, isComplete, hearAnswer; Pipe -/
section TA
variable {g : pG} {P : pP} {M M' : sm_M} {D : Nat}
def hav (P : pP) (t : Nat) : Nat := if s_ P 203 t = 0 then (b_ P 36 t).length else s_ P 210 t
theorem c_byteAt {t i : Nat} (h : RC g P M) (ht : t < s_ P 122 0) (hi : i < 2 ^ 31) (ho : s_ P 210 t ≤ (b_ P 36 t).length) : sm_Run D 124 0 (sm_ent 124 [.inr (some (g.1 10 t)), .inl (nI i)]) [] M (fun v M' => v = some (.inl (if i < hav P t then nI ((b_ P 36 t).getD i 0) else -1)) ∧ M = M') := by
  obtain ⟨l10, l36, l9⟩ := lq_10 h ht
  obtain ⟨a1, a2, a3⟩ := r_36 h ht
  have e3 := rI_203 h l10
  have e10 := rI_210 h l10
  unfold hav
  have in_ : i < (b_ P 36 t).length → sm_in_ M (g.1 36 t) (nI i) := fun q => of_eq_true (kN_36 h ht q)
  refine bb_124_0 ⟨rc_K h l10, fun q => ⟨_, rd_10_4 h ht, rc_aK h l36 (by decide), fun q1 => absurd q1 (nI_pos hi), fun _ => ⟨fun q1 => ?_, fun q1 => ⟨_, rd_10_4 h ht, rc_iA h l36 (by decide), in_ ?_, ?_, rfl⟩⟩⟩, fun q => ⟨fun q1 => absurd q1 (nI_pos hi), fun _ => ⟨fun q1 => ?_, fun q1 => ⟨_, rd_10_4 h ht, rc_iA h l36 (by decide), in_ ?_, ?_, rfl⟩⟩⟩⟩
  · rw [e3, li_0, nI_eq (rc_B h _ _) (by decide)] at q
    rw [a1, oN, nI_leI (by omega) hi] at q1
    rw [if_pos q, if_neg (by omega)]
    exact ⟨rfl, rfl⟩
  · rw [a1, oN, nI_leI (by omega) hi] at q1; omega
  · rw [e3, li_0, nI_eq (rc_B h _ _) (by decide)] at q
    rw [a1, oN, nI_leI (by omega) hi] at q1
    rw [if_pos q, if_pos (by omega), nI_clamp hi, a3 i (by omega)]
  · rw [e3, li_0, nI_eq (rc_B h _ _) (by decide)] at q
    rw [e10, nI_leI (rc_B h _ _) hi] at q1
    rw [if_neg q, if_neg (by omega)]
    exact ⟨rfl, rfl⟩
  · rw [e10, nI_leI (rc_B h _ _) hi] at q1; omega
  · rw [e3, li_0, nI_eq (rc_B h _ _) (by decide)] at q
    rw [e10, nI_leI (rc_B h _ _) hi] at q1
    rw [if_neg q, if_pos (by omega), nI_clamp hi, a3 i (by omega)]
theorem c_byteAt_neg {t : Nat} {x : Int32} (h : RC g P M) (ht : t < s_ P 122 0) (hx : x < 0) : sm_Run D 124 0 (sm_ent 124 [.inr (some (g.1 10 t)), .inl x]) [] M (fun v M' => v = some (.inl (-1)) ∧ M = M') := by
  obtain ⟨l10, l36, l9⟩ := lq_10 h ht
  exact bb_124_0 ⟨rc_K h l10, fun q => ⟨_, rd_10_4 h ht, rc_aK h l36 (by decide), fun _ => ⟨rfl, rfl⟩, fun q1 => absurd hx q1⟩, fun q => ⟨fun _ => ⟨rfl, rfl⟩, fun q1 => absurd hx q1⟩⟩
abbrev isCmp (P : pP) (t : Nat) : Prop := s_ P 211 t = 1 ∧ (s_ P 203 t = 0 ∨ s_ P 210 t = (b_ P 36 t).length)
theorem c_isComplete {t : Nat} (h : RC g P M) (ht : t < s_ P 122 0) : sm_Run D 125 0 (sm_ent 125 [.inr (some (g.1 10 t))]) [] M (fun v M' => v = some (.inl (bI (decide (isCmp P t)))) ∧ M = M') := by
  obtain ⟨l10, l36, l9⟩ := lq_10 h ht
  have h100 := (r_36 h ht).2.1
  refine bb_125_0 ?_
  simp (disch := first | assumption | exact rc_B (by assumption) _ _ | omega | decide) only [kK_10 h, rd_10_4 h, aK_36 h, kL_36 h, oN, rI_211 h, rI_203 h, rI_210 h, li_0, li_1, nI_eq, Decidable.not_not, Option.some.injEq, exists_eq_left', true_and, and_true]
  refine ⟨fun q => ?_, fun q => ⟨fun q1 => ?_, fun q1 => ⟨fun q2 => ?_, fun q2 => ?_⟩⟩⟩
  · rw [decide_eq_false (by unfold isCmp; omega)]; rfl
  · rw [decide_eq_true (show isCmp P t by unfold isCmp; omega)]; rfl
  · rw [decide_eq_false (by unfold isCmp; omega)]; rfl
  · rw [decide_eq_true (show isCmp P t by unfold isCmp; omega)]; rfl
/-- Transfer.countError, endData, goOn -/
def p_err (P : pP) (t : Nat) : pP := if s_ P 212 t + 1 < 3 then pS P 212 t (s_ P 212 t + 1) else pS (pS P 212 t (s_ P 212 t + 1)) 211 t 3
theorem c_err {t : Nat} (h : RC g P M) (ht : t < s_ P 122 0) (he : s_ P 212 t < 3) : sm_Run D 133 0 (sm_ent 133 [.inr (some (g.1 10 t))]) [] M (fun v M' => v = none ∧ RC g (p_err P t) M') := by
  obtain ⟨l10, l36, l9⟩ := lq_10 h ht
  refine bb_133_0 ?_
  simp (disch := first | assumption | exact rc_B (by assumption) _ _ | omega | decide) only [kK_10 h, rI_212 h, li_1, li_3, nI_add, nI_ltI, I_put_s, true_and]
  ((repeat' (first | (with_reducible refine And.intro ?_ ?_) | intro _)) <;> (try unfold p_err) <;> (repeat' split) <;> (first | omega | (repeat' (first | assumption | refine rc_w' ?_ ?_ ?_ | exact rc_B (by assumption) _ _ | omega | decide))))
def p_endD (P : pP) (t : Nat) : pP := if s_ P 180 (s_ P 213 t) = 0 then pS P 209 t 2 else pS P 211 t 1
theorem c_endD {t : Nat} (h : RC g P M) (ht : t < s_ P 122 0) : sm_Run D 135 0 (sm_ent 135 [.inr (some (g.1 10 t))]) [] M (fun v M' => v = none ∧ RC g (p_endD P t) M') := by
  obtain ⟨l10, l36, l9⟩ := lq_10 h ht
  refine bb_135_0 ?_
  simp (disch := first | assumption | exact rc_B (by assumption) _ _ | omega | decide) only [kK_9 h, kK_10 h, rd_10_1 h, rI_180 h, li_0, li_1, li_2, nI_eq, Decidable.not_not, Option.some.injEq, exists_eq_left', true_and]
  ((repeat' (first | (with_reducible refine And.intro ?_ ?_) | intro _)) <;> (try unfold p_endD) <;> (repeat' split) <;> (first | omega | (repeat' (first | assumption | refine rc_w' ?_ ?_ ?_ | exact rc_B (by assumption) _ _ | omega | decide))))
def p_goOn (P : pP) (t : Nat) : pP :=
  if s_ P 209 t = 0 then pS (pS P 185 (s_ P 213 t) 1) 209 t (if (b_ P 36 t).length ≤ 0 then 2 else 1)
  else if s_ P 209 t = 2 then pS P 211 t 1
  else if s_ P 210 t + chk P t = (b_ P 36 t).length then p_endD (pS (pS P 210 t (s_ P 210 t + chk P t)) 185 (s_ P 213 t) (1 - s_ P 185 (s_ P 213 t))) t
  else pS (pS P 210 t (s_ P 210 t + chk P t)) 185 (s_ P 213 t) (1 - s_ P 185 (s_ P 213 t))
theorem c_goOn {t : Nat} (h : RC g P M) (ht : t < s_ P 122 0) (hI : TI P t) : sm_Run (D + 2) 134 0 (sm_ent 134 [.inr (some (g.1 10 t))]) [] M (fun v M' => v = none ∧ RC g (p_goOn P t) M') := by
  obtain ⟨l10, l36, l9⟩ := lq_10 h ht
  obtain ⟨t1, t2, t3, t4, t5⟩ := hI
  have h100 := (r_36 h ht).2.1
  have e9 := rI_209 h l10
  have b9 := rc_B h 209 t
  have h1 : RC g (pS P 185 (s_ P 213 t) 1) (sm_putI M (g.1 9 (s_ P 213 t)) 5 1) := rc_w' h l9 (show 1 < 2 ^ 31 by decide)
  have ht1 : t < s_ (pS P 185 (s_ P 213 t) 1) 122 0 := by rw [s_S, if_neg (by omega)]; exact ht
  refine bb_134_0 ⟨rc_K h l10, fun q => ⟨fun q1 => ?_, fun q1 => ⟨rfl, ?_⟩⟩, fun q => ⟨_, rd_10_1 h ht, rc_K h l9, _, (rd_10_4 h ht :), rc_aK h l36 (by decide), fun q1 => ⟨rfl, ?_⟩, fun q1 => ⟨rfl, ?_⟩⟩⟩
  · rw [e9, li_0, nI_eq b9 (by decide)] at q
    rw [e9, li_2, nI_eq b9 (by decide)] at q1
    rw [rI_210 h l10]
    refine ru_mono (c_chunk h ht t1) ?_
    rintro v M1 ⟨rfl, rfl⟩
    have hc : chk P t ≤ (b_ P 36 t).length - s_ P 210 t := by unfold chk; split <;> omega
    have h2 : RC g (pS P 210 t (s_ P 210 t + chk P t)) (sm_putI M (g.1 10 t) 10 (nI (s_ P 210 t + chk P t))) := rc_w' h l10 (by omega)
    have ht2 : t < s_ (pS P 210 t (s_ P 210 t + chk P t)) 122 0 := by rw [s_S, if_neg (by omega)]; exact ht
    have e213 : s_ (pS P 210 t (s_ P 210 t + chk P t)) 213 t = s_ P 213 t := by simp only [s_S, Nat.reduceEqDiff, and_true, if_false]
    have e185 : s_ (pS P 210 t (s_ P 210 t + chk P t)) 185 (s_ P 213 t) = s_ P 185 (s_ P 213 t) := by simp only [s_S, Nat.reduceEqDiff, false_and, if_false]
    have r1 := rd_10_1 h2 ht2
    rw [e213] at r1
    have x5 := rI_185 h2 l9
    rw [e185] at x5
    have h3 : RC g (pS (pS P 210 t (s_ P 210 t + chk P t)) 185 (s_ P 213 t) (1 - s_ P 185 (s_ P 213 t))) (sm_putI (sm_putI M (g.1 10 t) 10 (nI (s_ P 210 t + chk P t))) (g.1 9 (s_ P 213 t)) 5 (nI (1 - s_ P 185 (s_ P 213 t)))) := rc_w' h2 l9 (by omega)
    have ht3 : t < s_ (pS (pS P 210 t (s_ P 210 t + chk P t)) 185 (s_ P 213 t) (1 - s_ P 185 (s_ P 213 t))) 122 0 := by rw [s_S, if_neg (by omega)]; exact ht2
    have x10 := rI_210 h3 l10
    have e210 : s_ (pS (pS P 210 t (s_ P 210 t + chk P t)) 185 (s_ P 213 t) (1 - s_ P 185 (s_ P 213 t))) 210 t = s_ P 210 t + chk P t := by simp only [s_S, Nat.reduceEqDiff, false_and, and_self, if_true, if_false]
    rw [e210] at x10
    have xL := kL_36 h3 ht3
    rw [b_S, b_S] at xL
    refine bb_134_60 ⟨rc_K h l10, rc_K h l10, _, ?_, rc_K h2 l9, ?_⟩
    · rw [nI_add]; exact r1
    rw [nI_add, x5, nx1 t2]
    refine ⟨_, (rd_10_4 h3 ht3 :), rc_aK h3 l36 (by decide), fun q2 => ⟨rfl, ?_⟩, fun q2 => ?_⟩
    · rw [x10, show sm_L M (g.1 36 t) = _ from xL, oN, nI_eq (by omega) (by omega)] at q2
      unfold p_goOn
      rw [if_neg q, if_neg q1, if_neg q2]
      exact h3
    · rw [x10, show sm_L M (g.1 36 t) = _ from xL, oN, Decidable.not_not, nI_eq (by omega) (by omega)] at q2
      refine ru_mono (c_endD h3 ht3) ?_
      rintro v M4 ⟨rfl, h4⟩
      refine bb_134_96 ⟨rfl, ?_⟩
      unfold p_goOn
      rw [if_neg q, if_neg q1, if_pos q2]
      exact h4
  · rw [e9, li_0, nI_eq b9 (by decide)] at q
    rw [e9, li_2, Decidable.not_not, nI_eq b9 (by decide)] at q1
    unfold p_goOn
    rw [if_neg q, if_pos q1]
    exact rc_w' h l10 (show 1 < 2 ^ 31 by decide)
  · rw [e9, li_0, Decidable.not_not, nI_eq b9 (by decide)] at q
    rw [kL_36 h ht, oN, li_0, nI_leI (by omega) (by decide)] at q1
    unfold p_goOn
    rw [if_pos q, if_pos q1]
    exact rc_w' h1 l10 (show 2 < 2 ^ 31 by decide)
  · rw [e9, li_0, Decidable.not_not, nI_eq b9 (by decide)] at q
    rw [kL_36 h ht, oN, li_0, nI_leI (by omega) (by decide)] at q1
    unfold p_goOn
    rw [if_pos q, if_neg q1]
    exact rc_w' h1 l10 (show 1 < 2 ^ 31 by decide)
/-- Transfer.takeData -/
def tkf (P : pP) (t j : Nat) : Nat := min (b_ P 7 j).length ((b_ P 36 t).length - s_ P 210 t)
def p_tk1 (P : pP) (t j : Nat) : pP := pS (pB (pS (pS P 212 t 0) 185 (s_ P 213 t) (1 - s_ P 185 (s_ P 213 t))) 36 t (kpl (b_ P 36 t) (b_ P 7 j) (s_ P 210 t) (tkf P t j))) 210 t (s_ P 210 t + tkf P t j)
def p_takeD (P : pP) (t j : Nat) : pP × Bool :=
  if s_ P 209 t = 2 then (if s_ P 141 j = 11 ∧ (b_ P 7 j).length = 0 then (pS (pS P 212 t 0) 211 t 1, true) else (p_err P t, false))
  else if tgo (s_ P 141 j) ≠ s_ P 185 (s_ P 213 t) then (pS P 212 t 0, true)
  else if tkf P t j < (b_ P 7 j).length then (pS (p_tk1 P t j) 211 t 3, true)
  else if s_ P 210 t + tkf P t j = (b_ P 36 t).length ∨ (b_ P 7 j).length < s_ P 202 t then (p_endD (p_tk1 P t j) t, true)
  else (p_tk1 P t j, true)
abbrev tkP (P : pP) (t j i : Nat) : pP := pB (pS (pS P 212 t 0) 185 (s_ P 213 t) (1 - s_ P 185 (s_ P 213 t))) 36 t (kpl (b_ P 36 t) (b_ P 7 j) (s_ P 210 t) i)
theorem c_takeD {t j : Nat} (h : RC g P M) (ht : t < s_ P 122 0) (hj : j < 66) (hI : TI P t) (hk : s_ P 141 j < 16) : sm_Run (D + 1) 136 0 (sm_ent 136 [.inr (some (g.1 10 t)), .inr (some (g.1 7 j))]) [] M (fun v M' => v = some (.inl (bI (p_takeD P t j).2)) ∧ RC g (p_takeD P t j).1 M') := by
  obtain ⟨l10, l36, l9⟩ := lq_10 h ht
  obtain ⟨t1, t2, t3, t4, t5⟩ := hI
  have l7 := (lq_p h hj).1
  have h100 := (r_36 h ht).2.1
  have h64 := rl_64 h hj
  have e9 := rI_209 h l10
  have b9 := rc_B h 209 t
  have e41 := rI_141 h hj
  have tg1 := tgo_le (s_ P 141 j)
  have errE : s_ P 209 t = 2 → ¬ (s_ P 141 j = 11 ∧ (b_ P 7 j).length = 0) → sm_Run D 133 0 (sm_ent 133 [.inr (some (g.1 10 t))]) [] M (fun v M1 => sm_Run (D + 1) 136 28 [some (.inr (some (g.1 10 t))), some (.inr (some (g.1 7 j))), none, none] (v.toList ++ []) M1 (fun v M' => v = some (.inl (bI (p_takeD P t j).2)) ∧ RC g (p_takeD P t j).1 M')) := by
    intro c1 c2
    refine ru_mono (c_err h ht t3) ?_
    rintro v M1 ⟨rfl, h1⟩
    refine bb_136_28 ?_
    unfold p_takeD
    rw [if_pos c1, if_neg c2]
    exact ⟨rfl, h1⟩
  have h0 : RC g (pS P 212 t 0) (sm_putI M (g.1 10 t) 12 0) := rc_w' h l10 (show 0 < 2 ^ 31 by decide)
  refine bb_136_0 ⟨rc_K h l10, fun q => ⟨_, rfl, rc_K h l7, ?_⟩, fun q => ⟨_, rfl, rc_K h l7, fun q1 => ?_, fun q1 => ⟨fun q2 => ?_, fun q2 => ?_⟩⟩⟩
  · rw [e9, li_2, nI_eq b9 (by decide)] at q
    have x41 := rI_141 h0 hj
    have y41 : s_ (pS P 212 t 0) 141 j = s_ P 141 j := by simp only [s_S, Nat.reduceEqDiff, false_and, if_false]
    rw [y41] at x41
    rw [x41]
    refine ru_mono (c_toggleOf (by omega)) ?_
    rintro v M1 ⟨rfl, hM⟩
    subst hM
    have ht0 : t < s_ (pS P 212 t 0) 122 0 := by rw [s_S, if_neg (by omega)]; exact ht
    have y213 : s_ (pS P 212 t 0) 213 t = s_ P 213 t := by simp only [s_S, Nat.reduceEqDiff, and_true, if_false]
    have y185 : s_ (pS P 212 t 0) 185 (s_ P 213 t) = s_ P 185 (s_ P 213 t) := by simp only [s_S, Nat.reduceEqDiff, false_and, if_false]
    have r1 := rd_10_1 h0 ht0
    rw [y213] at r1
    have x5 := rI_185 h0 l9
    rw [y185] at x5
    have h1 : RC g (pS (pS P 212 t 0) 185 (s_ P 213 t) (1 - s_ P 185 (s_ P 213 t))) (sm_putI (sm_putI M (g.1 10 t) 12 0) (g.1 9 (s_ P 213 t)) 5 (nI (1 - s_ P 185 (s_ P 213 t)))) := rc_w' h0 l9 (by omega)
    have ht1 : t < s_ (pS (pS P 212 t 0) 185 (s_ P 213 t) (1 - s_ P 185 (s_ P 213 t))) 122 0 := by rw [s_S, if_neg (by omega)]; exact ht0
    refine bb_136_54 ⟨rc_K h0 l10, _, r1, rc_K h0 l9, fun q1 => ⟨_, r1, rc_K h0 l9, _, rfl, rc_K h0 l7, _, (rd_10_4 h0 ht0 :), rc_aK h0 l36 (by decide), ?_⟩, fun q1 => ?_⟩
    · rw [x5, nI_eq (by omega) (by omega)] at q1
      rw [x5, nx1 t2]
      have x10 := rI_210 h1 l10
      have y10 : s_ (pS (pS P 212 t 0) 185 (s_ P 213 t) (1 - s_ P 185 (s_ P 213 t))) 210 t = s_ P 210 t := by simp only [s_S, Nat.reduceEqDiff, false_and, and_true, if_false]
      rw [y10] at x10
      have x4 := rl_7 h1 hj
      rw [b_S, b_S] at x4
      have xL := kL_36 h1 ht1
      rw [b_S, b_S] at xL
      rw [show sm_L (sm_putI M (g.1 10 t) 12 0) (g.1 36 t) = _ from xL, x10, x4, oN, pk_sub t1, nmin (by omega) (by omega)]
      have htk : min (b_ P 7 j).length ((b_ P 36 t).length - s_ P 210 t) = tkf P t j := rfl
      rw [htk]
      have hf1 : tkf P t j ≤ (b_ P 7 j).length ∧ tkf P t j ≤ (b_ P 36 t).length - s_ P 210 t := ⟨Nat.min_le_left _ _, Nat.min_le_right _ _⟩
      have key : ∀ (m i : Nat) (M : sm_M), i + m = tkf P t j → RC g (tkP P t j i) M → sm_Run (D + 1) 136 102 [some (.inr (some (g.1 10 t))), some (.inr (some (g.1 7 j))), some (.inl (nI (tkf P t j))), some (.inl (nI i))] [] M (fun v M' => v = some (.inl (bI (p_takeD P t j).2)) ∧ RC g (p_takeD P t j).1 M') := by
        intro m
        induction m with
        | zero =>
          intro i M hi hh
          obtain rfl : i = tkf P t j := by omega
          have htq : t < s_ (tkP P t j (tkf P t j)) 122 0 := ht1
          have z10 := rI_210 hh l10
          have w10 : s_ (tkP P t j (tkf P t j)) 210 t = s_ P 210 t := y10
          rw [w10] at z10
          have hh2 : RC g (p_tk1 P t j) (sm_putI M (g.1 10 t) 10 (nI (s_ P 210 t + tkf P t j))) := rc_w' hh l10 (by omega)
          have htz : t < s_ (p_tk1 P t j) 122 0 := by unfold p_tk1; rw [s_S, if_neg (by omega)]; exact htq
          have v4 := rl_7 hh2 hj
          have v4b : b_ (p_tk1 P t j) 7 j = b_ P 7 j := by unfold p_tk1; simp only [b_S, b_B, Nat.reduceEqDiff, false_and, if_false]
          rw [v4b] at v4
          have vL := kL_36 hh2 htz
          have vLb : (b_ (p_tk1 P t j) 36 t).length = (b_ P 36 t).length := by
            unfold p_tk1; rw [b_S, b_Bs, kpl_len (by omega) (by omega)]
          rw [vLb] at vL
          have v10 := rI_210 hh2 l10
          have v10b : s_ (p_tk1 P t j) 210 t = s_ P 210 t + tkf P t j := by unfold p_tk1; rw [s_Ss]
          rw [v10b] at v10
          have v2 := rI_202 hh2 l10
          have v2b : s_ (p_tk1 P t j) 202 t = s_ P 202 t := by unfold p_tk1; simp only [s_S, s_B, Nat.reduceEqDiff, false_and, and_true, if_false]
          rw [v2b] at v2
          have b2 := rc_B h 202 t
          have endE : (s_ P 210 t + tkf P t j = (b_ P 36 t).length ∨ (b_ P 7 j).length < s_ P 202 t) → ¬ tkf P t j < (b_ P 7 j).length → sm_Run D 135 0 (sm_ent 135 [.inr (some (g.1 10 t))]) [] (sm_putI M (g.1 10 t) 10 (nI (s_ P 210 t + tkf P t j))) (fun v M1 => sm_Run (D + 1) 136 182 [some (.inr (some (g.1 10 t))), some (.inr (some (g.1 7 j))), some (.inl (nI (tkf P t j))), some (.inl (nI (tkf P t j)))] (v.toList ++ []) M1 (fun v M' => v = some (.inl (bI (p_takeD P t j).2)) ∧ RC g (p_takeD P t j).1 M')) := by
            intro c1 c2
            refine ru_mono (c_endD hh2 htz) ?_
            rintro v M5 ⟨rfl, h5⟩
            refine bb_136_182 ?_
            unfold p_takeD
            rw [if_neg q, if_neg (by omega), if_neg c2, if_pos c1]
            exact ⟨rfl, h5⟩
          refine bb_136_102 ⟨fun _ => ⟨rc_K hh l10, _, rfl, rc_K hh l7, ?_⟩, fun q2 => absurd (nI_le (Nat.le_refl _) (by omega)) q2⟩
          rw [z10, nI_add]
          refine ⟨fun q2 => ⟨_, (rd_10_4 hh2 htz :), rc_aK hh2 l36 (by decide), fun q3 => ?_, fun q3 => ⟨fun q4 => ?_, fun q4 => ?_⟩⟩, fun q2 => ?_⟩
          · rw [v4, nI_leI (by omega) (by omega)] at q2
            rw [v10, show sm_L M (g.1 36 t) = _ from vL, oN, nI_eq (by omega) (by omega)] at q3
            exact endE (Or.inl q3) (by omega)
          · rw [v4, nI_leI (by omega) (by omega)] at q2
            rw [v10, show sm_L M (g.1 36 t) = _ from vL, oN, nI_eq (by omega) (by omega)] at q3
            rw [v2, v4, nI_leI b2 (by omega)] at q4
            unfold p_takeD
            rw [if_neg q, if_neg (by omega), if_neg (by omega), if_neg (by omega)]
            exact ⟨rfl, hh2⟩
          · rw [v4, nI_leI (by omega) (by omega)] at q2
            rw [v2, v4, nI_leI b2 (by omega)] at q4
            exact endE (Or.inr (by omega)) (by omega)
          · rw [v4, nI_leI (by omega) (by omega)] at q2
            unfold p_takeD
            rw [if_neg q, if_neg (by omega), if_pos (by omega)]
            exact ⟨rfl, rc_w' hh2 l10 (show 3 < 2 ^ 31 by decide)⟩
        | succ m ih =>
          intro i M hi hh
          have htq : t < s_ (tkP P t j i) 122 0 := ht1
          have z10 := rI_210 hh l10
          have w10 : s_ (tkP P t j i) 210 t = s_ P 210 t := y10
          rw [w10] at z10
          have w7 : b_ (tkP P t j i) 7 j = b_ P 7 j := by unfold tkP; simp only [b_S, b_B, Nat.reduceEqDiff, false_and, if_false]
          have w36 : b_ (tkP P t j i) 36 t = kpl (b_ P 36 t) (b_ P 7 j) (s_ P 210 t) i := by unfold tkP; rw [b_Bs]
          have wl : (kpl (b_ P 36 t) (b_ P 7 j) (s_ P 210 t) i).length = (b_ P 36 t).length := kpl_len (by omega) (by omega)
          refine bb_136_102 ⟨fun q2 => ?_, fun _ => ⟨rc_K hh l10, _, rfl, rc_K hh l7, ru_mono (c_at hh hj (by omega)) ?_⟩⟩
          · rw [nI_leI (by omega) (by omega)] at q2; omega
          rintro v M1 ⟨rfl, hM⟩
          subst hM
          rw [w7, z10, nI_add, rd_10_4 hh htq]
          have hlt : s_ P 210 t + i < (b_ (tkP P t j i) 36 t).length := by rw [w36, wl]; omega
          have ha := (r_36 hh htq).2.2
          rw [w36] at ha
          refine bb_136_122 ⟨_, rfl, rc_wA hh l36 (by decide), of_eq_true (kN_36 hh htq hlt), ?_⟩
          rw [nI_clamp (by omega), nI_1]
          have h2 := rc_row (c := 36) (i := t) hh (Or.inr (Or.inr (Or.inr ⟨rfl, htq, by rw [List.length_set, w36]⟩))) (ch_put rfl) (ar_set (j := s_ P 210 t + i) (x := (b_ P 7 j).getD i 0) ha)
          rw [kpl_set (by omega) (by omega)] at h2
          refine ih (i + 1) _ (by omega) ?_
          unfold tkP at h2 ⊢
          rw [pBB] at h2
          exact h2
      refine key (tkf P t j) 0 _ (by omega) ?_
      have : tkP P t j 0 = pS (pS P 212 t 0) 185 (s_ P 213 t) (1 - s_ P 185 (s_ P 213 t)) := by
        unfold tkP kpl
        rw [List.take_zero, List.append_nil, Nat.add_zero, List.take_append_drop]
        conv => lhs; rw [show b_ P 36 t = b_ (pS (pS P 212 t 0) 185 (s_ P 213 t) (1 - s_ P 185 (s_ P 213 t))) 36 t from rfl]
        rw [pBe]
      rw [this]
      exact h1
    · rw [x5, nI_eq (by omega) (by omega)] at q1
      unfold p_takeD
      rw [if_neg q, if_pos q1]
      exact ⟨rfl, h0⟩
  · rw [e9, li_2, Decidable.not_not, nI_eq b9 (by decide)] at q
    rw [e41, li_11, nI_eq (by omega) (by decide)] at q1
    exact errE q (fun c => q1 c.1)
  · rw [e9, li_2, Decidable.not_not, nI_eq b9 (by decide)] at q
    rw [e41, li_11, Decidable.not_not, nI_eq (by omega) (by decide)] at q1
    rw [rl_7 h hj, li_0, nI_eq (by omega) (by decide)] at q2
    unfold p_takeD
    rw [if_pos q, if_pos ⟨q1, q2⟩]
    exact ⟨rfl, rc_w' h0 l10 (show 1 < 2 ^ 31 by decide)⟩
  · rw [e9, li_2, Decidable.not_not, nI_eq b9 (by decide)] at q
    rw [rl_7 h hj, li_0, nI_eq (by omega) (by decide)] at q2
    exact errE q (fun c => q2 c.2)
/-- Transfer.hearAnswer -/
def p_hearB (P : pP) (t k1 : Nat) : pP :=
  if ¬ asks P t ∧ k1 = 3 then p_goOn (pS P 212 t 0) t
  else if s_ P 209 t ≠ 0 ∧ (k1 = 11 ∨ k1 = 15) then (if k1 = 15 then pS (pS P 212 t 0) 211 t 2 else pS P 212 t 0)
  else p_err P t
def p_hearA (P : pP) (t : Nat) (o : Option Nat) : pP × Bool :=
  match o with
  | none => (p_hearB P t 0, false)
  | some j => if asks P t ∧ isDat (s_ P 141 j) then p_takeD P t j else (p_hearB P t (s_ P 141 j + 1), false)
theorem TI_0 {t : Nat} (h : TI P t) : TI (pS P 212 t 0) t := by
  unfold TI at *
  simp only [s_S, b_S, Nat.reduceEqDiff, false_and, and_true, and_self, if_true, if_false]
  exact ⟨h.1, h.2.1, by decide, h.2.2.2.1, h.2.2.2.2⟩
theorem c_hearA {t : Nat} {o : Option Nat} (h : RC g P M) (ht : t < s_ P 122 0) (hI : TI P t) (ho : ∀ j, o = some j → j < 66 ∧ s_ P 141 j < 16) : sm_Run (D + 3) 132 0 (sm_ent 132 [.inr (some (g.1 10 t)), .inr (o.map (fun j => g.1 7 j))]) [] M (fun v M' => v = some (.inl (bI (p_hearA P t o).2)) ∧ RC g (p_hearA P t o).1 M') := by
  obtain ⟨l10, l36, l9⟩ := lq_10 h ht
  have hI0 := hI
  obtain ⟨t1, t2, t3, t4, t5⟩ := hI
  have e9 := rI_209 h l10
  have b9 := rc_B h 209 t
  have h0 : RC g (pS P 212 t 0) (sm_putI M (g.1 10 t) 12 0) := rc_w' h l10 (show 0 < 2 ^ 31 by decide)
  have ht0 : t < s_ (pS P 212 t 0) 122 0 := by rw [s_S, if_neg (by omega)]; exact ht
  have t60 : ∀ (r : Option Nat) (k1 : Nat) (x3 : Int32), k1 < 20 → ¬ (¬ asks P t ∧ k1 = 3) → sm_Run (D + 3) 132 60 [some (.inr (some (g.1 10 t))), some (.inr r), some (.inl (nE k1)), some (.inl x3)] [] M (fun v M' => v = some (.inl 0) ∧ RC g (p_hearB P t k1) M') := by
    intro r k1 x3 hk c
    have er : ¬ (s_ P 209 t ≠ 0 ∧ (k1 = 11 ∨ k1 = 15)) → sm_Run (D + 2) 133 0 (sm_ent 133 [.inr (some (g.1 10 t))]) [] M (fun v M1 => sm_Run (D + 3) 132 109 [some (.inr (some (g.1 10 t))), some (.inr r), some (.inl (nE k1)), some (.inl x3)] (v.toList ++ []) M1 (fun v M' => v = some (.inl 0) ∧ RC g (p_hearB P t k1) M')) := by
      intro c2
      refine ru_mono (c_err h ht t3) ?_
      rintro v M1 ⟨rfl, h1⟩
      refine bb_132_109 ⟨rfl, ?_⟩
      unfold p_hearB
      rw [if_neg c, if_neg c2]
      exact h1
    have ok : (s_ P 209 t ≠ 0 ∧ (k1 = 11 ∨ k1 = 15)) → sm_Run (D + 3) 132 79 [some (.inr (some (g.1 10 t))), some (.inr r), some (.inl (nE k1)), some (.inl x3)] [] M (fun v M' => v = some (.inl 0) ∧ RC g (p_hearB P t k1) M') := by
      intro c2
      unfold p_hearB
      rw [if_neg c, if_pos c2]
      refine bb_132_79 ⟨rc_K h l10, fun q => ⟨rfl, ?_⟩, fun q => ⟨rfl, ?_⟩⟩
      · rw [li_14, nE_I (by omega) (by decide)] at q
        rw [if_neg q, rI_211 h0 l10]
        have := rc_w' (c := 10) (k := 11) (f := 211) (v := nI (s_ (pS P 212 t 0) 211 t)) h0 l10 (rc_B h0 211 t)
        rw [pSe] at this
        exact this
      · rw [li_14, Decidable.not_not, nE_I (by omega) (by decide)] at q
        rw [if_pos q]
        exact rc_w' h0 l10 (show 2 < 2 ^ 31 by decide)
    refine bb_132_60 ⟨rc_K h l10, fun q => ?_, fun q => ⟨fun q1 => ?_, fun q1 => ⟨fun q2 => ?_, fun q2 => ?_⟩⟩⟩
    · rw [e9, li_0, nI_eq b9 (by decide)] at q
      exact er (fun c => c.1 q)
    · rw [e9, li_0, nI_eq b9 (by decide)] at q
      rw [li_10, nE_I (by omega) (by decide)] at q1
      exact ok ⟨q, Or.inl q1⟩
    · rw [li_10, nE_I (by omega) (by decide)] at q1
      rw [li_14, nE_I (by omega) (by decide)] at q2
      exact er (fun c => c.2.elim q1 q2)
    · rw [e9, li_0, nI_eq b9 (by decide)] at q
      rw [li_14, Decidable.not_not, nE_I (by omega) (by decide)] at q2
      exact ok ⟨q, Or.inr q2⟩
  have t39 : ∀ (r : Option Nat) (k1 : Nat), k1 < 20 → sm_Run (D + 3) 132 39 [some (.inr (some (g.1 10 t))), some (.inr r), some (.inl (nE k1)), some (.inl (bI (decide (asks P t))))] [] M (fun v M' => v = some (.inl 0) ∧ RC g (p_hearB P t k1) M') := by
    intro r k1 hk
    refine bb_132_39 ⟨fun q => ?_, fun q => ⟨fun q1 => ?_, fun q1 => ⟨rc_K h l10, ru_mono (c_goOn h0 ht0 (TI_0 hI0)) ?_⟩⟩⟩
    · rw [bI_t, Decidable.not_not] at q
      exact t60 r k1 _ hk (fun c => c.1 q)
    · rw [li_2, nE_I (by omega) (by decide)] at q1
      exact t60 r k1 _ hk (fun c => q1 c.2)
    · rw [Decidable.not_not, bI_t] at q
      rw [li_2, Decidable.not_not, nE_I (by omega) (by decide)] at q1
      rintro v M1 ⟨rfl, h1⟩
      refine bb_132_57 ⟨rfl, ?_⟩
      unfold p_hearB
      rw [if_pos ⟨q, q1⟩]
      exact h1
  cases o with
  | none =>
    refine bb_132_0 ⟨fun _ => ⟨rc_K h l10, ru_mono (c_asksIn h ht) ?_⟩, fun b hb => by cases hb⟩
    rintro v M1 ⟨rfl, hM⟩
    subst hM
    exact bb_132_17 ⟨fun q => t39 none 0 (by decide), fun q => ⟨fun _ => t39 none 0 (by decide), fun b hb => by cases hb⟩⟩
  | some j =>
    obtain ⟨hj, hk⟩ := ho j rfl
    have l7 := (lq_p h hj).1
    refine bb_132_0 ⟨(fun hb => by cases hb), fun b hb => ?_⟩
    obtain rfl : g.1 7 j = b := Option.some.inj hb
    refine ⟨rc_K h l7, rc_K h l10, ?_⟩
    rw [rI_141 h hj]
    refine ru_mono (c_asksIn h ht) ?_
    rintro v M1 ⟨rfl, hM⟩
    subst hM
    have t39' : ¬ (asks P t ∧ isDat (s_ P 141 j)) → sm_Run (D + 3) 132 39 [some (.inr (some (g.1 10 t))), some (.inr (some (g.1 7 j))), some (.inl (nI (s_ P 141 j))), some (.inl (bI (decide (asks P t))))] [] M (fun v M' => v = some (.inl (bI (p_hearA P t (some j)).2)) ∧ RC g (p_hearA P t (some j)).1 M') := by
      intro c
      unfold p_hearA
      dsimp only
      rw [if_neg c, ← nE_s]
      exact t39 _ _ (by omega)
    refine bb_132_17 ⟨fun q => ?_, fun q => ⟨(fun hb => by cases hb), fun b hb => ?_⟩⟩
    · have q' := q
      rw [bI_t] at q'
      exact t39' (fun c => q' c.1)
    · obtain rfl : g.1 7 j = b := Option.some.inj hb
      have q' := q
      rw [bI_t, Decidable.not_not] at q'
      refine ru_mono (he_isData (by omega)) ?_
      rintro v M1 ⟨rfl, hM1⟩
      obtain rfl : M = M1 := hM1.symm
      refine bb_132_30 ⟨fun q1 => ?_, fun q1 => ⟨rc_K h l10, ru_mono (c_takeD h ht hj hI0 hk) ?_⟩⟩
      · rw [bI_t] at q1
        exact t39' (fun c => q1 c.2)
      · rw [bI_t, Decidable.not_not] at q1
        rintro v M1 ⟨rfl, h1⟩
        refine bb_132_38 ⟨?_, ?_⟩
        · cases (p_takeD P t j).2 <;> rfl
        · unfold p_hearA
          dsimp only
          rw [if_pos ⟨q', q1⟩]
          exact ⟨rfl, h1⟩
/-- Pipe.reopen, isDueIn -/
def p_reop (P : pP) (i : Nat) : pP := pS (pS P 184 i 1) 185 i 0
theorem c_reopen {i : Nat} (h : RC g P M) (hl : g.2.1 9 i = true) : sm_Run D 119 0 (sm_ent 119 [.inr (some (g.1 9 i))]) [] M (fun v M' => v = none ∧ RC g (p_reop P i) M') :=
  bb_119_0 ⟨rc_K h hl, rfl, rc_w' (rc_w' h hl (show 1 < 2 ^ 31 by decide)) hl (show 0 < 2 ^ 31 by decide)⟩
abbrev due (P : pP) (i f : Nat) : Prop := s_ P 181 i = 0 ∧ s_ P 184 i ≠ 0 ∧ 0 < s_ P 183 i ∧ f % s_ P 183 i = 0
theorem c_isDue {i f : Nat} (h : RC g P M) (hl : g.2.1 9 i = true) (hf : f < 2 ^ 31) : sm_Run D 120 0 (sm_ent 120 [.inr (some (g.1 9 i)), .inl (nI f)]) [] M (fun v M' => v = some (.inl (bI (decide (due P i f)))) ∧ M = M') := by
  have b3 := rc_B h 183 i
  refine bb_120_0 ⟨rc_K h hl, fun q => ⟨?_, rfl⟩, fun q => ⟨fun q1 => ⟨?_, rfl⟩, fun q1 => ⟨fun q2 => ⟨?_, rfl⟩, fun q2 => ⟨?_, fun q3 => ⟨?_, rfl⟩, fun q3 => ⟨?_, rfl⟩⟩⟩⟩⟩
  · rw [rI_181 h hl, li_0, nI_eq (rc_B h _ _) (by decide)] at q
    rw [decide_eq_false (fun c : due P i f => q c.1)]; rfl
  · rw [rI_184 h hl, li_0, nI_eq (rc_B h _ _) (by decide)] at q1
    rw [decide_eq_false (fun c : due P i f => c.2.1 q1)]; rfl
  · rw [rI_183 h hl, li_0, nI_leI b3 (by decide)] at q2
    rw [decide_eq_false (fun c : due P i f => by have := c.2.2.1; omega)]; rfl
  · rw [rI_183 h hl, li_0, nI_leI b3 (by decide)] at q2
    rw [rI_183 h hl, li_0, nI_eq b3 (by decide)]; omega
  · rw [rI_183 h hl, li_0, nI_leI b3 (by decide)] at q2
    rw [rI_183 h hl, pk_rem hf (by omega) b3, li_0, nI_eq (Nat.lt_of_le_of_lt (Nat.mod_le _ _) hf) (by decide)] at q3
    rw [decide_eq_false (fun c : due P i f => q3 c.2.2.2)]; rfl
  · rw [rI_181 h hl, li_0, Decidable.not_not, nI_eq (rc_B h _ _) (by decide)] at q
    rw [rI_184 h hl, li_0, nI_eq (rc_B h _ _) (by decide)] at q1
    rw [rI_183 h hl, li_0, nI_leI b3 (by decide)] at q2
    rw [rI_183 h hl, pk_rem hf (by omega) b3, li_0, Decidable.not_not, nI_eq (Nat.lt_of_le_of_lt (Nat.mod_le _ _) hf) (by decide)] at q3
    rw [decide_eq_true (show due P i f from ⟨q, q1, by omega, q3⟩)]; rfl
end TA
