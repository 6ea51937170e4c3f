/-! Device.hear and what it calls; become, arrive, leave -/
section HR
variable {g : pG} {P : pP} {M : sm_M} {D : Nat}
theorem bI_t {p : Prop} [Decidable p] : bI (decide p) = 0 ↔ ¬ p := by
  rw [bI_0, decide_eq_false_iff_not]
abbrev isTok (k : Nat) : Prop := k = 1 ∨ k = 9 ∨ k = 13
abbrev isDat (k : Nat) : Prop := k = 3 ∨ k = 11
/-- what the packets ask of a device's numbers -/
def DI (P : pP) (d : Nat) : Prop := s_ P 61 d ≤ 1 ∧ (s_ P 60 d = 2 → s_ P 69 d = 0 → s_ P 64 d + 1 ≤ s_ P 63 d ∧ s_ P 63 d ≤ (b_ P 29 d).length + 1) ∧ (s_ P 60 d = 4 → (b_ P 29 d).length = s_ P 64 d ∧ s_ P 64 d ≤ s_ P 65 d ∧ s_ P 66 d + s_ P 65 d ≤ 64) ∧ s_ P 64 d ≤ 64 ∧ s_ P 68 d ≤ 64 ∧ ∀ k, k < s_ P 86 d → s_ P 103 (6 * d + k) ≤ 1 ∧ s_ P 105 (6 * d + k) ≤ (b_ P 1 (1 + (6 * d + k))).length ∧ s_ P 105 (6 * d + k) ≤ 64 ∧ s_ P 101 (6 * d + k) ≤ 64
def p_hIn (P : pP) (d e : Nat) : pP :=
  if e = 0 then p_zIn P d else match p_find P d (e + 128) with
    | none => P
    | some k => if s_ P 83 d = 3 then p_eIn P d (6 * d + k) else P
def p_hOut (P : pP) (d j : Nat) : pP :=
  if s_ P 90 d = 0 then p_zOut P d j else match p_find P d (s_ P 90 d) with
    | none => P
    | some k => if s_ P 83 d = 3 then p_eOut P d (6 * d + k) j else P
def p_hAck (P : pP) (d : Nat) : pP :=
  if s_ P 90 d = 0 then p_zAck P d else match p_find P d (s_ P 90 d) with
    | none => P
    | some k => p_eAck P (6 * d + k)
theorem c_hIn {d e : Nat} (h : RC g P M) (hd : d < 6) (he : e < 16) (hD : DI P d) : sm_Run (D + 3) 68 0 (sm_ent 68 [.inr (some (g.1 4 d)), .inl (nI e)]) [] M (fun v M' => v = none ∧ RC g (p_hIn P d e) M') := by
  obtain ⟨l4, l3, l8, l7, l26, l28, l29, l35, l67⟩ := lq_s h hd
  obtain ⟨d1, d2, d3, d4, d5, d6⟩ := hD
  refine bb_68_0 ?_
  simp (disch := first | assumption | exact rc_B (by assumption) _ _ | omega | decide) only [kK_3 h, kK_4 h, rd_4_8 h, li_0, li_128, nI_add, nI_eq, Decidable.not_not, Option.some.injEq, exists_eq_left', true_and]
  refine ⟨fun q => ru_mono (c_find h hd (by omega)) ?_, fun q => ru_mono (c_zIn h hd d1 d2) ?_⟩
  · rintro v M1 ⟨rfl, rfl⟩
    unfold p_hIn
    rw [if_neg q]
    cases hf : p_find P d (e + 128) with
    | none => exact bb_68_22 ⟨fun _ => ⟨rfl, h⟩, fun b hb => by cases hb⟩
    | some k =>
      have hk := (find_lt hf).1
      have l5 := lq_5 h hd hk
      obtain ⟨k1, k2, k3, k4⟩ := d6 k hk
      have ef : Option.map (fun k => g.1 5 (6 * d + k)) (some k) = some (g.1 5 (6 * d + k)) := rfl
      rw [ef]
      dsimp only
      refine bb_68_22 ?_
      simp (disch := first | assumption | exact rc_B (by assumption) _ _ | omega | decide) only [kK_4 h, kK_5 h, rI_83 h, li_3, nI_eq, Decidable.not_not, Option.some.injEq, forall_eq', reduceCtorEq, false_implies, true_and]
      refine ⟨fun q1 => ?_, fun q1 => ru_mono (c_eIn h hd l5 (by omega) ⟨k2, k3⟩ k4) ?_⟩
      · rw [if_neg q1]; exact h
      · rintro v M1 ⟨rfl, h1⟩
        rw [if_pos q1]
        exact bb_68_40 ⟨rfl, h1⟩
  · rintro v M1 ⟨rfl, h1⟩
    unfold p_hIn
    rw [if_pos q]
    exact bb_68_12 ⟨rfl, h1⟩
theorem c_hOut {d j : Nat} (h : RC g P M) (hd : d < 6) (hj : j < 66) (hjd : j ≠ 60 + d) (hD : DI P d) : sm_Run (D + 3) 69 0 (sm_ent 69 [.inr (some (g.1 4 d)), .inr (some (g.1 7 j))]) [] M (fun v M' => v = none ∧ RC g (p_hOut P d j) M') := by
  obtain ⟨l4, l3, l8, l7, l26, l28, l29, l35, l67⟩ := lq_s h hd
  obtain ⟨d1, d2, d3, d4, d5, d6⟩ := hD
  refine bb_69_0 ?_
  simp (disch := first | assumption | exact rc_B (by assumption) _ _ | omega | decide) only [kK_3 h, kK_4 h, rd_4_8 h, rI_90 h, li_0, nI_eq, Decidable.not_not, Option.some.injEq, exists_eq_left', true_and]
  refine ⟨fun q => ru_mono (c_find h hd (rc_B h _ _)) ?_, fun q => ru_mono (c_zOut h hd hj hjd d1 d3) ?_⟩
  · rintro v M1 ⟨rfl, rfl⟩
    unfold p_hOut
    rw [if_neg q]
    cases hf : p_find P d (s_ P 90 d) with
    | none => exact bb_69_25 ⟨fun _ => ⟨rfl, h⟩, fun b hb => by cases hb⟩
    | some k =>
      have hk := (find_lt hf).1
      have l5 := lq_5 h hd hk
      obtain ⟨k1, k2, k3, k4⟩ := d6 k hk
      have ef : Option.map (fun k => g.1 5 (6 * d + k)) (some k) = some (g.1 5 (6 * d + k)) := rfl
      rw [ef]
      dsimp only
      refine bb_69_25 ?_
      simp (disch := first | assumption | exact rc_B (by assumption) _ _ | omega | decide) only [kK_4 h, kK_5 h, rI_83 h, li_3, nI_eq, Decidable.not_not, Option.some.injEq, forall_eq', reduceCtorEq, false_implies, true_and]
      refine ⟨fun q1 => ?_, fun q1 => ru_mono (c_eOut h hd hj l5 k1) ?_⟩
      · rw [if_neg q1]; exact h
      · rintro v M1 ⟨rfl, h1⟩
        rw [if_pos q1]
        exact bb_69_44 ⟨rfl, h1⟩
  · rintro v M1 ⟨rfl, h1⟩
    unfold p_hOut
    rw [if_pos q]
    exact bb_69_16 ⟨rfl, h1⟩
theorem c_hAck {d : Nat} (h : RC g P M) (hd : d < 6) (hD : DI P d) : sm_Run (D + 3) 70 0 (sm_ent 70 [.inr (some (g.1 4 d))]) [] M (fun v M' => v = none ∧ RC g (p_hAck P d) M') := by
  obtain ⟨l4, l3, l8, l7, l26, l28, l29, l35, l67⟩ := lq_s h hd
  obtain ⟨d1, d2, d3, d4, d5, d6⟩ := hD
  refine bb_70_0 ?_
  simp (disch := first | assumption | exact rc_B (by assumption) _ _ | omega | decide) only [kK_3 h, kK_4 h, rd_4_8 h, rI_90 h, li_0, nI_eq, Decidable.not_not, Option.some.injEq, exists_eq_left', true_and]
  refine ⟨fun q => ru_mono (c_find h hd (rc_B h _ _)) ?_, fun q => ru_mono (c_zAck h hd d1 (by omega)) ?_⟩
  · rintro v M1 ⟨rfl, rfl⟩
    unfold p_hAck
    rw [if_neg q]
    cases hf : p_find P d (s_ P 90 d) with
    | none => exact bb_70_24 ⟨fun _ => ⟨rfl, h⟩, fun b hb => by cases hb⟩
    | some k =>
      have hk := (find_lt hf).1
      have l5 := lq_5 h hd hk
      obtain ⟨k1, k2, k3, k4⟩ := d6 k hk
      refine bb_70_24 ⟨(fun hb => by cases hb), fun b hb => ?_⟩
      obtain rfl : g.1 5 (6 * d + k) = b := Option.some.inj hb
      refine ⟨rc_K h l5, ru_mono (c_eAck h l5 k1) ?_⟩
      rintro v M1 ⟨rfl, h1⟩
      exact bb_70_33 ⟨rfl, h1⟩
  · rintro v M1 ⟨rfl, h1⟩
    unfold p_hAck
    rw [if_pos q]
    exact bb_70_15 ⟨rfl, h1⟩
/-- Device.hear -/
def p_h0 (P : pP) (d : Nat) : pP := pS (pS P 89 d 0) 91 d 0
def p_hear (P : pP) (d : Nat) (o : Option Nat) : pP :=
  match o with
  | none => p_h0 P d
  | some j =>
    if isTok (s_ P 141 j) ∧ s_ P 142 j % 128 = s_ P 84 d then
      (if s_ P 141 j = 9 then p_hIn (p_h0 P d) d (s_ P 142 j / 128 % 16) else pS (pS (p_h0 P d) 89 d (s_ P 141 j + 1)) 90 d (s_ P 142 j / 128 % 16))
    else if s_ P 89 d = 14 ∧ s_ P 90 d = 0 ∧ s_ P 141 j = 3 ∧ (b_ P 7 j).length = 8 then p_ans (p_zBeg (p_h0 P d) d (b_ P 7 j)) d 2
    else if s_ P 89 d = 2 ∧ isDat (s_ P 141 j) then p_hOut (p_h0 P d) d j
    else if s_ P 89 d = 3 ∧ s_ P 141 j = 2 then p_hAck (p_h0 P d) d
    else p_h0 P d
theorem DI_h0 {d : Nat} (h : DI P d) : DI (p_h0 P d) d := by
  unfold DI p_h0 at *
  simp only [s_S, b_S, Nat.reduceEqDiff, false_and, and_true, if_false]
  exact h
theorem c_hear {d : Nat} {o : Option Nat} (h : RC g P M) (hd : d < 6) (hD : DI P d) (ho : ∀ j, o = some j → j < 66 ∧ j ≠ 60 + d ∧ s_ P 141 j < 16 ∧ ∀ x ∈ b_ P 7 j, x < 256) : sm_Run (D + 4) 67 0 (sm_ent 67 [.inr (some (g.1 4 d)), .inr (o.map (fun j => g.1 7 j))]) [] M (fun v M' => v = none ∧ RC g (p_hear P d o) M') := by
  obtain ⟨l4, l3, l8, l7, l26, l28, l29, l35, l67⟩ := lq_s h hd
  have h0 : RC g (p_h0 P d) (sm_putI (sm_putI M (g.1 4 d) 9 (-1)) (g.1 4 d) 11 0) := rc_w' (rc_w' h l4 (show 0 < 2 ^ 31 by decide)) l4 (show 0 < 2 ^ 31 by decide)
  have hD0 := DI_h0 hD
  cases o with
  | none => exact bb_67_0 ⟨rc_K h l4, fun _ => ⟨rfl, h0⟩, fun b hb => by cases hb⟩
  | some j =>
    obtain ⟨hj, hjd, h16, hb⟩ := ho j rfl
    have l7j := (lq_p h hj).1
    have b2 := rc_B h 142 j
    have b89 := rc_B h 89 d
    have h64 := rl_64 h hj
    have e141 : s_ (p_h0 P d) 141 j = s_ P 141 j := by unfold p_h0; simp only [s_S, Nat.reduceEqDiff, false_and, if_false]
    have e142 : s_ (p_h0 P d) 142 j = s_ P 142 j := by unfold p_h0; simp only [s_S, Nat.reduceEqDiff, false_and, if_false]
    have e84 : s_ (p_h0 P d) 84 d = s_ P 84 d := by unfold p_h0; simp only [s_S, Nat.reduceEqDiff, and_true, if_false]
    have e90 : s_ (p_h0 P d) 90 d = s_ P 90 d := by unfold p_h0; simp only [s_S, Nat.reduceEqDiff, and_true, if_false]
    have e7 : b_ (p_h0 P d) 7 j = b_ P 7 j := by unfold p_h0; simp only [b_S]
    refine bb_67_0 ⟨rc_K h l4, (fun hb => by cases hb), fun b hbb => ?_⟩
    obtain rfl : g.1 7 j = b := Option.some.inj hbb
    refine ⟨rc_K h l7j, ?_⟩
    have e1 := rI_141 h0 hj
    rw [e141] at e1
    rw [e1, rI_89 h hd]
    generalize hM0 : sm_putI (sm_putI M (g.1 4 d) 9 (-1)) (g.1 4 d) 11 0 = M0 at h0 e1
    clear hM0 h hD
    refine ru_mono (he_isToken (by omega)) ?_
    rintro v M1 ⟨rfl, hM1⟩
    obtain rfl : M0 = M1 := hM1.symm
    have hx : nI (s_ P 142 j) >>> (7 &&& 31) &&& 15 = nI (s_ P 142 j / 128 % 16) := by
      rw [pk_shrN b2 _ 7 (by decide), pk_andN (by omega) 4 (by decide)]
    have ha : nI (s_ P 142 j) &&& 127 = nI (s_ P 142 j % 128) := pk_andN (by omega) 7 (by decide)
    have e2 := rI_142 h0 hj
    rw [e142] at e2
    have t175 : ¬ (isTok (s_ P 141 j) ∧ s_ P 142 j % 128 = s_ P 84 d) → ¬ (s_ P 89 d = 14 ∧ s_ P 90 d = 0 ∧ s_ P 141 j = 3 ∧ (b_ P 7 j).length = 8) → ¬ (s_ P 89 d = 2 ∧ isDat (s_ P 141 j)) → sm_Run (D + 4) 67 175 [some (.inr (some (g.1 4 d))), some (.inr (some (g.1 7 j))), some (.inl (nE (s_ P 89 d))), some (.inl 0), some (.inl (nI (s_ P 142 j / 128 % 16)))] [] M0 (fun v M' => v = none ∧ RC g (p_hear P d (some j)) M') := by
      intro c1 c2 c3
      unfold p_hear
      dsimp only
      rw [if_neg c1, if_neg c2, if_neg c3]
      refine bb_67_175 ?_
      simp (disch := first | assumption | exact rc_B (by assumption) _ _ | omega | decide) only [kK_4 h0, kK_7 h0, rI_141 h0, e141, li_0, li_2, nI_eq, nE_I, Decidable.not_not, Nat.reduceAdd, Option.some.injEq, exists_eq_left', true_and]
      refine ⟨fun q => ?_, fun q => ⟨fun q1 => ?_, fun q1 => ru_mono (c_hAck h0 hd hD0) ?_⟩⟩
      · rw [if_neg (by omega)]; exact h0
      · rw [if_neg (by omega)]; exact h0
      · rintro v M1 ⟨rfl, h1⟩
        rw [if_pos ⟨q, q1⟩]
        exact bb_67_192 ⟨rfl, h1⟩
    have t152 : ¬ (isTok (s_ P 141 j) ∧ s_ P 142 j % 128 = s_ P 84 d) → ¬ (s_ P 89 d = 14 ∧ s_ P 90 d = 0 ∧ s_ P 141 j = 3 ∧ (b_ P 7 j).length = 8) → sm_Run (D + 4) 67 152 [some (.inr (some (g.1 4 d))), some (.inr (some (g.1 7 j))), some (.inl (nE (s_ P 89 d))), some (.inl 0), some (.inl (nI (s_ P 142 j / 128 % 16)))] [] M0 (fun v M' => v = none ∧ RC g (p_hear P d (some j)) M') := by
      intro c1 c2
      refine bb_67_152 ⟨fun q => ?_, fun q => ⟨_, rfl, rc_K h0 l7j, ?_⟩⟩
      · rw [li_1, nE_I b89 (by decide)] at q
        exact t175 c1 c2 (fun c => q c.1)
      rw [li_1, Decidable.not_not, nE_I b89 (by decide)] at q
      rw [e1]
      refine ru_mono (he_isData (by omega)) ?_
      rintro v M1 ⟨rfl, hM1⟩
      obtain rfl : M0 = M1 := hM1.symm
      refine bb_67_164 ⟨fun q1 => ?_, fun q1 => ⟨rc_K h0 l4, ru_mono (c_hOut h0 hd hj hjd hD0) ?_⟩⟩
      · rw [bI_t] at q1
        exact t175 c1 c2 (fun c => q1 c.2)
      · rw [bI_t, Decidable.not_not] at q1
        rintro v M1 ⟨rfl, h1⟩
        refine bb_67_172 ⟨rfl, ?_⟩
        unfold p_hear
        dsimp only
        rw [if_neg c1, if_neg c2, if_pos ⟨q, q1⟩]
        exact h1
    have t84 : ¬ (isTok (s_ P 141 j) ∧ s_ P 142 j % 128 = s_ P 84 d) → sm_Run (D + 4) 67 84 [some (.inr (some (g.1 4 d))), some (.inr (some (g.1 7 j))), some (.inl (nE (s_ P 89 d))), some (.inl 0), some (.inl (nI (s_ P 142 j / 128 % 16)))] [] M0 (fun v M' => v = none ∧ RC g (p_hear P d (some j)) M') := by
      intro c1
      refine bb_67_84 ⟨fun _ => ⟨fun q => ?_, fun q => ⟨rc_K h0 l4, fun q1 => ?_, fun q1 => ⟨_, rfl, rc_K h0 l7j, fun q2 => ?_, fun q2 => ⟨fun q3 => ?_, fun q3 => ⟨_, rd_4_8 h0 hd, rc_K h0 l3, ?_⟩⟩⟩⟩⟩, fun q => absurd rfl q⟩
      · rw [li_13, nE_I b89 (by decide)] at q
        exact t152 c1 (fun c => q c.1)
      · rw [rI_90 h0 hd, e90, li_0, nI_eq (by rw [← e90]; exact rc_B h0 _ _) (by decide)] at q1
        exact t152 c1 (fun c => q1 c.2.1)
      · rw [e1, li_3, nI_eq (by omega) (by decide)] at q2
        exact t152 c1 (fun c => q2 c.2.2.1)
      · rw [rl_7 h0 hj, e7, li_8, nI_eq (by omega) (by decide)] at q3
        exact t152 c1 (fun c => q3 c.2.2.2)
      · rw [li_13, Decidable.not_not, nE_I b89 (by decide)] at q
        rw [rI_90 h0 hd, e90, li_0, Decidable.not_not, nI_eq (by rw [← e90]; exact rc_B h0 _ _) (by decide)] at q1
        rw [e1, li_3, Decidable.not_not, nI_eq (by omega) (by decide)] at q2
        rw [rl_7 h0 hj, e7, li_8, Decidable.not_not, nI_eq (by omega) (by decide)] at q3
        refine ru_mono (c_zBeg h0 hd hj (by rw [e7]; exact hb)) ?_
        rintro v M1 ⟨rfl, h1⟩
        refine bb_67_144 ⟨rc_K h1 l4, ru_mono (c_answer h1 hd (by decide)) ?_⟩
        rintro v M2 ⟨rfl, h2⟩
        refine bb_67_149 ⟨rfl, ?_⟩
        unfold p_hear
        dsimp only
        rw [if_neg c1, if_pos ⟨q, q1, q2, q3⟩]
        rw [e7] at h2
        exact h2
    have t48 : ¬ (isTok (s_ P 141 j) ∧ s_ P 142 j % 128 = s_ P 84 d) → sm_Run (D + 4) 67 48 [some (.inr (some (g.1 4 d))), some (.inr (some (g.1 7 j))), some (.inl (nE (s_ P 89 d))), none, none] [] M0 (fun v M' => v = none ∧ RC g (p_hear P d (some j)) M') := by
      intro c1
      refine bb_67_48 ⟨_, rfl, rc_K h0 l7j, ?_⟩
      rw [e2, hx]
      exact t84 c1
    have b84 : s_ P 84 d < 2 ^ 31 := by rw [← e84]; exact rc_B h0 _ _
    refine bb_67_27 ⟨fun q => ?_, fun q => ⟨_, rfl, rc_K h0 l7j, rc_K h0 l4, fun q1 => ?_, fun q1 => ⟨fun q2 => ?_, fun q2 => ?_⟩⟩⟩
    · rw [bI_t] at q
      exact t48 (fun c => q c.1)
    · rw [e2, rI_84 h0 hd, e84, ha, nI_eq (by omega) b84] at q1
      exact t48 (fun c => q1 c.2)
    · rw [bI_t, Decidable.not_not] at q
      rw [e2, rI_84 h0 hd, e84, ha, Decidable.not_not, nI_eq (by omega) b84] at q1
      rw [e1, li_9, nI_eq (by omega) (by decide)] at q2
      rw [e2, hx]
      refine bb_67_84 ⟨fun q3 => absurd q3 (by decide), fun _ => ⟨_, rfl, rc_K h0 l7j, rc_K h0 l4, rfl, ?_⟩⟩
      rw [e1]
      unfold p_hear
      dsimp only
      rw [if_pos ⟨q, q1⟩, if_neg q2]
      exact rc_w' (rc_w' h0 l4 (show s_ P 141 j + 1 < 2 ^ 31 by omega) rfl (nE_s _).symm) l4 (by omega)
    · rw [bI_t, Decidable.not_not] at q
      rw [e2, rI_84 h0 hd, e84, ha, Decidable.not_not, nI_eq (by omega) b84] at q1
      rw [e1, li_9, Decidable.not_not, nI_eq (by omega) (by decide)] at q2
      rw [e2, hx]
      refine ru_mono (c_hIn h0 hd (by omega) hD0) ?_
      rintro v M1 ⟨rfl, h1⟩
      refine bb_67_81 ⟨rfl, ?_⟩
      unfold p_hear
      dsimp only
      rw [if_pos ⟨q, q1⟩, if_pos q2]
      exact h1
/-- Device.leave, become, arrive -/
def p_leave (P : pP) (d : Nat) : pP := pS (pS P 83 d 0) 84 d 0
theorem c_leave {d : Nat} (h : RC g P M) (hd : d < 6) : sm_Run D 64 0 (sm_ent 64 [.inr (some (g.1 4 d))]) [] M (fun v M' => v = none ∧ RC g (p_leave P d) M') := by
  obtain ⟨l4, -⟩ := lq_s h hd
  exact bb_64_0 ⟨rc_K h l4, rfl, rc_w' (rc_w' h l4 (show 0 < 2 ^ 31 by decide)) l4 (show 0 < 2 ^ 31 by decide)⟩
def p_arrL (P : pP) (d : Nat) : Nat → pP
  | 0 => P
  | n + 1 => pB (p_eRs (p_arrL P d n) (6 * d + n)) 1 (1 + (6 * d + n)) []
def p_arr0 (P : pP) (d : Nat) : pP := pS (pS (pS (pS (pS P 83 d 1) 84 d 0) 89 d 0) 91 d 0) 60 d 0
def p_arrive (P : pP) (d : Nat) : pP := p_arrL (p_arr0 P d) d (s_ P 86 d)
theorem s_arrL {d f i : Nat} (hf : f ≠ 103 ∧ f ≠ 104 ∧ f ≠ 105) : ∀ n, s_ (p_arrL P d n) f i = s_ P f i
  | 0 => rfl
  | n + 1 => by
    show s_ (pB (p_eRs (p_arrL P d n) (6 * d + n)) _ _ _) f i = _
    rw [s_B, s_eRs, if_neg (by omega), s_arrL hf n]
theorem c_arr_loop {d n : Nat} (hd : d < 6) (hn : s_ P 86 d = n) (h6 : n ≤ 6) : ∀ (m i : Nat) (M : sm_M), i + m = n → RC g (p_arrL P d i) M →
    sm_Run (D + 1) 63 30 [some (.inr (some (g.1 4 d))), some (.inl (nI i))] [] M (fun v' M' => v' = none ∧ RC g (p_arrL P d n) M') := by
  intro m
  induction m with
  | zero =>
    intro i M hi h
    obtain rfl : i = n := by omega
    obtain ⟨l4, -⟩ := lq_s h hd
    have e86 : s_ (p_arrL P d i) 86 d = i := by rw [s_arrL (by decide)]; exact hn
    refine bb_63_30 ?_
    simp (disch := first | assumption | exact rc_B (by assumption) _ _ | omega | decide) only [kK_4 h, rd_4_5 h, rI_86 h, e86, nI_leI, nI_clamp, Option.some.injEq, exists_eq_left', true_and]
    exact ⟨fun _ => h, fun q => absurd (Nat.le_refl _) q⟩
  | succ m ih =>
    intro i M hi h
    obtain ⟨l4, l3, l8, l7, l26, l28, l29, l35, l67⟩ := lq_s h hd
    have e86 : s_ (p_arrL P d i) 86 d = n := by rw [s_arrL (by decide)]; exact hn
    have hi6 : i < s_ (p_arrL P d i) 86 d := by omega
    have l5 := lq_5 h hd hi6
    have r5 := rd_26_i h hd hi6
    have lB := (rc_EB h l5).2
    refine bb_63_30 ⟨rc_K h l4, fun q => ?_, fun _ => ⟨_, rd_4_5 h hd, ⟨5, rc_K h l26⟩, rc_in h l26 (by decide) (show i < 6 by omega) (by decide), _, by rw [nI_clamp (by omega)]; exact r5, rc_K h l5, ru_mono (c_eRestart h l5) ?_⟩⟩
    · rw [rI_86 h hd, e86, nI_leI (by omega) (by omega)] at q; omega
    rintro v M1 ⟨rfl, h1⟩
    have hi6' : i < s_ (p_eRs (p_arrL P d i) (6 * d + i)) 86 d := by rw [s_eRs, if_neg (by omega)]; omega
    have r5' := rd_26_i h1 hd hi6'
    refine bb_63_47 ⟨rc_K h1 l4, _, rd_4_5 h1 hd, ⟨5, rc_K h1 l26⟩, rc_in h1 l26 (by decide) (show i < 6 by omega) (by decide), _, by rw [nI_clamp (by omega)]; exact r5', rc_K h1 l5, _, rd_5_6 h1 l5, rc_K h1 lB, ru_mono (c_rclear h1 lB) ?_⟩
    rintro v M2 ⟨rfl, h2⟩
    refine bb_63_59 ?_
    rw [nI_1]
    exact ih (i + 1) M2 (by omega) h2
theorem c_arrive {d : Nat} (h : RC g P M) (hd : d < 6) : sm_Run (D + 1) 63 0 (sm_ent 63 [.inr (some (g.1 4 d))]) [] M (fun v M' => v = none ∧ RC g (p_arrive P d) M') := by
  obtain ⟨l4, l3, l8, l7, l26, l28, l29, l35, l67⟩ := lq_s h hd
  have h1 : RC g (p_arr0 P d) (sm_putI (sm_putI (sm_putI (sm_putI (sm_putI M (g.1 4 d) 3 1) (g.1 4 d) 4 0) (g.1 4 d) 9 (-1)) (g.1 4 d) 11 0) (g.1 3 d) 0 0) :=
    rc_w' (rc_w' (rc_w' (rc_w' (rc_w' h l4 (show 1 < 2 ^ 31 by decide)) l4 (show 0 < 2 ^ 31 by decide)) l4 (show 0 < 2 ^ 31 by decide)) l4 (show 0 < 2 ^ 31 by decide)) l3 (show 0 < 2 ^ 31 by decide)
  refine bb_63_0 ⟨rc_K h l4, _, rd_4_8 h hd, rc_K h l3, ?_⟩
  have e86 : s_ (p_arr0 P d) 86 d = s_ P 86 d := by unfold p_arr0; simp only [s_S, Nat.reduceEqDiff, and_true, if_false]
  exact c_arr_loop hd e86 (rc_E h hd).1 (s_ P 86 d) 0 _ (by omega) h1
end HR
