/-! Host.goOnFinding, finish -/
section FI
variable {g : pG} {P : pP} {M M' : sm_M} {D : Nat}
abbrev isBk (n : Nat) : Prop := n = 8 ∨ n = 16 ∨ n = 32 ∨ n = 64
theorem c_isBk {n : Nat} (hn : n < 2 ^ 31) : sm_Run D 22 0 (sm_ent 22 [.inl (nI n)]) [] M (fun v M' => v = some (.inl (bI (decide (isBk n)))) ∧ M = M') := by
  refine bb_22_0 ⟨fun q => ⟨?_, rfl⟩, fun q => ⟨fun q1 => ⟨?_, rfl⟩, fun q1 => ⟨fun q2 => ⟨?_, rfl⟩, fun q2 => ⟨fun q3 => ⟨?_, rfl⟩, fun q3 => ⟨?_, rfl⟩⟩⟩⟩⟩
  · rw [li_8, nI_eq hn (by decide)] at q
    rw [decide_eq_true (show isBk n from Or.inl q)]; rfl
  · rw [li_16, nI_eq hn (by decide)] at q1
    rw [decide_eq_true (show isBk n from Or.inr (Or.inl q1))]; rfl
  · rw [li_32, nI_eq hn (by decide)] at q2
    rw [decide_eq_true (show isBk n from Or.inr (Or.inr (Or.inl q2)))]; rfl
  · rw [li_8, nI_eq hn (by decide)] at q
    rw [li_16, nI_eq hn (by decide)] at q1
    rw [li_32, nI_eq hn (by decide)] at q2
    rw [li_64, nI_eq hn (by decide)] at q3
    rw [decide_eq_false (by unfold isBk; omega)]; rfl
  · rw [li_64, Decidable.not_not, nI_eq hn (by decide)] at q3
    rw [decide_eq_true (show isBk n from Or.inr (Or.inr (Or.inr q3)))]; rfl
def tot4 (P : pP) (t : Nat) : Nat := (b_ P 36 t).getD 2 0 + 256 * (b_ P 36 t).getD 3 0
def p_gof (P : pP) (t : Nat) : pP :=
  if ¬ isCmp P t then pS P 160 (s_ P 200 t) 3
  else if s_ P 208 t = 1 then (if isBk ((b_ P 36 t).getD 7 0) then p_fnd (pS P 162 (s_ P 200 t) ((b_ P 36 t).getD 7 0)) (s_ P 200 t) 2 0 else pS P 160 (s_ P 200 t) 3)
  else if s_ P 208 t = 2 then p_fnd (pS P 161 (s_ P 200 t) 1) (s_ P 200 t) 3 0
  else if s_ P 208 t = 4 then (if tot4 P t < 18 ∨ 60 < tot4 P t then pS P 160 (s_ P 200 t) 3 else p_fnd P (s_ P 200 t) 5 (tot4 P t))
  else if s_ P 208 t = 5 then p_fnd (pS P 165 (s_ P 200 t) (t + 1)) (s_ P 200 t) 6 0
  else if s_ P 208 t = 6 then p_open P (s_ P 200 t)
  else p_fnd P (s_ P 200 t) (s_ P 208 t + 1) 0
/-- what goOnFinding may take for granted -/
def GF (P : pP) (t : Nat) : Prop := s_ P 200 t < 6 ∧ 1 ≤ s_ P 208 t ∧ s_ P 208 t ≤ 6 ∧ s_ P 210 t ≤ (b_ P 36 t).length ∧ (isCmp P t → s_ P 208 t = 1 → 7 < hav P t) ∧ (isCmp P t → s_ P 208 t = 4 → 3 < hav P t) ∧ (∀ x ∈ b_ P 36 t, x < 256) ∧ s_ P 122 0 < 336 ∧ s_ P 123 0 + 1 < 2 ^ 31 ∧ s_ P 130 0 < 2 ^ 29 ∧ (s_ P 165 (s_ P 200 t) ≠ 0 → s_ P 210 (s_ P 165 (s_ P 200 t) - 1) ≤ (b_ P 36 (s_ P 165 (s_ P 200 t) - 1)).length ∧ ∀ x ∈ b_ P 36 (s_ P 165 (s_ P 200 t) - 1), x < 256)
theorem c_gof {n0 u0 t : Nat} (h : RC g P M) (hg : gO n0 u0 g P) (ht : t < s_ P 122 0) (hG : GF P t) : sm_Run (D + 4) 103 0 (sm_ent 103 [.inr (some (g.1 6 0)), .inr (some (g.1 10 t))]) [] M (fun r M' => r = none ∧ ∃ g', gx g g' ∧ gO n0 u0 g' (p_gof P t) ∧ RC g' (p_gof P t) M') := by
  obtain ⟨hd, hs1, hs6, ho, hv1, hv4, hb, hm, hw1, h130, hcf⟩ := hG
  obtain ⟨l10, l36, l9⟩ := lq_10 h ht
  have l6 := rc_st h (c := 6) (i := 0) (by decide)
  have l33 := rc_st h (c := 33) (i := 0) (by decide)
  have l8 := rc_st h (c := 8) hd
  have e0 := rI_200 h l10
  have e8 := rI_208 h l10
  have bb : ∀ k, (b_ P 36 t).getD k 0 < 256 := fun k => byte_getD hb k
  have bt : ∀ {k : Nat}, k < hav P t → k < 1000 → sm_Run (D + 3) 124 0 (sm_ent 124 [.inr (some (g.1 10 t)), .inl (nI k)]) [] M (fun v M' => v = some (.inl (nI ((b_ P 36 t).getD k 0))) ∧ M = M') := by
    intro k hk hk2
    refine ru_mono (c_byteAt h ht (by omega) ho) ?_
    rintro v M' ⟨rfl, hM⟩
    rw [if_pos hk]
    exact ⟨rfl, hM⟩
  -- the tail: what the step means
  have t157n : ∀ (M1 : sm_M) (P1 : pP) (x3 : Int32), RC g P1 M1 → s_ P1 122 0 = s_ P 122 0 → s_ P1 130 0 = s_ P 130 0 → pS P1 160 (s_ P 200 t) 3 = p_gof P t → sm_Run (D + 4) 103 157 [some (.inr (some (g.1 6 0))), some (.inr (some (g.1 10 t))), some (.inr (some (g.1 8 (s_ P 200 t)))), some (.inl x3), some (.inl 0)] [] M1 (fun r M' => r = none ∧ ∃ g', gx g g' ∧ gO n0 u0 g' (p_gof P t) ∧ RC g' (p_gof P t) M') := by
    intro M1 P1 x3 h1 c1 c2 c3
    refine bb_103_157 ⟨fun q => absurd rfl q, fun _ => ⟨_, rfl, rc_K h1 l8, rfl, g, gx_rf, ?_, ?_⟩⟩
    · rw [← c3]; exact gO_S (gO_eq hg c1 c2) (by decide) (by decide)
    · rw [← c3]; exact rc_w' h1 l8 (show 3 < 2 ^ 31 by decide)
  have t157y : ∀ (M1 : sm_M) (P1 : pP) (tot : Nat) (x4 : Int32), ¬ x4 = 0 → RC g P1 M1 → (∀ f, f ≠ 162 → f ≠ 161 → f ≠ 165 → ∀ i, s_ P1 f i = s_ P f i) → s_ P 208 t ≠ 6 → tot ≤ 100 → p_fnd P1 (s_ P 200 t) (s_ P 208 t + 1) tot = p_gof P t → sm_Run (D + 4) 103 157 [some (.inr (some (g.1 6 0))), some (.inr (some (g.1 10 t))), some (.inr (some (g.1 8 (s_ P 200 t)))), some (.inl (nI tot)), some (.inl x4)] [] M1 (fun r M' => r = none ∧ ∃ g', gx g g' ∧ gO n0 u0 g' (p_gof P t) ∧ RC g' (p_gof P t) M') := by
    intro M1 P1 tot x4 hx h1 hP hne htot hp
    have f8 := rI_208 h1 l10
    have f0 := rI_200 h1 l10
    rw [hP 208 (by decide) (by decide) (by decide)] at f8
    rw [hP 200 (by decide) (by decide) (by decide)] at f0
    refine bb_103_157 ⟨fun _ => ⟨_, rfl, rc_K h1 l10, fun _ => ⟨rc_K h1 l6, ?_⟩, fun q => ?_⟩, fun q => absurd hx q⟩
    · rw [f8, f0, nI_1]
      refine ru_mono (c_fnd (D := D) h1 (gO_eq hg (hP 122 (by decide) (by decide) (by decide) 0) (hP 130 (by decide) (by decide) (by decide) 0)) hd (by omega) htot (by rw [hP 122 (by decide) (by decide) (by decide)]; exact hm) (by rw [hP 123 (by decide) (by decide) (by decide)]; exact hw1)) ?_
      rw [hp]
      rintro r M2 ⟨rfl, h2⟩
      exact bb_103_201 ⟨rfl, h2⟩
    · rw [f8, li_6, Decidable.not_not, nI_eq (by omega) (by decide)] at q
      exact absurd q hne
  have t139 : ∀ (x4 : Int32), (x4 = 0 → ¬ isCmp P t) → (¬ x4 = 0 → isCmp P t ∧ s_ P 208 t ≠ 1 ∧ s_ P 208 t ≠ 2 ∧ s_ P 208 t ≠ 4) → sm_Run (D + 4) 103 139 [some (.inr (some (g.1 6 0))), some (.inr (some (g.1 10 t))), some (.inr (some (g.1 8 (s_ P 200 t)))), some (.inl 0), some (.inl x4)] [] M (fun r M' => r = none ∧ ∃ g', gx g g' ∧ gO n0 u0 g' (p_gof P t) ∧ RC g' (p_gof P t) M') := by
    intro x4 hx0 hx1
    refine bb_103_139 ⟨fun q => ?_, fun q => ⟨_, rfl, rc_K h l10, fun q1 => ?_, fun q1 => ⟨_, rfl, rc_K h l8, ?_⟩⟩⟩
    · subst q
      exact t157n M P 0 h rfl rfl (by unfold p_gof; rw [if_pos (hx0 rfl)])
    · rw [e8, li_5, nI_eq (by omega) (by decide)] at q1
      obtain ⟨c1, c2, c3, c4⟩ := hx1 q
      by_cases h6 : s_ P 208 t = 6
      · refine bb_103_157 ⟨fun _ => ⟨_, rfl, rc_K h l10, fun q2 => ?_, fun _ => ⟨_, rfl, rc_K h l8, ru_mono (c_open (D := D + 1) h hg hd hcf h130) ?_⟩⟩, fun q2 => absurd q q2⟩
        · rw [e8, li_6, nI_eq (by omega) (by decide)] at q2
          exact absurd h6 q2
        · rintro r M2 ⟨rfl, h2⟩
          refine bb_103_183 ⟨rfl, ?_⟩
          unfold p_gof
          rw [if_neg (fun c => c c1), if_neg c2, if_neg c3, if_neg c4, if_neg q1, if_pos h6]
          exact h2
      · exact t157y M P 0 x4 q h (fun _ _ _ _ _ => rfl) h6 (by decide) (by
          unfold p_gof
          rw [if_neg (fun c => c c1), if_neg c2, if_neg c3, if_neg c4, if_neg q1, if_neg h6])
    · rw [e8, li_5, Decidable.not_not, nI_eq (by omega) (by decide)] at q1
      obtain ⟨c1, c2, c3, c4⟩ := hx1 q
      have h1 : RC g (pS P 165 (s_ P 200 t) (t + 1)) (sm_putR M (g.1 8 (s_ P 200 t)) 5 (some (g.1 10 t))) := rc_w85 h hd (by omega) (by rw [if_neg (by omega), Nat.add_sub_cancel])
      exact t157y _ _ 0 x4 q h1 (fun f _ _ hf i => by rw [s_S, if_neg (fun q => hf q.1)]) (by omega) (by decide) (by
        unfold p_gof
        rw [if_neg (fun c => c c1), if_neg c2, if_neg c3, if_neg c4, if_pos q1, q1])
  have t88 : ∀ (x4 : Int32), (x4 = 0 → ¬ isCmp P t) → (¬ x4 = 0 → isCmp P t ∧ s_ P 208 t ≠ 1 ∧ s_ P 208 t ≠ 2) → sm_Run (D + 4) 103 88 [some (.inr (some (g.1 6 0))), some (.inr (some (g.1 10 t))), some (.inr (some (g.1 8 (s_ P 200 t)))), some (.inl 0), some (.inl x4)] [] M (fun r M' => r = none ∧ ∃ g', gx g g' ∧ gO n0 u0 g' (p_gof P t) ∧ RC g' (p_gof P t) M') := by
    intro x4 hx0 hx1
    refine bb_103_88 ⟨fun q => t139 x4 hx0 (fun c => absurd q c), fun q => ⟨_, rfl, rc_K h l10, fun q1 => ?_, fun q1 => ?_⟩⟩
    · rw [e8, li_4, nI_eq (by omega) (by decide)] at q1
      exact t139 x4 hx0 (fun c => ⟨(hx1 c).1, (hx1 c).2.1, (hx1 c).2.2, q1⟩)
    · rw [e8, li_4, Decidable.not_not, nI_eq (by omega) (by decide)] at q1
      obtain ⟨c1, c2, c3⟩ := hx1 q
      have h3 := hv4 c1 q1
      refine ru_mono (bt (k := 2) (by omega) (by decide)) ?_
      rintro v M1 ⟨rfl, hM⟩
      subst hM
      refine bb_103_106 ⟨_, rfl, rc_K h l10, ru_mono (bt (k := 3) (by omega) (by decide)) ?_⟩
      rintro v M1 ⟨rfl, hM⟩
      subst hM
      have et : nI ((b_ P 36 t).getD 2 0) + 256 * nI ((b_ P 36 t).getD 3 0) = nI (tot4 P t) := by
        rw [li_256, pk_mul, nI_add]; rfl
      have b2 := bb 2
      have b3 := bb 3
      have htl : tot4 P t < 100000 := by unfold tot4; omega
      refine bb_103_114 ⟨fun q2 => bb_103_133 ?_, fun q2 => ⟨fun q3 => bb_103_133 ?_, fun q3 => ?_⟩⟩
      · rw [et, li_18, nI_ltI (by omega) (by decide)] at q2
        exact t157n M P _ h rfl rfl (by unfold p_gof; rw [if_neg (fun c => c c1), if_neg c2, if_neg c3, if_pos q1, if_pos (Or.inl q2)])
      · rw [et, li_60, nI_ltI (by decide) (by omega)] at q3
        exact t157n M P _ h rfl rfl (by unfold p_gof; rw [if_neg (fun c => c c1), if_neg c2, if_neg c3, if_pos q1, if_pos (Or.inr q3)])
      · rw [et, li_18, nI_ltI (by omega) (by decide)] at q2
        rw [et, li_60, nI_ltI (by decide) (by omega)] at q3
        rw [et]
        exact t157y M P (tot4 P t) 1 (by decide) h (fun _ _ _ _ _ => rfl) (by omega) (by omega) (by
          unfold p_gof
          rw [if_neg (fun c => c c1), if_neg c2, if_neg c3, if_pos q1, if_neg (by omega), q1])
  have t67 : ∀ (x4 : Int32), (x4 = 0 → ¬ isCmp P t) → (¬ x4 = 0 → isCmp P t ∧ s_ P 208 t ≠ 1) → sm_Run (D + 4) 103 67 [some (.inr (some (g.1 6 0))), some (.inr (some (g.1 10 t))), some (.inr (some (g.1 8 (s_ P 200 t)))), some (.inl 0), some (.inl x4)] [] M (fun r M' => r = none ∧ ∃ g', gx g g' ∧ gO n0 u0 g' (p_gof P t) ∧ RC g' (p_gof P t) M') := by
    intro x4 hx0 hx1
    refine bb_103_67 ⟨fun q => t88 x4 hx0 (fun c => absurd q c), fun q => ⟨_, rfl, rc_K h l10, fun q1 => ?_, fun q1 => ⟨_, rfl, rc_K h l8, ?_⟩⟩⟩
    · rw [e8, li_2, nI_eq (by omega) (by decide)] at q1
      exact t88 x4 hx0 (fun c => ⟨(hx1 c).1, (hx1 c).2, q1⟩)
    · rw [e8, li_2, Decidable.not_not, nI_eq (by omega) (by decide)] at q1
      obtain ⟨c1, c2⟩ := hx1 q
      exact t157y _ (pS P 161 (s_ P 200 t) 1) 0 x4 q (rc_w' h l8 (show 1 < 2 ^ 31 by decide)) (fun f _ hf _ i => by rw [s_S, if_neg (fun q => hf q.1)]) (by omega) (by decide) (by
        unfold p_gof
        rw [if_neg (fun c => c c1), if_neg c2, if_pos q1, q1])
  refine bb_103_0 ⟨rc_K h l6, _, rfl, rc_K h l10, _, rd_6_0 h, ⟨8, rc_K h l33⟩, ?_, ?_⟩
  · rw [e0]; exact rc_in h l33 (by decide) (show s_ P 200 t < 6 from hd) (by decide)
  rw [e0, nI_clamp (by omega), rd_33_i h hd]
  refine ru_mono (c_isComplete h ht) ?_
  rintro v M1 ⟨rfl, hM⟩
  subst hM
  refine bb_103_16 ⟨fun q => ?_, fun q => ⟨_, rfl, rc_K h l10, fun q1 => ?_, fun q1 => ?_⟩⟩
  · have q' := q
    rw [bI_t] at q'
    exact t67 _ (fun _ => q') (fun c => absurd q c)
  · have q' := q
    rw [bI_t, Decidable.not_not] at q'
    rw [e8, li_1, nI_eq (by omega) (by decide)] at q1
    exact t67 _ (fun c => absurd c q) (fun _ => ⟨q', q1⟩)
  · have q' := q
    rw [bI_t, Decidable.not_not] at q'
    rw [e8, li_1, Decidable.not_not, nI_eq (by omega) (by decide)] at q1
    have h7 := hv1 q' q1
    have b7 := bb 7
    refine ru_mono (bt (k := 7) h7 (by decide)) ?_
    rintro v M1 ⟨rfl, hM⟩
    subst hM
    refine bb_103_37 (ru_mono (c_isBk (by omega)) ?_)
    rintro v M1 ⟨rfl, hM⟩
    subst hM
    refine bb_103_40 ⟨fun q2 => ⟨_, rfl, rc_K h l8, ?_⟩, fun q2 => ⟨_, rfl, rc_K h l10, ?_⟩⟩
    · have q2' := q2
      rw [bI_t] at q2'
      rw [q2, rI_162 h hd]
      have hw := rc_w' (c := 8) (k := 2) (f := 162) (v := nI (s_ P 162 (s_ P 200 t))) h l8 (rc_B h 162 _)
      rw [pSe] at hw
      exact t157n _ P 0 hw rfl rfl (by unfold p_gof; rw [if_neg (fun c => c q'), if_pos q1, if_neg q2'])
    · have q2' := q2
      rw [bI_t, Decidable.not_not] at q2'
      refine ru_mono (bt (k := 7) h7 (by decide)) ?_
      rintro v M1 ⟨rfl, hM⟩
      subst hM
      refine bb_103_54 ⟨_, rfl, rc_K h l8, ?_⟩
      exact t157y _ (pS P 162 (s_ P 200 t) ((b_ P 36 t).getD 7 0)) 0 _ q2 (rc_w' h l8 (by omega)) (fun f hf _ _ i => by rw [s_S, if_neg (fun q => hf q.1)]) (by omega) (by decide) (by
        unfold p_gof
        rw [if_neg (fun c => c q'), if_pos q1, if_pos q2', q1])
/-- Host.finish -/
def p_fin (P : pP) (t : Nat) : pP :=
  if s_ P 213 t ≠ 0 then pS P 184 (s_ P 213 t) (if s_ P 211 t = 1 then 1 else 0)
  else if 0 < s_ P 208 t then p_gof P t
  else if s_ P 211 t = 1 then p_clear P (s_ P 200 t) t
  else P
theorem clear_s {d t f i : Nat} (hf : f ≠ 184 ∧ f ≠ 185) : s_ (p_clear P d t) f i = s_ P f i := by
  unfold p_clear
  split
  · exact reAll_s hf _
  · split
    · split
      · rfl
      · unfold p_reop; rw [s_S, if_neg (by omega), s_S, if_neg (by omega)]
    · rfl
theorem c_fin {n0 u0 t : Nat} (h : RC g P M) (hg : gO n0 u0 g P) (ht : t < s_ P 122 0) (hd : s_ P 200 t < 6) (hG : s_ P 213 t = 0 → 0 < s_ P 208 t → GF P t) : sm_Run (D + 5) 102 0 (sm_ent 102 [.inr (some (g.1 6 0)), .inr (some (g.1 10 t))]) [] M (fun r M' => r = none ∧ ∃ g', gx g g' ∧ gO n0 u0 g' (p_fin P t) ∧ RC g' (p_fin P t) M') := by
  obtain ⟨l10, l36, l9⟩ := lq_10 h ht
  have l6 := rc_st h (c := 6) (i := 0) (by decide)
  have l33 := rc_st h (c := 33) (i := 0) (by decide)
  have l90 : g.2.1 9 0 = true := rc_st h (by decide)
  have l8 := rc_st h (c := 8) hd
  have e11 := rI_211 h l10
  have r1 := rd_10_1 h ht
  have r4 := rd_6_4 h
  unfold p_fin
  refine bb_102_0 ⟨_, rfl, rc_K h l10, rc_K h l6, fun q => ?_, fun q => ?_⟩
  · rw [r1, r4] at q
    have hz : s_ P 213 t = 0 := h.1.1.2.2.2.2.1 9 _ _ l9 l90 (Option.some.inj q)
    rw [if_neg (by omega)]
    refine ⟨fun q1 => ⟨fun q2 => ?_, fun q2 => ⟨_, rd_6_0 h, ⟨8, rc_K h l33⟩, ?_, g.1 8 (s_ P 200 t), ?_, rc_K h l8, ru_mono (c_clear h hd ht) ?_⟩⟩, fun q1 => ?_⟩
    · rw [rI_208 h l10, li_0, nI_leI (rc_B h _ _) (by decide)] at q1
      rw [e11, li_1, nI_eq (rc_B h _ _) (by decide)] at q2
      rw [if_neg (by omega), if_neg q2]
      exact ⟨rfl, g, gx_rf, hg, h⟩
    · rw [rI_200 h l10]; exact rc_in h l33 (by decide) (show s_ P 200 t < 6 from hd) (by decide)
    · rw [rI_200 h l10, nI_clamp (by omega)]; exact rd_33_i h hd
    · rw [rI_208 h l10, li_0, nI_leI (rc_B h _ _) (by decide)] at q1
      rw [e11, li_1, Decidable.not_not, nI_eq (rc_B h _ _) (by decide)] at q2
      rintro r M1 ⟨rfl, h1⟩
      rw [if_neg (by omega), if_pos q2]
      exact bb_102_70 ⟨rfl, g, gx_rf, gO_eq hg (clear_s (by decide)) (clear_s (by decide)), h1⟩
    · rw [rI_208 h l10, li_0, nI_leI (rc_B h _ _) (by decide)] at q1
      rw [if_pos (by omega)]
      refine ru_mono (c_gof (D := D) h hg ht (hG hz (by omega))) ?_
      rintro r M1 ⟨rfl, h1⟩
      exact bb_102_46 ⟨rfl, h1⟩
  · rw [r1, r4] at q
    have hz : s_ P 213 t ≠ 0 := by
      intro hz
      rw [hz] at q
      exact q rfl
    rw [if_pos hz]
    refine ⟨fun q1 => ⟨_, r1, rc_K h l9, rfl, g, gx_rf, ?_, ?_⟩, fun q1 => ⟨_, r1, rc_K h l9, rfl, g, gx_rf, ?_, ?_⟩⟩
    · exact gO_S hg (by decide) (by decide)
    · rw [e11, li_1, nI_eq (rc_B h _ _) (by decide)] at q1
      rw [if_neg q1]
      exact rc_w' h l9 (show 0 < 2 ^ 31 by decide)
    · exact gO_S hg (by decide) (by decide)
    · rw [e11, li_1, Decidable.not_not, nI_eq (rc_B h _ _) (by decide)] at q1
      rw [if_pos q1]
      exact rc_w' h l9 (show 1 < 2 ^ 31 by decide)
end FI
