/-! WireBus.endpoint -/
section EP
variable {g : pG} {P : pP} {M M' : sm_M} {D : Nat}
abbrev isIn (x : Int32) : Prop := ¬ x < 129 ∧ ¬ (135 : Int32) < x
abbrev isEp (x s v : Int32) : Prop := (isIn x ∨ (¬ x < 1 ∧ x ≤ 7)) ∧ ((v = 0 ∧ isBkI s) ∨ (¬ v = 0 ∧ isIn x ∧ ¬ v < 1 ∧ ¬ (255 : Int32) < v ∧ ¬ s < 1 ∧ ¬ (64 : Int32) < s))
theorem c_isEp {x s v : Int32} : sm_Run (D + 1) 23 0 (sm_ent 23 [.inl x, .inl s, .inl v]) [] M (fun r M' => r = some (.inl (bI (decide (isEp x s v)))) ∧ M = M') := by
  have t37 : ∀ y, ((y = (1 : Int32) ∧ isIn x) ∨ (y = 0 ∧ ¬ isIn x ∧ ¬ x < 1 ∧ x ≤ 7)) → sm_Run (D + 1) 23 37 [some (.inl x), some (.inl s), some (.inl v), some (.inl y)] [] M (fun r M' => r = some (.inl (bI (decide (isEp x s v)))) ∧ M = M') := by
    intro y hy
    have hx : isIn x ∨ (¬ x < 1 ∧ x ≤ 7) := hy.elim (fun c => Or.inl c.2) (fun c => Or.inr c.2.2)
    have no : ¬ isEp x s v → (some (.inl 0) : Option sm_V) = some (.inl (bI (decide (isEp x s v)))) := fun c => by rw [decide_eq_false c]; rfl
    refine bb_23_37 ⟨fun q => ⟨fun q1 => ⟨no ?_, rfl⟩, fun q1 => ⟨fun q2 => ⟨no ?_, rfl⟩, fun q2 => ⟨fun q3 => ⟨no ?_, rfl⟩, fun q3 => ⟨fun q4 => ⟨no ?_, rfl⟩, fun q4 => ⟨fun q5 => ⟨no ?_, rfl⟩, fun q5 => ⟨?_, rfl⟩⟩⟩⟩⟩⟩, fun q => ru_mono c_isBkI ?_⟩
    · rintro ⟨-, ⟨c, -⟩ | ⟨-, c, -⟩⟩
      · exact q c
      · rcases hy with ⟨rfl, -⟩ | ⟨-, c2, -⟩
        · exact absurd q1 (by decide)
        · exact c2 c
    · rintro ⟨-, ⟨c, -⟩ | ⟨-, -, c, -⟩⟩
      · exact q c
      · exact c q2
    · rintro ⟨-, ⟨c, -⟩ | ⟨-, -, -, c, -⟩⟩
      · exact q c
      · exact c q3
    · rintro ⟨-, ⟨c, -⟩ | ⟨-, -, -, -, c, -⟩⟩
      · exact q c
      · exact c q4
    · rintro ⟨-, ⟨c, -⟩ | ⟨-, -, -, -, -, c⟩⟩
      · exact q c
      · exact c q5
    · have hin : isIn x := by
        rcases hy with ⟨-, c⟩ | ⟨c, -⟩
        · exact c
        · exact absurd c q1
      rw [decide_eq_true (show isEp x s v from ⟨hx, Or.inr ⟨q, hin, q2, q3, q4, q5⟩⟩)]; rfl
    · rw [Decidable.not_not] at q
      rintro r M1 ⟨rfl, hM⟩
      subst hM
      refine bb_23_45 ⟨?_, ?_, rfl⟩
      · cases decide (isBkI s) <;> rfl
      · have : decide (isBkI s) = decide (isEp x s v) := by
          by_cases c : isBkI s
          · rw [decide_eq_true c, decide_eq_true (show isEp x s v from ⟨hx, Or.inl ⟨q, c⟩⟩)]
          · rw [decide_eq_false c, decide_eq_false]
            rintro ⟨-, ⟨-, c1⟩ | ⟨c1, -⟩⟩
            · exact c c1
            · exact c1 q
        rw [this]
  have t18 : ¬ isIn x → sm_Run (D + 1) 23 18 [some (.inl x), some (.inl s), some (.inl v), none] [] M (fun r M' => r = some (.inl (bI (decide (isEp x s v)))) ∧ M = M') := by
    intro c
    refine bb_23_18 ⟨fun q => ⟨?_, rfl⟩, fun q => ⟨fun q1 => t37 0 (Or.inr ⟨rfl, c, q, q1⟩), fun q1 => ⟨?_, rfl⟩⟩⟩
    · rw [decide_eq_false (by rintro ⟨c1 | c1, -⟩; exact c c1; exact c1.1 q)]; rfl
    · rw [decide_eq_false (by rintro ⟨c1 | c1, -⟩; exact c c1; exact q1 c1.2)]; rfl
  exact bb_23_0 ⟨fun q => t18 (fun c => c.1 q), fun q => ⟨fun q1 => t18 (fun c => c.2 q1), fun q1 => t37 1 (Or.inl ⟨rfl, q, q1⟩)⟩⟩
theorem nn_of_nlt {x : Int32} {m n : Nat} {a b : Int32} (ha : a = nI m) (hm : m < 2 ^ 31) (hb : b = nI n) (hn : n < 2 ^ 31) (h1 : ¬ x < a) (h2 : ¬ b < x) : ∃ j, x = nI j ∧ m ≤ j ∧ j ≤ n := by
  obtain ⟨j, hj, rfl⟩ := nI_of (nlt_nn ha hm h1)
  subst ha; subst hb
  rw [nI_ltI hj hm] at h1
  rw [nI_ltI hn hj] at h2
  exact ⟨j, rfl, by omega, by omega⟩
theorem ep_nI {x s v : Int32} (h : isEp x s v) : ∃ a z i, x = nI a ∧ s = nI z ∧ v = nI i ∧ ((1 ≤ a ∧ a ≤ 7) ∨ (129 ≤ a ∧ a ≤ 135)) ∧ 1 ≤ z ∧ z ≤ 64 ∧ i ≤ 255 ∧ (i ≠ 0 → 129 ≤ a) ∧ (i = 0 → isBk z) := by
  obtain ⟨hx, hr⟩ := h
  have ha : ∃ a, x = nI a ∧ ((1 ≤ a ∧ a ≤ 7) ∨ (129 ≤ a ∧ a ≤ 135)) := by
    rcases hx with ⟨c1, c2⟩ | ⟨c1, c2⟩
    · obtain ⟨j, e, j1, j2⟩ := nn_of_nlt (show (129 : Int32) = nI 129 from rfl) (by decide) (show (135 : Int32) = nI 135 from rfl) (by decide) c1 c2
      exact ⟨j, e, Or.inr ⟨j1, j2⟩⟩
    · obtain ⟨j, hj, rfl⟩ := nI_of (nlt_nn li_1 (by decide) c1)
      rw [li_1, nI_ltI hj (by decide)] at c1
      rw [li_7, nI_leI hj (by decide)] at c2
      exact ⟨j, rfl, Or.inl ⟨by omega, c2⟩⟩
  obtain ⟨a, rfl, ha⟩ := ha
  rcases hr with ⟨rfl, hb⟩ | ⟨hv, hin, v1, v2, s1, s2⟩
  · obtain ⟨e1, e2, e3⟩ := bkI_nI hb
    exact ⟨a, s.toNatClampNeg, 0, rfl, e1, rfl, ha, by unfold isBk at e3; omega, by omega, by decide, fun c => absurd rfl c, fun _ => e3⟩
  · obtain ⟨i, rfl, i1, i2⟩ := nn_of_nlt li_1 (by decide) li_255 (by decide) v1 v2
    obtain ⟨z, rfl, z1, z2⟩ := nn_of_nlt li_1 (by decide) li_64 (by decide) s1 s2
    refine ⟨a, z, i, rfl, rfl, rfl, ha, z1, z2, i2, fun _ => ?_, fun c => by omega⟩
    have := hin.1
    rw [show (129 : Int32) = nI 129 from rfl, nI_ltI (by omega) (by decide)] at this
    omega
/-- new Endpoint -/
theorem c_einit : sm_Run (D + 2) 78 0 (sm_ent 78 [.inr (some (sm_N M))]) [] (sm_new M 18 0 7) (fun v M' => v = none ∧ FE (sm_N M) M' (sm_N M) (sm_N M + 1) (sm_N M + 2) ∧ old_ (sm_N M) M M' ∧ sm_N M' = sm_N M + 3 ∧ sm_U M' = sm_U M + 266) := by
  refine bb_78_0 ?_
  have e256 : (if (1 : Int32) < 256 then (256 : Int32) else 1) = 256 := rfl
  have hb : sm_Run (D + 1) 29 0 (sm_ent 29 [.inr (some (sm_N (sm_new M 18 0 7))), .inl 256]) [] (sm_new (sm_new M 18 0 7) 6 0 3) (fun v M' => v = none ∧ M' = sm_putR (sm_new (sm_new (sm_new M 18 0 7) 6 0 3) 5 256 256) (sm_N M + 1) 0 (some (sm_N M + 2))) := by
    refine bb_29_0 ?_
    rw [e256, show (256 : Int32).toNatClampNeg = 256 from rfl]
    refine ⟨by decide, ?_, rfl, rfl⟩
    rw [K_new, if_neg (by show sm_N M + 1 ≠ sm_N M + 1 + 1; omega), K_new, if_pos rfl]
  refine ru_mono hb ?_
  rintro v M1 ⟨rfl, rfl⟩
  refine bb_78_15 ⟨?_, rfl, ?_, ?_, rfl, rfl⟩
  · have n2 : ¬ sm_N M = sm_N M + 1 + 1 := by omega
    simp [K_new, K_putR, N_new, n2]
  · refine ⟨?_, ?_, ?_, Nat.le_refl _, by omega, by omega, by show sm_N M < sm_N M + 1 + 1 + 1; omega, by show sm_N M + 1 < sm_N M + 1 + 1 + 1; omega, by show sm_N M + 2 < sm_N M + 1 + 1 + 1; omega, ?_, fun k => ?_, fun k => ?_, ?_, ?_⟩
    all_goals (have n2 : ¬ sm_N M = sm_N M + 1 + 1 := by omega)
    all_goals simp [K_new, L_new, I_new, R_put, I_putR, N_new, K_putR, L_putR, n2]
  · exact old_tr (old_tr (old_tr (old_new (Nat.le_refl _)) (old_new (by show sm_N M ≤ sm_N M + 1; omega))) (old_tr (old_new (by show sm_N M ≤ sm_N M + 1 + 1; omega)) (old_putR (by omega)))) (old_putR (Nat.le_refl _))
theorem eBec_mkE {e a s i : Nat} : p_eBec (p_mkE P e) e a s i = p_eBec P e a s i := by
  refine pP_ext (fun f j => ?_) (fun c j => ?_) (fun p => rfl)
  · unfold p_eBec
    rw [s_eRs, s_eRs]
    by_cases h1 : (f = 103 ∨ f = 104 ∨ f = 105) ∧ j = e
    · rw [if_pos h1, if_pos h1]
    · rw [if_neg h1, if_neg h1, s_B, s_B, s_S, s_S, s_S, s_S, s_S, s_S, s_mkE]
      by_cases h2 : f = 102 ∧ j = e
      · rw [if_pos h2, if_pos h2]
      · rw [if_neg h2, if_neg h2]
        by_cases h3 : f = 101 ∧ j = e
        · rw [if_pos h3, if_pos h3]
        · rw [if_neg h3, if_neg h3]
          by_cases h4 : f = 100 ∧ j = e
          · rw [if_pos h4, if_pos h4]
          · rw [if_neg h4, if_neg h4, if_neg (by omega)]
  · unfold p_eBec p_eRs
    rw [b_S, b_S, b_S, b_S, b_S, b_S, b_B, b_B, b_S, b_S, b_S, b_S, b_S, b_S, b_mkE]
    by_cases h : c = 1 ∧ j = 1 + e
    · rw [if_pos h, if_pos h]
    · rw [if_neg h, if_neg h]
theorem filt_up {p q : Nat → Bool} {e : Nat} (h1 : ∀ i, q i = true ↔ (p i = true ∨ i = e)) (h2 : p e = false) : ∀ n, ((List.range n).filter q).length = ((List.range n).filter p).length + if e < n then 1 else 0 := by
  intro n
  induction n with
  | zero => rfl
  | succ n ih =>
    rw [List.range_succ, List.filter_append, List.filter_append, List.length_append, List.length_append, ih]
    by_cases hn : n = e
    · subst hn
      have a1 : q n = true := (h1 n).mpr (Or.inr rfl)
      rw [List.filter_cons_of_pos a1, List.filter_cons_of_neg (by rw [h2]; decide), if_neg (by omega), if_pos (by omega)]
      rfl
    · have a1 : q n = p n := by
        cases hq : q n
        · cases hp : p n
          · rfl
          · rw [(h1 n).mpr (Or.inl hp)] at hq; cases hq
        · rcases (h1 n).mp hq with c | c
          · exact c.symm
          · exact absurd c hn
      have a2 : List.filter q [n] = List.filter p [n] := by
        rw [List.filter_cons, List.filter_cons, a1]; rfl
      rw [a2]
      by_cases c : e < n
      · rw [if_pos c, if_pos (by omega)]; omega
      · rw [if_neg c, if_neg (by omega)]; omega
theorem gO_E {n0 u0 e a b c : Nat} (h : gO n0 u0 g P) (he : e < 36) (hl : g.2.1 5 e = false) : gO n0 u0 (gE g e a b c (g.2.2.1 + 3) (g.2.2.2 + 266)) (p_mkE P e) := by
  obtain ⟨h1, h2, h3, h4, h5⟩ := h
  have s122 : s_ (p_mkE P e) 122 0 = s_ P 122 0 := by rw [s_mkE, if_neg (by omega)]
  have s130 : s_ (p_mkE P e) 130 0 = s_ P 130 0 := by rw [s_mkE, if_neg (by omega)]
  have e5 : ∀ i, (gE g e a b c (g.2.2.1 + 3) (g.2.2.2 + 266)).2.1 5 i = true ↔ (g.2.1 5 i = true ∨ i = e) := by
    intro i
    rw [gE_2, if_neg (by omega), if_neg (by omega)]
    by_cases q : i = e
    · rw [if_pos ⟨rfl, q⟩]; simp [q]
    · rw [if_neg (fun c => q c.2)]; simp [q]
  have ef := filt_up (p := fun i => g.2.1 5 i) (q := fun i => (gE g e a b c (g.2.2.1 + 3) (g.2.2.2 + 266)).2.1 5 i) e5 hl 36
  rw [if_pos he] at ef
  unfold gO
  rw [s122, s130, ef]
  refine ⟨fun t ht => ?_, fun i hi => ?_, fun e' he' => ?_, ?_, ?_⟩
  · rw [gE_2, if_neg (by omega), if_neg (by omega), if_neg (by omega), gE_2, if_neg (by omega), if_neg (by omega), if_neg (by omega)]
    exact h1 t ht
  · rw [gE_2, if_neg (by omega), if_neg (by omega), if_neg (by omega)]
    exact h2 i hi
  · have hne : e' ≠ e := by
      rintro rfl
      rw [gE_2, if_neg (by omega), if_neg (by omega), if_pos ⟨rfl, rfl⟩] at he'; cases he'
    rw [gE_2, if_neg (by omega), if_neg (by omega), if_neg (by omega)] at he'
    rw [gE_2, if_neg (by omega), if_neg (by omega), if_neg (by omega), gE_2, if_neg (by omega), if_neg (by omega), if_neg (by omega)]
    exact h3 e' he'
  · show g.2.2.1 + 3 ≤ _; omega
  · show g.2.2.2 + 266 ≤ _; omega
theorem gx_E {n0 u0 e a b c n u : Nat} (h : gO n0 u0 g P) (hl : g.2.1 5 e = false) : gx g (gE g e a b c n u) := by
  intro c' i hl'
  obtain ⟨a1, a2⟩ := h.2.2.1 e hl
  have q1 : ¬ (c' = 21 ∧ i = 1 + e) := by rintro ⟨rfl, rfl⟩; rw [a2] at hl'; cases hl'
  have q2 : ¬ (c' = 1 ∧ i = 1 + e) := by rintro ⟨rfl, rfl⟩; rw [a1] at hl'; cases hl'
  have q3 : ¬ (c' = 5 ∧ i = e) := by rintro ⟨rfl, rfl⟩; rw [hl] at hl'; cases hl'
  rw [gE_2, if_neg q1, if_neg q2, if_neg q3, gE_1, if_neg q1, if_neg q2, if_neg q3]
  exact ⟨hl', rfl⟩
/-- Device.addEndpoint -/
def p_addE (P : pP) (d a s i : Nat) : Option Int32 × pP := if 6 ≤ s_ P 86 d ∨ (p_findI P d (nI a)).isSome = true then (some 0, P) else (some 1, pS (p_eBec P (6 * d + s_ P 86 d) a s i) 86 d (s_ P 86 d + 1))
theorem eBec_s {e a s i f j : Nat} (hf : f < 100 ∨ 106 ≤ f) : s_ (p_eBec P e a s i) f j = s_ P f j := by
  unfold p_eBec
  rw [s_eRs, if_neg (by omega), s_B, s_S, if_neg (by omega), s_S, if_neg (by omega), s_S, if_neg (by omega)]
theorem c_addE {n0 u0 d a s i : Nat} (h : RC g P M) (hg : gO n0 u0 g P) (hd : d < 6) (ha : a < 2 ^ 31) (hs : s < 2 ^ 31) (hi : i < 2 ^ 31) : sm_Run (D + 3) 61 0 (sm_ent 61 [.inr (some (g.1 4 d)), .inl (nI a), .inl (nI s), .inl (nI i)]) [] M (fun v M' => v = (p_addE P d a s i).1.map Sum.inl ∧ ∃ g', gx g g' ∧ gO n0 u0 g' (p_addE P d a s i).2 ∧ RC g' (p_addE P d a s i).2 M') := by
  obtain ⟨l4, l3, l8, l7, l26, l28, l29, l35, l67⟩ := lq_s h hd
  obtain ⟨c6, cl, cr⟩ := rc_E h hd
  unfold p_addE
  refine bb_61_0 ⟨rc_K h l4, fun q => ?_, fun q => ru_mono (c_findI h hd) ?_⟩
  · rw [rI_86 h hd, li_6, nI_leI (by decide) (by omega)] at q
    rw [if_pos (Or.inl q)]
    exact ⟨rfl, g, gx_rf, hg, h⟩
  rw [rI_86 h hd, li_6, nI_leI (by decide) (by omega)] at q
  rintro r M1 ⟨rfl, hM⟩
  subst hM
  cases hf : p_findI P d (nI a) with
  | some k =>
    rw [if_pos (show 6 ≤ s_ P 86 d ∨ (some k).isSome = true from Or.inr rfl)]
    exact bb_61_14 ⟨(fun hb => by cases hb), fun b hb => ⟨rfl, g, gx_rf, hg, h⟩⟩
  | none =>
    rw [if_neg (by rintro (c | c); exact q c; cases c)]
    have hk6 : s_ P 86 d < 6 := by omega
    have hin : sm_in_ M (g.1 26 d) (nI (s_ P 86 d)) := rc_in h l26 (by decide) (show s_ P 86 d < 6 from hk6) (by decide)
    -- the rest, once the place is filled
    have rest : ∀ (g1 : pG) (P1 : pP) (M1 : sm_M), gx g g1 → gO n0 u0 g1 P1 → RC g1 P1 M1 → g1.2.1 5 (6 * d + s_ P 86 d) = true → s_ P1 86 d = s_ P 86 d → p_eBec P1 (6 * d + s_ P 86 d) a s i = p_eBec P (6 * d + s_ P 86 d) a s i → sm_Run (D + 3) 61 47 [some (.inr (some (g.1 4 d))), some (.inl (nI a)), some (.inl (nI s)), some (.inl (nI i))] [] M1 (fun v M' => v = (some (1 : Int32)).map Sum.inl ∧ ∃ g', gx g g' ∧ gO n0 u0 g' (pS (p_eBec P (6 * d + s_ P 86 d) a s i) 86 d (s_ P 86 d + 1)) ∧ RC g' (pS (p_eBec P (6 * d + s_ P 86 d) a s i) 86 d (s_ P 86 d + 1)) M') := by
      intro g1 P1 M1 hx1 hg1 h1 l5 e86 eB
      have a4 := (hx1 4 d l4).2
      have a26 := (hx1 26 d l26).2
      have r45 := rd_4_5 h1 hd
      have x86 := rI_86 h1 hd
      rw [a4] at r45 x86
      rw [a26] at r45
      rw [e86] at x86
      have r26 := (rc_E h1 hd).2.2 (s_ P 86 d) hk6
      rw [a26, if_pos l5] at r26
      have hin1 : sm_in_ M1 (g.1 26 d) (nI (s_ P 86 d)) := by rw [← a26]; exact rc_in h1 (hx1 26 d l26).1 (by decide) (show s_ P 86 d < 6 from hk6) (by decide)
      refine bb_61_47 ⟨by rw [← a4]; exact rc_K h1 (hx1 4 d l4).1, _, r45, ⟨5, by rw [← a26]; exact rc_K h1 (hx1 26 d l26).1⟩, by rw [x86]; exact hin1, _, by rw [x86, nI_clamp (by omega)]; exact r26, rc_K h1 l5, ru_mono (c_eBecome (D := D + 1) h1 l5 ha hs hi) ?_⟩
      rintro r M2 ⟨rfl, h2⟩
      rw [eB] at h2
      have y86 := rI_86 h2 hd
      rw [a4, eBec_s (by omega)] at y86
      refine bb_61_62 ⟨by rw [← a4]; exact rc_K h2 (hx1 4 d l4).1, rfl, g1, hx1, ?_, ?_⟩
      · refine gO_S (gO_eq hg1 ?_ ?_) (by decide) (by decide)
        · rw [← eB]; exact eBec_s (by omega)
        · rw [← eB]; exact eBec_s (by omega)
      · rw [y86, nI_1]
        have := rc_w86 (n := s_ P 86 d + 1) (v := nI (s_ P 86 d + 1)) h2 hd (by omega) (fun k hk => ?_) rfl
        · rw [a4] at this; exact this
        · by_cases hkk : k = s_ P 86 d
          · subst hkk; exact l5
          · exact (hx1 5 _ (cl k (by omega))).1
    by_cases hl5 : g.2.1 5 (6 * d + s_ P 86 d) = true
    · have r26 := cr (s_ P 86 d) hk6
      rw [if_pos hl5] at r26
      refine bb_61_14 ⟨fun _ => ⟨rc_K h l4, _, rd_4_5 h hd, ⟨5, rc_K h l26⟩, by rw [rI_86 h hd]; exact hin, fun hb => ?_, fun b hb => ?_⟩, fun b hb => by cases hb⟩
      · rw [rI_86 h hd, nI_clamp (by omega), r26] at hb; cases hb
      · exact rest g P M gx_rf hg h hl5 rfl rfl
    · have hl5' : g.2.1 5 (6 * d + s_ P 86 d) = false := by simpa using hl5
      have r26 := cr (s_ P 86 d) hk6
      rw [if_neg hl5] at r26
      obtain ⟨hl1, hl21⟩ := hg.2.2.1 _ hl5'
      have hN := rc_N h
      have hU := rc_U h
      refine bb_61_14 ⟨fun _ => ⟨rc_K h l4, _, rd_4_5 h hd, ⟨5, rc_K h l26⟩, by rw [rI_86 h hd]; exact hin, fun _ => ?_, fun b hb => ?_⟩, fun b hb => by cases hb⟩
      · rw [rI_86 h hd, rd_4_5 h hd]
        refine ru_mono (c_einit (D := D)) ?_
        rintro r M2 ⟨rfl, hF, ho, hN2, hU2⟩
        rw [hN] at hF ho
        have h2 := rc_old (M' := M2) h ho rfl rfl (by omega)
        have h3 := rc_mkE h ho (by omega) hd hk6 (Nat.le_refl _) hF hl5' hl1 hl21
        have eN : sm_N M2 = g.2.2.1 + 3 := by omega
        have eU : sm_U M2 = g.2.2.2 + 266 := by omega
        rw [eN, eU] at h3
        rw [hN]
        refine bb_61_46 ⟨_, rfl, ⟨5, (rc_K h2 l26 :), by decide, fun q hq => by cases hq; exact hF.1⟩, (rc_in h2 l26 (by decide) (show s_ P 86 d < 6 from hk6) (by decide) :), ?_⟩
        rw [nI_clamp (by omega)]
        exact rest _ _ _ (gx_E hg hl5') (gO_E hg (by omega) hl5') h3 (by rw [gE_2, if_neg (by omega), if_neg (by omega), if_pos ⟨rfl, rfl⟩]) (by rw [s_mkE, if_neg (by omega)]) eBec_mkE
      · rw [rI_86 h hd, nI_clamp (by omega), r26] at hb; cases hb
def p_endpoint (P : pP) (x1 x2 x3 x4 : Int32) : Option Int32 × pP := match devN x1 with
  | none => (some 0, P)
  | some d => if s_ P 83 d ≠ 0 ∨ ¬ isEp x2 x3 x4 then (some 0, P) else p_addE P d x2.toNatClampNeg x3.toNatClampNeg x4.toNatClampNeg
theorem c_endpoint {n0 u0 : Nat} {x1 x2 x3 x4 : Int32} (h : RC g P M) (hg : gO n0 u0 g P) : sm_Run (D + 4) 5 0 (sm_ent 5 [.inr (some (g.1 0 0)), .inl x1, .inl x2, .inl x3, .inl x4]) [] M (fun v M' => v = (p_endpoint P x1 x2 x3 x4).1.map Sum.inl ∧ ∃ g', gx g g' ∧ gO n0 u0 g' (p_endpoint P x1 x2 x3 x4).2 ∧ RC g' (p_endpoint P x1 x2 x3 x4).2 M') := by
  have l0 := rc_st h (c := 0) (i := 0) (by decide)
  have l11 := rc_st h (c := 11) (i := 0) (by decide)
  have l25 := rc_st h (c := 25) (i := 0) (by decide)
  refine bb_5_0 (ru_mono c_isDev ?_)
  rintro r M1 ⟨rfl, hM⟩
  subst hM
  unfold p_endpoint
  cases hdv : devN x1 with
  | none => exact bb_5_4 ⟨fun _ => ⟨rfl, g, gx_rf, hg, h⟩, fun q => absurd rfl q⟩
  | some d =>
    obtain ⟨rfl, hd⟩ := devN_some hdv
    have l4 := (lq_s h hd).1
    have hin : sm_in_ M (g.1 25 0) (nI d) := rc_in h l25 (by decide) (show d < 6 from hd) (by decide)
    have r25 : sm_R M (g.1 25 0) (nI d).toNatClampNeg = some (g.1 4 d) := by rw [nI_clamp (by omega)]; exact rd_25_i h hd
    dsimp only
    refine bb_5_4 ⟨fun q => absurd q (show ¬ bI true = 0 by decide), fun _ => ⟨rc_K h l0, _, rd_0_3 h, rc_K h l11, _, rd_11_3 h, ⟨4, rc_K h l25⟩, hin, _, r25, rc_K h l4, fun q => ?_, fun q => ru_mono (c_isEp (D := D + 2)) ?_⟩⟩
    · rw [rI_83 h hd, li_0, nI_eq (rc_B h _ _) (by decide)] at q
      rw [if_pos (Or.inl q)]
      exact ⟨rfl, g, gx_rf, hg, h⟩
    · rw [rI_83 h hd, li_0, Decidable.not_not, nI_eq (rc_B h _ _) (by decide)] at q
      rintro r M1 ⟨rfl, hM⟩
      subst hM
      refine bb_5_29 ⟨fun q1 => ⟨rc_K h l0, _, rd_0_3 h, rc_K h l11, _, rd_11_3 h, ⟨4, rc_K h l25⟩, hin, _, r25, rc_K h l4, ?_⟩, fun q1 => ?_⟩
      · rw [bI_t, Decidable.not_not] at q1
        rw [if_neg (by rintro (c | c); exact c q; exact c q1)]
        obtain ⟨a, z, i, rfl, rfl, rfl, a1, a2, a3, a4, a5, a6⟩ := ep_nI q1
        rw [nI_clamp (by omega), nI_clamp (by omega), nI_clamp (by omega)]
        refine ru_mono (c_addE (D := D) h hg hd (by omega) (by omega) (by omega)) ?_
        rintro r M2 ⟨rfl, h2⟩
        have hb : ∃ b : Bool, (p_addE P d a z i).1 = some (bI b) := by
          unfold p_addE
          split
          · exact ⟨false, rfl⟩
          · exact ⟨true, rfl⟩
        obtain ⟨b, hb⟩ := hb
        rw [hb]
        refine bb_5_50 ⟨?_, rfl, h2⟩
        cases b <;> rfl
      · rw [Decidable.not_not, bI_t] at q1
        rw [if_pos (Or.inr q1)]
        exact ⟨rfl, g, gx_rf, hg, h⟩
end EP
