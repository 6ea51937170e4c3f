/-! Endpoints are made -/
section PT
variable {g : pG} {P : pP} {M M' : sm_M} {D : Nat}
theorem fi_k {c k : Nat} (h : fi c k = true) : k < 20 := by
  have : ∀ c, c < 12 → ∀ k, fi c k = true → k < 20 := by
    intro c hc k hk
    match c, hc with
    | 0, _ | 1, _ | 2, _ | 3, _ | 4, _ | 5, _ | 6, _ | 7, _ | 8, _ | 9, _ | 10, _ | 11, _ => simp [fi] at hk <;> omega
  exact this c (fi_c h) k h
theorem pP_ext {P Q : pP} (h1 : ∀ f i, s_ P f i = s_ Q f i) (h2 : ∀ c i, b_ P c i = b_ Q c i) (h3 : ∀ p, f_ P p = f_ Q p) : P = Q := by
  obtain ⟨a, b, c⟩ := P
  obtain ⟨a', b', c'⟩ := Q
  have e1 : a = a' := funext fun f => funext fun i => h1 f i
  have e2 : b = b' := funext fun f => funext fun i => h2 f i
  have e3 : c = c' := funext fun p => h3 p
  subst e1; subst e2; subst e3; rfl
def p_mkE (P : pP) (e : Nat) : pP := pB (pS (pS (pS (pS (pS (pS P 100 e 0) 101 e 0) 102 e 0) 103 e 0) 104 e 0) 105 e 0) 1 (1 + e) []
theorem s_mkE {e f i : Nat} : s_ (p_mkE P e) f i = if i = e ∧ 100 ≤ f ∧ f < 106 then 0 else s_ P f i := by
  unfold p_mkE
  simp only [s_B, s_S]
  by_cases hi : i = e
  · subst hi
    simp only [and_true, true_and]
    by_cases h5 : f = 105
    · subst h5; rfl
    by_cases h4 : f = 104
    · subst h4; rfl
    by_cases h3 : f = 103
    · subst h3; rfl
    by_cases h2 : f = 102
    · subst h2; rfl
    by_cases h1 : f = 101
    · subst h1; rfl
    by_cases h0 : f = 100
    · subst h0; rfl
    rw [if_neg h5, if_neg h4, if_neg h3, if_neg h2, if_neg h1, if_neg h0, if_neg (by omega)]
  · have n1 : ∀ x, ¬ (f = x ∧ i = e) := fun x q => hi q.2
    rw [if_neg (n1 _), if_neg (n1 _), if_neg (n1 _), if_neg (n1 _), if_neg (n1 _), if_neg (n1 _), if_neg (fun q => hi q.1)]
theorem b_mkE {e c i : Nat} : b_ (p_mkE P e) c i = if c = 1 ∧ i = 1 + e then [] else b_ P c i := rfl
def gE (g : pG) (e a b c n u : Nat) : pG := ((gU (gU (gU g 5 e a) 1 (1 + e) b) 21 (1 + e) c).1, (gU (gU (gU g 5 e a) 1 (1 + e) b) 21 (1 + e) c).2.1, n, u)
theorem gE_1 {e a b c n u c' i : Nat} : (gE g e a b c n u).1 c' i = if c' = 21 ∧ i = 1 + e then c else if c' = 1 ∧ i = 1 + e then b else if c' = 5 ∧ i = e then a else g.1 c' i := rfl
theorem gE_2 {e a b c n u c' i : Nat} : (gE g e a b c n u).2.1 c' i = if c' = 21 ∧ i = 1 + e then true else if c' = 1 ∧ i = 1 + e then true else if c' = 5 ∧ i = e then true else g.2.1 c' i := rfl
def FE (n0 : Nat) (M : sm_M) (a b c : Nat) : Prop := sm_K M a = 18 ∧ sm_K M b = 6 ∧ sm_K M c = 5 ∧ n0 ≤ a ∧ n0 ≤ b ∧ n0 ≤ c ∧ a < sm_N M ∧ b < sm_N M ∧ c < sm_N M ∧ sm_L M c = 256 ∧ (∀ k, sm_I M a k = 0) ∧ (∀ k, sm_I M b k = 0) ∧ sm_R M a 6 = some b ∧ sm_R M b 0 = some c
theorem rc_mkE {M0 : sm_M} {d k a b c : Nat} (h0 : RC g P M0) (ho : old_ g.2.2.1 M0 M) (hle : g.2.2.1 ≤ sm_N M) (hd : d < 6) (hk : k < 6) (hkc : s_ P 86 d ≤ k) (hF : FE g.2.2.1 M a b c) (hl5 : g.2.1 5 (6 * d + k) = false) (hl1 : g.2.1 1 (1 + (6 * d + k)) = false) (hl21 : g.2.1 21 (1 + (6 * d + k)) = false) :
    RC (gE g (6 * d + k) a b c (sm_N M) (sm_U M)) (p_mkE P (6 * d + k)) (sm_putR M (g.1 26 d) k (some a)) := by
  have l26 : g.2.1 26 d = true := rc_st h0 (c := 26) hd
  obtain ⟨f1, f2, f3, f4, f5, f6, f7, f8, f9, f10, f11, f12, f13, f14⟩ := hF
  generalize he : 6 * d + k = e at *
  generalize hM' : sm_putR M (g.1 26 d) k (some a) = M'
  have xR : ∀ b' j, sm_R M' b' j = if b' = g.1 26 d ∧ j = k then some a else sm_R M b' j := by intro b' j; subst hM'; rfl
  have xI : sm_I M' = sm_I M := by subst hM'; rfl
  have xK : sm_K M' = sm_K M := by subst hM'; rfl
  have xL : sm_L M' = sm_L M := by subst hM'; rfl
  have xS : sm_S M' = sm_S M := by subst hM'; rfl
  have xN : sm_N M' = sm_N M := by subst hM'; rfl
  have xU : sm_U M' = sm_U M := by subst hM'; rfl
  clear hM'
  have lt : ∀ {c i}, g.2.1 c i = true → g.1 c i < g.2.2.1 := fun hl => (h0.1.1.2.2.2.1 _ _ hl).2.2
  have na : a ≠ g.1 26 d := by have := lt l26; omega
  have nb : b ≠ g.1 26 d := by have := lt l26; omega
  have RR : ∀ {c i j}, g.2.1 c i = true → ¬ (c = 26 ∧ i = d ∧ j = k) → sm_R M' (g.1 c i) j = sm_R M0 (g.1 c i) j := by
    intro c i j hl hc
    rw [xR, if_neg, (ho.1 _ (lt hl)).2.2.2]
    rintro ⟨q, rfl⟩
    by_cases hq : c = 26 ∧ i = d
    · exact hc ⟨hq.1, hq.2, rfl⟩
    · exact rf_ne h0.1.1 hl l26 hq q
  have g5 : (gE g e a b c (sm_N M) (sm_U M)).1 5 e = a := by rw [gE_1, if_neg (by omega), if_neg (by omega), if_pos ⟨rfl, rfl⟩]
  have g1 : (gE g e a b c (sm_N M) (sm_U M)).1 1 (1 + e) = b := by rw [gE_1, if_neg (by omega), if_pos ⟨rfl, rfl⟩]
  have g21 : (gE g e a b c (sm_N M) (sm_U M)).1 21 (1 + e) = c := by rw [gE_1, if_pos ⟨rfl, rfl⟩]
  have od : ∀ {c' i}, g.2.1 c' i = true → (gE g e a b c (sm_N M) (sm_U M)).2.1 c' i = true ∧ (gE g e a b c (sm_N M) (sm_U M)).1 c' i = g.1 c' i := by
    intro c' i hl
    have q1 : ¬ (c' = 21 ∧ i = 1 + e) := by rintro ⟨rfl, rfl⟩; rw [hl21] at hl; cases hl
    have q2 : ¬ (c' = 1 ∧ i = 1 + e) := by rintro ⟨rfl, rfl⟩; rw [hl1] at hl; cases hl
    have q3 : ¬ (c' = 5 ∧ i = e) := by rintro ⟨rfl, rfl⟩; rw [hl5] at hl; cases hl
    rw [gE_2, if_neg q1, if_neg q2, if_neg q3, gE_1, if_neg q1, if_neg q2, if_neg q3]
    exact ⟨hl, rfl⟩
  have ot : ∀ {c' i}, c' ≠ 21 → c' ≠ 1 → c' ≠ 5 → (gE g e a b c (sm_N M) (sm_U M)).2.1 c' i = g.2.1 c' i ∧ (gE g e a b c (sm_N M) (sm_U M)).1 c' i = g.1 c' i := by
    intro c' i h1 h2 h3
    rw [gE_2, if_neg (by omega), if_neg (by omega), if_neg (by omega), gE_1, if_neg (by omega), if_neg (by omega), if_neg (by omega)]
    exact ⟨rfl, rfl⟩
  have nw : ∀ {c' i}, (gE g e a b c (sm_N M) (sm_U M)).2.1 c' i = true → g.2.1 c' i = false → (c' = 21 ∧ i = 1 + e) ∨ (c' = 1 ∧ i = 1 + e) ∨ (c' = 5 ∧ i = e) := by
    intro c' i h1 h2
    rw [gE_2] at h1
    by_cases q1 : c' = 21 ∧ i = 1 + e
    · exact Or.inl q1
    · rw [if_neg q1] at h1
      by_cases q2 : c' = 1 ∧ i = 1 + e
      · exact Or.inr (Or.inl q2)
      · rw [if_neg q2] at h1
        by_cases q3 : c' = 5 ∧ i = e
        · exact Or.inr (Or.inr q3)
        · rw [if_neg q3, h2] at h1; cases h1
  have ns : ∀ {f i}, ¬ (i = e ∧ 100 ≤ f ∧ f < 106) → s_ (p_mkE P e) f i = s_ P f i := fun hq => by rw [s_mkE, if_neg hq]
  obtain ⟨c1, c2, c3, c4, c5, c6⟩ := h0.1.2.2
  refine rc_gen (g' := gE g e a b c (sm_N M) (sm_U M)) h0 (xN.trans rfl) (xU.trans rfl) hle (fun c' i hl => od hl) (fun b' hb' => by rw [xK, xL]; exact ⟨(ho.1 b' hb').1, (ho.1 b' hb').2.1⟩) (xS.trans ho.2) ?_ ?_ (fun c' i j hl _ => by rw [xI, (ho.1 _ (lt hl)).2.2.1]) (fun t _ ht2 => by rw [xI, (ho.1 t ht2).2.2.1]) (fun c' i j hl _ hc _ => RR hl (fun q => hc q.1)) ?_ ?_ ?_ ?_ ?_ rfl (ns (by omega)) ?_ ?_ ?_
  · intro c' i h1 h2
    rcases nw h1 h2 with ⟨rfl, rfl⟩ | ⟨rfl, rfl⟩ | ⟨rfl, rfl⟩
    · rw [g21, xK]
      exact ⟨f3, by decide, f6, f9, fun q => absurd q (by decide)⟩
    · rw [g1, xK]
      exact ⟨f2, by decide, f5, f8, fun q => absurd q (by decide)⟩
    · rw [g5, xK]
      exact ⟨f1, by decide, f4, f7, fun q => absurd q (by decide)⟩
  · intro c' i i' h1 h2 h3 h4
    rcases nw h1 h2 with ⟨a1, a2⟩ | ⟨a1, a2⟩ | ⟨a1, a2⟩ <;> rcases nw h3 h4 with ⟨b1, b2⟩ | ⟨b1, b2⟩ | ⟨b1, b2⟩ <;> omega
  · refine ⟨fun j hj => ?_, fun d' hd' => ?_, fun e' he' => ?_, ⟨?_, fun t ht => ?_⟩, fun d' hd' => ?_, fun d' hd' => ?_⟩
    · by_cases hje : j = 1 + e
      · subst hje
        rw [g1, g21, gE_2, if_pos ⟨rfl, rfl⟩, xR, if_neg (fun q => nb q.1)]
        exact ⟨f14, rfl⟩
      · have hj' : g.2.1 1 j = true := by
          rw [gE_2, if_neg (by omega), if_neg (by omega), if_neg (by omega)] at hj; exact hj
        rw [(od hj').2, (od (c1 j hj').2).2, (od (c1 j hj').2).1, RR hj' (by omega)]
        exact ⟨(c1 j hj').1, rfl⟩
    · rw [ns (by omega), (ot (c' := 26) (by decide) (by decide) (by decide)).2]
      refine ⟨(c2 d' hd').1, fun j hj => (od ((c2 d' hd').2.1 j hj)).1, fun j hj => ?_⟩
      by_cases hdd : d' = d ∧ j = k
      · obtain ⟨rfl, rfl⟩ := hdd
        have e5 : (gE g e a b c (sm_N M) (sm_U M)).2.1 5 (6 * d' + j) = true := by rw [he, gE_2, if_neg (by omega), if_neg (by omega), if_pos ⟨rfl, rfl⟩]
        rw [xR, if_pos ⟨rfl, rfl⟩, if_pos e5, he, g5]
      · rw [RR (rc_st h0 (c := 26) hd') (by omega), (c2 d' hd').2.2 j hj]
        have hne : 6 * d' + j ≠ e := by omega
        have e5 : (gE g e a b c (sm_N M) (sm_U M)).2.1 5 (6 * d' + j) = g.2.1 5 (6 * d' + j) := by rw [gE_2, if_neg (by omega), if_neg (by omega), if_neg (by omega)]
        have a5 : (gE g e a b c (sm_N M) (sm_U M)).1 5 (6 * d' + j) = g.1 5 (6 * d' + j) := by rw [gE_1, if_neg (by omega), if_neg (by omega), if_neg (by omega)]
        rw [e5, a5]
    · by_cases hee : e' = e
      · subst hee
        rw [g5, g1, gE_2, if_neg (by omega), if_pos ⟨rfl, rfl⟩, xR, if_neg (fun q => na q.1)]
        exact ⟨f13, rfl⟩
      · have he1 : g.2.1 5 e' = true := by
          rw [gE_2, if_neg (by omega), if_neg (by omega), if_neg (by omega)] at he'; exact he'
        rw [(od he1).2, (od (c3 e' he1).2).2, (od (c3 e' he1).2).1, RR he1 (by omega)]
        exact ⟨(c3 e' he1).1, rfl⟩
    · rw [ns (by omega)]; exact c4.1
    · rw [ns (by omega)] at ht
      obtain ⟨a1, a2, a3, a4, a5, a6⟩ := c4.2 t ht
      rw [ns (by omega), (od a1).1, (od a1).2, (od a2).1, (od a2).2, (od a3).1, (od a3).2, (ot (c' := 34) (by decide) (by decide) (by decide)).2, RR a1 (by omega), RR a1 (by omega), RR (rc_st h0 (c := 34) (by decide)) (by omega)]
      exact ⟨rfl, rfl, rfl, a4, a5, a6⟩
    · rw [ns (by omega)]
      refine ⟨(c5 d' hd').1, fun j hj => ?_⟩
      have := (c5 d' hd').2 j hj
      rw [ns (by omega), (od this.1).1, (od this.1).2, (ot (c' := 35) (by decide) (by decide) (by decide)).2, RR (rc_st h0 (c := 35) hd') (by omega)]
      exact ⟨rfl, this.2⟩
    · rw [ns (by omega), ns (by omega), (ot (c' := 8) (by decide) (by decide) (by decide)).2, RR (rc_st h0 (c := 8) hd') (by omega)]
      refine ⟨(c6 d' hd').1, ?_⟩
      rw [(c6 d' hd').2, (ot (c' := 10) (by decide) (by decide) (by decide)).2]
  · intro c' i j hl hf hE
    refine ns ?_
    rintro ⟨rfl, q1, q2⟩
    have := fi_k hf
    have hc5 : c' = 5 := by omega
    subst hc5
    rw [hl5] at hl; cases hl
  · intro c' i j hl hf hE
    have hne : c' ≠ 5 := by unfold tE at hE; omega
    rw [xI, (ho.1 _ (lt hl)).2.2.1, ns]
    · exact rc_I h0 hl hf (fun q => by subst q; unfold tE at hE; omega)
    · unfold tE at hE; omega
  · intro c' i j h1 h2 hf
    rcases nw h1 h2 with ⟨rfl, rfl⟩ | ⟨rfl, rfl⟩ | ⟨rfl, rfl⟩
    · exact absurd (fi_c hf) (by decide)
    · simp [fi] at hf
    · rw [g5, xI, f11]
      simp [fi] at hf
      rw [s_mkE, if_pos (by omega)]
      rcases hf with rfl | rfl | rfl | rfl | rfl | rfl <;> rfl
  · intro c' i hq
    rw [b_mkE, if_neg]
    rintro ⟨rfl, rfl⟩
    rcases hq with ⟨-, q⟩ | ⟨q, -⟩
    · rw [hl1] at q; cases q
    · omega
  · intro f i
    rw [s_mkE]
    split
    · decide
    · exact rc_B h0 f i
  · intro j h1 h2
    rcases nw h1 h2 with ⟨q, -⟩ | ⟨-, rfl⟩ | ⟨q, -⟩
    · omega
    · rw [g1, g21, if_neg (show ¬ 1 + e = 0 by omega), b_mkE, if_pos ⟨rfl, rfl⟩]
      refine ⟨by rw [xK]; exact f2, by rw [xR, if_neg (fun q => nb q.1)]; exact f14, by rw [xK]; exact f3, by rw [xL]; exact f10, by decide, by decide, by rw [xI, f12]; rfl, 0, by decide, by rw [xI, f12]; rfl, fun i hi => absurd hi (Nat.not_lt_zero _)⟩
    · omega
  · intro t ht hnt
    rw [ns (by omega)] at ht
    exact absurd ht hnt
end PT
