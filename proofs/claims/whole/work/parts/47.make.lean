/-! Transfers are made -/
section MK
variable {g : pG} {P : pP} {M M' : sm_M} {D : Nat}
def gU (g : pG) (c i a : Nat) : pG := (sm_u2 g.1 c i a, sm_u2 g.2.1 c i true, g.2.2)
theorem gU_1 {c i a c' i' : Nat} : (gU g c i a).1 c' i' = if c' = c ∧ i' = i then a else g.1 c' i' := rfl
theorem gU_2 {c i a c' i' : Nat} : (gU g c i a).2.1 c' i' = if c' = c ∧ i' = i then true else g.2.1 c' i' := rfl
theorem R_put {a k b j : Nat} {x : Option Nat} : sm_R (sm_putR M a k x) b j = if b = a ∧ j = k then x else sm_R M b j := rfl
/-- a transfer that nothing names yet -/
def FT (n0 : Nat) (M : sm_M) (a b pa o l th n w v ix st : Nat) : Prop := sm_K M a = 33 ∧ sm_K M b = 23 ∧ n0 ≤ a ∧ n0 ≤ b ∧ a < sm_N M ∧ b < sm_N M ∧ sm_L M b = n ∧ (∀ j, sm_I M b j = 0) ∧ sm_I M a 0 = nI o ∧ sm_I M a 2 = nI l ∧ sm_I M a 3 = nI th ∧ sm_I M a 5 = nI w ∧ sm_I M a 6 = nI v ∧ sm_I M a 7 = nI ix ∧ sm_I M a 8 = 0 ∧ sm_I M a 9 = nI st ∧ sm_I M a 10 = 0 ∧ sm_I M a 11 = 0 ∧ sm_I M a 12 = 0 ∧ sm_R M a 1 = some pa ∧ sm_R M a 4 = some b
def p_mkF (P : pP) (t p o l th w v ix st : Nat) : pP := pS (pS (pS (pS (pS (pS (pS (pS (pS (pS (pS (pS P 200 t o) 202 t l) 203 t th) 205 t w) 206 t v) 207 t ix) 208 t 0) 209 t st) 210 t 0) 211 t 0) 212 t 0) 213 t p
def p_mk (P : pP) (p o l th n w v ix st : Nat) : pP := pS (pS (pB (p_mkF P (s_ P 122 0) p o l th w v ix st) 36 (s_ P 122 0) (List.replicate n 0)) 122 0 (s_ P 122 0 + 1)) 123 0 (s_ P 123 0 + 1)
theorem s_mkF {t p o l th w v ix st f i : Nat} : s_ (p_mkF P t p o l th w v ix st) f i = if i = t then (if f = 200 then o else if f = 202 then l else if f = 203 then th else if f = 205 then w else if f = 206 then v else if f = 207 then ix else if f = 208 then 0 else if f = 209 then st else if f = 210 then 0 else if f = 211 then 0 else if f = 212 then 0 else if f = 213 then p else s_ P f i) else s_ P f i := by
  unfold p_mkF
  simp only [s_S]
  by_cases hi : i = t
  · subst hi
    simp only [and_true, if_true]
    by_cases h1 : f = 213
    · subst h1; rfl
    by_cases h2 : f = 212
    · subst h2; rfl
    by_cases h3 : f = 211
    · subst h3; rfl
    by_cases h4 : f = 210
    · subst h4; rfl
    by_cases h5 : f = 209
    · subst h5; rfl
    by_cases h6 : f = 208
    · subst h6; rfl
    by_cases h7 : f = 207
    · subst h7; rfl
    by_cases h8 : f = 206
    · subst h8; rfl
    by_cases h9 : f = 205
    · subst h9; rfl
    by_cases h10 : f = 203
    · subst h10; rfl
    by_cases h11 : f = 202
    · subst h11; rfl
    by_cases h12 : f = 200
    · subst h12; rfl
    rw [if_neg h1, if_neg h2, if_neg h3, if_neg h4, if_neg h5, if_neg h6, if_neg h7, if_neg h8, if_neg h9, if_neg h10, if_neg h11, if_neg h12, if_neg h12, if_neg h11, if_neg h10, if_neg h9, if_neg h8, if_neg h7, if_neg h6, if_neg h5, if_neg h4, if_neg h3, if_neg h2, if_neg h1]
  · rw [if_neg hi]
    repeat rw [if_neg (fun q => hi q.2)]
theorem s_mk {p o l th n w v ix st f i : Nat} : s_ (p_mk P p o l th n w v ix st) f i = if f = 123 ∧ i = 0 then s_ P 123 0 + 1 else if f = 122 ∧ i = 0 then s_ P 122 0 + 1 else s_ (p_mkF P (s_ P 122 0) p o l th w v ix st) f i := by
  unfold p_mk
  rw [s_S, s_S, s_B]
theorem b_mk {p o l th n w v ix st c i : Nat} : b_ (p_mk P p o l th n w v ix st) c i = if c = 36 ∧ i = s_ P 122 0 then List.replicate n 0 else b_ P c i := by
  unfold p_mk
  rw [b_S, b_S, b_B]
  rfl
/-- what is not named yet -/
def gO (n0 u0 : Nat) (g : pG) (P : pP) : Prop := (∀ t, s_ P 122 0 ≤ t → g.2.1 10 t = false ∧ g.2.1 36 t = false) ∧ (∀ i, s_ P 130 0 ≤ i → g.2.1 9 i = false) ∧ (∀ e, g.2.1 5 e = false → g.2.1 1 (1 + e) = false ∧ g.2.1 21 (1 + e) = false) ∧ g.2.2.1 ≤ n0 + 2 * s_ P 122 0 + s_ P 130 0 + 3 * ((List.range 36).filter (fun e => g.2.1 5 e)).length ∧ g.2.2.2 ≤ u0 + 113 * s_ P 122 0 + 8 * s_ P 130 0 + 266 * ((List.range 36).filter (fun e => g.2.1 5 e)).length
theorem mkF_o {t p o l th w v ix st f i : Nat} (hf : f < 200 ∨ 213 < f) : s_ (p_mkF P t p o l th w v ix st) f i = s_ P f i := by
  rw [s_mkF]
  by_cases hi : i = t
  · rw [if_pos hi, if_neg (by omega), if_neg (by omega), if_neg (by omega), if_neg (by omega), if_neg (by omega), if_neg (by omega), if_neg (by omega), if_neg (by omega), if_neg (by omega), if_neg (by omega), if_neg (by omega), if_neg (by omega)]
  · rw [if_neg hi]
def gT (g : pG) (t a b n u : Nat) : pG := ((gU (gU g 10 t a) 36 t b).1, (gU (gU g 10 t a) 36 t b).2.1, n, u)
theorem gT_1 {t a b n u c i : Nat} : (gT g t a b n u).1 c i = if c = 36 ∧ i = t then b else if c = 10 ∧ i = t then a else g.1 c i := rfl
theorem gT_2 {t a b n u c i : Nat} : (gT g t a b n u).2.1 c i = if c = 36 ∧ i = t then true else if c = 10 ∧ i = t then true else g.2.1 c i := rfl
theorem c_hkeep {M0 : sm_M} {a b p o l th n w v ix st : Nat} (h0 : RC g P M0) (ho : old_ g.2.2.1 M0 M) (hle : g.2.2.1 ≤ sm_N M) (hm : s_ P 122 0 < 336) (hw : s_ P 123 0 + 1 < 2 ^ 31) (hp : g.2.1 9 p = true) (hFT : FT g.2.2.1 M a b (g.1 9 p) o l th n w v ix st) (hl10 : g.2.1 10 (s_ P 122 0) = false) (hl36 : g.2.1 36 (s_ P 122 0) = false) (hn : n ≤ 100) (hbo : o < 2 ^ 31) (hbl : l < 2 ^ 31) (hbt : th < 2 ^ 31) (hbw : w < 2 ^ 31) (hbv : v < 2 ^ 31) (hbi : ix < 2 ^ 31) (hbs : st < 2 ^ 31) (hbp : p < 2 ^ 31) :
    sm_Run D 86 0 (sm_ent 86 [.inr (some (g.1 6 0)), .inr (some a)]) [] M (fun r M' => r = some (.inr (some a)) ∧ RC (gT g (s_ P 122 0) a b (sm_N M) (sm_U M)) (p_mk P p o l th n w v ix st) M') := by
  have h := rc_old h0 ho rfl rfl hle
  have l6 : g.2.1 6 0 = true := rc_st h0 (c := 6) (i := 0) (by decide)
  have l34 : g.2.1 34 0 = true := rc_st h0 (c := 34) (i := 0) (by decide)
  obtain ⟨f1, f2, f3, f4, f5, f6, f7, f8, f9, f10, f11, f12, f13, f14, f15, f16, f17, f18, f19, f20, f21⟩ := hFT
  have e2 : sm_I M (g.1 6 0) 2 = nI (s_ P 122 0) := (rI_122 h :)
  have e3 : sm_I M (g.1 6 0) 3 = nI (s_ P 123 0) := (rI_123 h :)
  have hin : sm_in_ M (g.1 34 0) (nI (s_ P 122 0)) := (rc_in h l34 (by decide) (show s_ P 122 0 < 336 from hm) (by decide) :)
  refine bb_86_0 ⟨(rc_K h l6 :), fun _ => ⟨_, (rd_6_1 h :), ⟨10, (rc_K h l34 :), by decide, fun q hq => by cases hq; exact f1⟩, by rw [e2]; exact hin, rfl, ?_⟩, fun q => ?_⟩
  rotate_left
  · rw [e2, li_336, nI_ltI (by omega) (by decide)] at q; omega
  have hR2 : sm_I (sm_putR M (g.1 34 0) (nI (s_ P 122 0)).toNatClampNeg (some a)) (g.1 6 0) 2 = nI (s_ P 122 0) := e2
  rw [e2, hR2, nI_1, I_put_k (by decide), show sm_I (sm_putR M (g.1 34 0) (nI (s_ P 122 0)).toNatClampNeg (some a)) (g.1 6 0) 3 = nI (s_ P 123 0) from e3, nI_1, nI_clamp (by omega)]
  generalize hM' : sm_putI (sm_putI (sm_putR M (g.1 34 0) (s_ P 122 0) (some a)) (g.1 6 0) 2 (nI (s_ P 122 0 + 1))) (g.1 6 0) 3 (nI (s_ P 123 0 + 1)) = M'
  have xR : ∀ b' k, sm_R M' b' k = if b' = g.1 34 0 ∧ k = s_ P 122 0 then some a else sm_R M b' k := by intro b' k; subst hM'; rfl
  have xI : ∀ b' k, sm_I M' b' k = if b' = g.1 6 0 ∧ k = 3 then nI (s_ P 123 0 + 1) else if b' = g.1 6 0 ∧ k = 2 then nI (s_ P 122 0 + 1) else sm_I M b' k := by intro b' k; subst hM'; rfl
  have xK : sm_K M' = sm_K M := by subst hM'; rfl
  have xL : sm_L M' = sm_L M := by subst hM'; rfl
  have xS : sm_S M' = sm_S M := by subst hM'; rfl
  have xN : sm_N M' = sm_N M := by subst hM'; rfl
  have xU : sm_U M' = sm_U M := by subst hM'; rfl
  clear hM' hR2
  have lt : ∀ {c i}, g.2.1 c i = true → g.1 c i < g.2.2.1 := fun hl => (h0.1.1.2.2.2.1 _ _ hl).2.2
  have na6 : a ≠ g.1 6 0 := by have := lt l6; omega
  have nb6 : b ≠ g.1 6 0 := by have := lt l6; omega
  have na34 : a ≠ g.1 34 0 := by have := lt l34; omega
  have RR : ∀ {c i k}, g.2.1 c i = true → c ≠ 34 → sm_R M' (g.1 c i) k = sm_R M0 (g.1 c i) k := by
    intro c i k hl hc
    rw [xR, if_neg, (ho.1 _ (lt hl)).2.2.2]
    rintro ⟨q, -⟩
    exact rf_ne h0.1.1 hl l34 (fun q => hc q.1) q
  have Ra : ∀ k, sm_R M' a k = sm_R M a k := fun k => by rw [xR, if_neg (fun q => na34 q.1)]
  have Ia : ∀ k, sm_I M' a k = sm_I M a k := fun k => by rw [xI, if_neg (fun q => na6 q.1), if_neg (fun q => na6 q.1)]
  have Ib : ∀ k, sm_I M' b k = sm_I M b k := fun k => by rw [xI, if_neg (fun q => nb6 q.1), if_neg (fun q => nb6 q.1)]
  have g10 : (gT g (s_ P 122 0) a b (sm_N M) (sm_U M)).1 10 (s_ P 122 0) = a := by rw [gT_1, if_neg (by omega), if_pos ⟨rfl, rfl⟩]
  have g36 : (gT g (s_ P 122 0) a b (sm_N M) (sm_U M)).1 36 (s_ P 122 0) = b := by rw [gT_1, if_pos ⟨rfl, rfl⟩]
  have od : ∀ {c i}, g.2.1 c i = true → (gT g (s_ P 122 0) a b (sm_N M) (sm_U M)).2.1 c i = true ∧ (gT g (s_ P 122 0) a b (sm_N M) (sm_U M)).1 c i = g.1 c i := by
    intro c i hl
    have q1 : ¬ (c = 10 ∧ i = s_ P 122 0) := by rintro ⟨rfl, rfl⟩; rw [hl10] at hl; cases hl
    have q2 : ¬ (c = 36 ∧ i = s_ P 122 0) := by rintro ⟨rfl, rfl⟩; rw [hl36] at hl; cases hl
    rw [gT_2, if_neg q2, if_neg q1, gT_1, if_neg q2, if_neg q1]
    exact ⟨hl, rfl⟩
  have ot : ∀ {c i}, c ≠ 10 → c ≠ 36 → (gT g (s_ P 122 0) a b (sm_N M) (sm_U M)).2.1 c i = g.2.1 c i ∧ (gT g (s_ P 122 0) a b (sm_N M) (sm_U M)).1 c i = g.1 c i := by
    intro c i h1 h2
    rw [gT_2, if_neg (by omega), if_neg (by omega), gT_1, if_neg (by omega), if_neg (by omega)]
    exact ⟨rfl, rfl⟩
  have nw : ∀ {c i}, (gT g (s_ P 122 0) a b (sm_N M) (sm_U M)).2.1 c i = true → g.2.1 c i = false → (c = 10 ∧ i = s_ P 122 0) ∨ (c = 36 ∧ i = s_ P 122 0) := by
    intro c i h1 h2
    rw [gT_2] at h1
    by_cases q : c = 36 ∧ i = s_ P 122 0
    · exact Or.inr q
    · rw [if_neg q] at h1
      by_cases q1 : c = 10 ∧ i = s_ P 122 0
      · exact Or.inl q1
      · rw [if_neg q1, h2] at h1; cases h1
  have s122 : s_ (p_mk P p o l th n w v ix st) 122 0 = s_ P 122 0 + 1 := by rw [s_mk, if_neg (by omega), if_pos ⟨rfl, rfl⟩]
  have s123 : s_ (p_mk P p o l th n w v ix st) 123 0 = s_ P 123 0 + 1 := by rw [s_mk, if_pos ⟨rfl, rfl⟩]
  have so : ∀ {f i}, f ≠ 122 → f ≠ 123 → (f < 200 ∨ 213 < f) → s_ (p_mk P p o l th n w v ix st) f i = s_ P f i := by
    intro f i h1 h2 h3
    rw [s_mk, if_neg (fun q => h2 q.1), if_neg (fun q => h1 q.1), mkF_o h3]
  have st' : ∀ {f i}, i ≠ s_ P 122 0 → 200 ≤ f → s_ (p_mk P p o l th n w v ix st) f i = s_ P f i := by
    intro f i h1 h2
    rw [s_mk, if_neg (by omega), if_neg (by omega), s_mkF, if_neg h1]
  have sn : ∀ {f}, 200 ≤ f → s_ (p_mk P p o l th n w v ix st) f (s_ P 122 0) = (if f = 200 then o else if f = 202 then l else if f = 203 then th else if f = 205 then w else if f = 206 then v else if f = 207 then ix else if f = 208 then 0 else if f = 209 then st else if f = 210 then 0 else if f = 211 then 0 else if f = 212 then 0 else if f = 213 then p else s_ P f (s_ P 122 0)) := by
    intro f hf
    rw [s_mk, if_neg (by omega), if_neg (by omega), s_mkF, if_pos rfl]
  obtain ⟨c1, c2, c3, c4, c5, c6⟩ := h0.1.2.2
  refine rc_gen (g' := gT g (s_ P 122 0) a b (sm_N M) (sm_U M)) h0 (xN.trans rfl) (xU.trans rfl) hle (fun c i hl => od hl) (fun b' hb' => by rw [xK, xL]; exact ⟨(ho.1 b' hb').1, (ho.1 b' hb').2.1⟩) (xS.trans ho.2) ?_ ?_ ?_ ?_ (fun c i k hl hc _ _ => RR hl hc) ?_ ?_ ?_ ?_ ?_ rfl (so (by decide) (by decide) (by decide)) ?_ ?_ ?_
  · intro c i h1 h2
    rcases nw h1 h2 with ⟨rfl, rfl⟩ | ⟨rfl, rfl⟩
    · rw [g10, xK]
      exact ⟨f1, by decide, f3, f5, fun q => absurd q (by decide)⟩
    · rw [g36, xK]
      exact ⟨f2, by decide, f4, f6, fun q => absurd q (by decide)⟩
  · intro c i i' h1 h2 h3 h4
    rcases nw h1 h2 with ⟨rfl, rfl⟩ | ⟨rfl, rfl⟩ <;> rcases nw h3 h4 with ⟨q, rfl⟩ | ⟨q, rfl⟩ <;> rfl
  · intro c i k hl hE
    rw [xI, if_neg, if_neg, (ho.1 _ (lt hl)).2.2.1]
    · rintro ⟨q, rfl⟩
      by_cases hc : c = 6
      · subst hc; exact hE (Or.inl ⟨rfl, Or.inl rfl⟩)
      · exact rf_ne h0.1.1 hl l6 (fun q => hc q.1) q
    · rintro ⟨q, rfl⟩
      by_cases hc : c = 6
      · subst hc; exact hE (Or.inl ⟨rfl, Or.inr rfl⟩)
      · exact rf_ne h0.1.1 hl l6 (fun q => hc q.1) q
  · intro t ht1 ht2
    funext k
    have : t ≠ g.1 6 0 := by
      rintro rfl
      rw [rc_K h0 l6] at ht1
      exact absurd ht1 (by decide)
    rw [xI, if_neg (fun q => this q.1), if_neg (fun q => this q.1), (ho.1 t ht2).2.2.1]
  · refine ⟨fun j hj => ?_, fun d hd => ?_, fun e he => ?_, ⟨?_, fun t ht => ?_⟩, fun d hd => ?_, fun d hd => ?_⟩
    · rw [(ot (c := 1) (by decide) (by decide)).1] at hj
      rw [(ot (c := 1) (by decide) (by decide)).2, (ot (c := 21) (by decide) (by decide)).2, (ot (c := 21) (by decide) (by decide)).1, RR hj (by decide)]
      exact c1 j hj
    · rw [so (by decide) (by decide) (by decide)]
      refine ⟨(c2 d hd).1, fun k hk => ?_, fun k hk => ?_⟩
      · rw [(ot (c := 5) (by decide) (by decide)).1]; exact (c2 d hd).2.1 k hk
      · rw [(ot (c := 26) (by decide) (by decide)).2, (ot (c := 5) (by decide) (by decide)).1, (ot (c := 5) (by decide) (by decide)).2, RR (rc_st h0 (c := 26) hd) (by decide)]
        exact (c2 d hd).2.2 k hk
    · rw [(ot (c := 5) (by decide) (by decide)).1] at he
      rw [(ot (c := 5) (by decide) (by decide)).2, (ot (c := 1) (by decide) (by decide)).2, (ot (c := 1) (by decide) (by decide)).1, RR he (by decide)]
      exact c3 e he
    · rw [s122]; omega
    · rw [s122] at ht
      rw [(ot (c := 34) (by decide) (by decide)).2]
      by_cases htt : t = s_ P 122 0
      · subst htt
        rw [g10, g36, sn (by decide), if_neg (by decide), if_neg (by decide), if_neg (by decide), if_neg (by decide), if_neg (by decide), if_neg (by decide), if_neg (by decide), if_neg (by decide), if_neg (by decide), if_neg (by decide), if_neg (by decide), if_pos rfl, (ot (c := 9) (by decide) (by decide)).2, (ot (c := 9) (by decide) (by decide)).1]
        refine ⟨by rw [gT_2, if_neg (by omega), if_pos ⟨rfl, rfl⟩], by rw [gT_2, if_pos ⟨rfl, rfl⟩], hp, ?_, ?_, ?_⟩
        · rw [xR, if_pos ⟨rfl, rfl⟩]
        · rw [Ra]; exact f21
        · rw [Ra]; exact f20
      · have ht' : t < s_ P 122 0 := by omega
        obtain ⟨a1, a2, a3, a4, a5, a6⟩ := c4.2 t ht'
        rw [st' htt (by decide), (od a1).1, (od a1).2, (od a2).1, (od a2).2, (ot (c := 9) (by decide) (by decide)).2, (ot (c := 9) (by decide) (by decide)).1, RR a1 (by decide), RR a1 (by decide), xR, if_neg (fun q => htt q.2), (ho.1 _ (lt l34)).2.2.2]
        exact ⟨rfl, rfl, a3, a4, a5, a6⟩
    · rw [so (by decide) (by decide) (by decide)]
      refine ⟨(c5 d hd).1, fun k hk => ?_⟩
      rw [so (by decide) (by decide) (by decide), (ot (c := 9) (by decide) (by decide)).1, (ot (c := 9) (by decide) (by decide)).2, (ot (c := 35) (by decide) (by decide)).2, RR (rc_st h0 (c := 35) hd) (by decide)]
      exact (c5 d hd).2 k hk
    · rw [so (by decide) (by decide) (by decide), s122, (ot (c := 8) (by decide) (by decide)).2, RR (rc_st h0 (c := 8) hd) (by decide)]
      refine ⟨by have := (c6 d hd).1; omega, ?_⟩
      rw [(c6 d hd).2]
      by_cases q : s_ P 165 d = 0
      · rw [if_pos q, if_pos q]
      · rw [if_neg q, if_neg q]
        have hlt : s_ P 165 d - 1 < s_ P 122 0 := by have := (c6 d hd).1; omega
        rw [(od (c4.2 _ hlt).1).2]
  · intro c i k hl hf hE
    by_cases hc : c = 10
    · subst hc
      exact st' (by rintro rfl; rw [hl10] at hl; cases hl) (by omega)
    · have hc12 := fi_c hf
      by_cases h11 : c = 11
      · subst h11
        exact so (by omega) (by omega) (by omega)
      · have k20 : k < 20 := by
          have : ∀ c, c < 12 → ∀ k, fi c k = true → k < 20 := by
            intro c hc k hk
            match c, hc with
            | 0, _ | 1, _ | 2, _ | 3, _ | 4, _ | 5, _ | 6, _ | 7, _ | 8, _ | 9, _ | 10, _ | 11, _ => simp [fi] at hk <;> omega
          exact this c hc12 k hf
        refine so (fun q => ?_) (fun q => ?_) (by omega)
        · have : c = 6 := by omega
          subst this
          exact hE (Or.inl ⟨rfl, Or.inl (by omega)⟩)
        · have : c = 6 := by omega
          subst this
          exact hE (Or.inl ⟨rfl, Or.inr (by omega)⟩)
  · intro c i k hl hf hE
    have ne6 : ¬ (c = 6 ∧ i = 0) → sm_I M' (g.1 c i) k = sm_I M0 (g.1 c i) k := by
      intro hq
      have hne : g.1 c i ≠ g.1 6 0 := rf_ne h0.1.1 hl l6 hq
      rw [xI, if_neg (fun q => hne q.1), if_neg (fun q => hne q.1), (ho.1 _ (lt hl)).2.2.1]
    have old1 : ∀ {c i k}, g.2.1 c i = true → fi c k = true → tE c k → sm_I M0 (g.1 c i) k = enc c k (s_ P (20 * c + k) i) := fun hl hf hE => rc_I h0 hl hf (fun q => by subst q; unfold tE at hE; omega)
    rcases hE with ⟨rfl, rfl | rfl⟩ | ⟨rfl, rfl⟩ | ⟨rfl, rfl⟩
    · by_cases hi : i = 0
      · subst hi
        rw [xI, if_neg (by omega), if_pos ⟨rfl, rfl⟩, s122]; rfl
      · rw [ne6 (fun q => hi q.2), old1 hl rfl (Or.inl ⟨rfl, Or.inl rfl⟩), s_mk, if_neg (by omega), if_neg (by omega), mkF_o (by omega)]
    · by_cases hi : i = 0
      · subst hi
        rw [xI, if_pos ⟨rfl, rfl⟩, s123]; rfl
      · rw [ne6 (fun q => hi q.2), old1 hl rfl (Or.inl ⟨rfl, Or.inr rfl⟩), s_mk, if_neg (by omega), if_neg (by omega), mkF_o (by omega)]
    · rw [ne6 (by omega), old1 hl rfl (Or.inr (Or.inl ⟨rfl, rfl⟩)), so (by decide) (by decide) (by decide)]
    · rw [ne6 (by omega), old1 hl rfl (Or.inr (Or.inr ⟨rfl, rfl⟩)), so (by decide) (by decide) (by decide)]
  · intro c i k h1 h2 hf
    rcases nw h1 h2 with ⟨rfl, rfl⟩ | ⟨rfl, rfl⟩
    · rw [g10, Ia, sn (by omega)]
      simp [fi] at hf
      rcases hf with rfl | rfl | rfl | rfl | rfl | rfl | rfl | rfl | rfl | rfl | rfl
      · exact f9
      · exact f10
      · exact f11
      · exact f12
      · exact f13
      · exact f14
      · exact f15
      · exact f16
      · exact f17
      · exact f18
      · exact f19
    · exact absurd (fi_c hf) (by decide)
  · intro c i hq
    rw [b_mk, if_neg]
    rintro ⟨rfl, rfl⟩
    omega
  · unfold p_mk p_mkF
    refine bn_S (bn_S ?_ (by omega)) hw
    show bnd (pS _ 213 _ _)
    exact bn_S (bn_S (bn_S (bn_S (bn_S (bn_S (bn_S (bn_S (bn_S (bn_S (bn_S (bn_S (rc_B h0) hbo) hbl) hbt) hbw) hbv) hbi) (by decide)) hbs) (by decide)) (by decide)) (by decide)) hbp
  · intro j h1 h2
    rcases nw h1 h2 with ⟨q, -⟩ | ⟨q, -⟩ <;> omega
  · intro t ht hnt
    obtain rfl : t = s_ P 122 0 := by rw [s122] at ht; omega
    rw [g36, xL, b_mk, if_pos ⟨rfl, rfl⟩, List.length_replicate]
    refine ⟨f7, hn, fun j hj => ?_⟩
    rw [List.length_replicate] at hj
    rw [Ib, f8, List.getD_eq_getElem?_getD, List.getElem?_replicate_of_lt hj]
    rfl
end MK
