/-! Pipes are made; Peer.openPipes -/
section PI
variable {g : pG} {P : pP} {M M' : sm_M} {D : Nat}
def p_mkPf (P : pP) (i a bk sz iv : Nat) : pP := pS (pS (pS (pS (pS (pS (pS (pS P 180 i a) 181 i bk) 182 i sz) 183 i iv) 184 i 1) 185 i 0) 186 i 0) 187 i 0
def p_mkP (P : pP) (d a bk sz iv : Nat) : pP := pS (pS (pS (p_mkPf P (s_ P 130 0) a bk sz iv) 166 (10 * d + s_ P 164 d) (s_ P 130 0)) 164 d (s_ P 164 d + 1)) 130 0 (s_ P 130 0 + 1)
theorem s_mkPf {i a bk sz iv f j : Nat} : s_ (p_mkPf P i a bk sz iv) f j = if j = i then (if f = 180 then a else if f = 181 then bk else if f = 182 then sz else if f = 183 then iv else if f = 184 then 1 else if f = 185 then 0 else if f = 186 then 0 else if f = 187 then 0 else s_ P f j) else s_ P f j := by
  unfold p_mkPf
  simp only [s_S]
  by_cases hi : j = i
  · subst hi
    simp only [and_true, if_true]
    by_cases h1 : f = 187
    · subst h1; rfl
    by_cases h2 : f = 186
    · subst h2; rfl
    by_cases h3 : f = 185
    · subst h3; rfl
    by_cases h4 : f = 184
    · subst h4; rfl
    by_cases h5 : f = 183
    · subst h5; rfl
    by_cases h6 : f = 182
    · subst h6; rfl
    by_cases h7 : f = 181
    · subst h7; rfl
    by_cases h8 : f = 180
    · subst h8; rfl
    rw [if_neg h1, if_neg h2, if_neg h3, if_neg h4, if_neg h5, if_neg h6, if_neg h7, if_neg h8, if_neg h8, if_neg h7, if_neg h6, if_neg h5, if_neg h4, if_neg h3, if_neg h2, if_neg h1]
  · rw [if_neg hi]
    repeat rw [if_neg (fun q => hi q.2)]
theorem mkPf_o {i a bk sz iv f j : Nat} (hf : f < 180 ∨ 187 < f) : s_ (p_mkPf P i a bk sz iv) f j = s_ P f j := by
  rw [s_mkPf]
  by_cases hi : j = i
  · rw [if_pos hi, if_neg (by omega), if_neg (by omega), if_neg (by omega), if_neg (by omega), if_neg (by omega), if_neg (by omega), if_neg (by omega), if_neg (by omega)]
  · rw [if_neg hi]
theorem s_mkP {d a bk sz iv f j : Nat} : s_ (p_mkP P d a bk sz iv) f j = if f = 130 ∧ j = 0 then s_ P 130 0 + 1 else if f = 164 ∧ j = d then s_ P 164 d + 1 else if f = 166 ∧ j = 10 * d + s_ P 164 d then s_ P 130 0 else s_ (p_mkPf P (s_ P 130 0) a bk sz iv) f j := by
  unfold p_mkP
  rw [s_S, s_S, s_S]
theorem mkP_o {d a bk sz iv f j : Nat} (hf : f < 180 ∨ 187 < f) (h1 : f ≠ 130) (h2 : f ≠ 164) (h3 : f ≠ 166) : s_ (p_mkP P d a bk sz iv) f j = s_ P f j := by
  rw [s_mkP, if_neg (fun q => h1 q.1), if_neg (fun q => h2 q.1), if_neg (fun q => h3 q.1), mkPf_o hf]
def FP (n0 : Nat) (M : sm_M) (a ad bk sz iv : Nat) : Prop := sm_K M a = 30 ∧ n0 ≤ a ∧ a < sm_N M ∧ sm_I M a 0 = nI ad ∧ sm_I M a 1 = nI bk ∧ sm_I M a 2 = nI sz ∧ sm_I M a 3 = nI iv ∧ sm_I M a 4 = 1 ∧ sm_I M a 5 = 0 ∧ sm_I M a 6 = -1 ∧ sm_I M a 7 = 0
def gP (g : pG) (i a n u : Nat) : pG := ((gU g 9 i a).1, (gU g 9 i a).2.1, n, u)
theorem gP_1 {j a n u c i : Nat} : (gP g j a n u).1 c i = if c = 9 ∧ i = j then a else g.1 c i := rfl
theorem gP_2 {j a n u c i : Nat} : (gP g j a n u).2.1 c i = if c = 9 ∧ i = j then true else g.2.1 c i := rfl
theorem rc_mkP {M0 : sm_M} {d a ad bk sz iv : Nat} (h0 : RC g P M0) (ho : old_ g.2.2.1 M0 M) (hle : g.2.2.1 ≤ sm_N M) (hd : d < 6) (hk : s_ P 164 d < 6) (hF : FP g.2.2.1 M a ad bk sz iv) (hl9 : g.2.1 9 (s_ P 130 0) = false) (hb0 : ad < 2 ^ 31) (hb1 : bk < 2 ^ 31) (hb2 : sz < 2 ^ 31) (hb3 : iv < 2 ^ 31) (hb4 : s_ P 130 0 + 1 < 2 ^ 31) :
    RC (gP g (s_ P 130 0) a (sm_N M) (sm_U M)) (p_mkP P d ad bk sz iv) (sm_putI (sm_putR M (g.1 35 d) (s_ P 164 d) (some a)) (g.1 8 d) 4 (nI (s_ P 164 d + 1))) := by
  have l8 : g.2.1 8 d = true := rc_st h0 (c := 8) hd
  have l35 : g.2.1 35 d = true := rc_st h0 (c := 35) hd
  obtain ⟨f1, f2, f3, f4, f5, f6, f7, f8, f9, f10, f11⟩ := hF
  generalize hM' : sm_putI (sm_putR M (g.1 35 d) (s_ P 164 d) (some a)) (g.1 8 d) 4 (nI (s_ P 164 d + 1)) = M'
  have xR : ∀ b' k, sm_R M' b' k = if b' = g.1 35 d ∧ k = s_ P 164 d then some a else sm_R M b' k := by intro b' k; subst hM'; rfl
  have xI : ∀ b' k, sm_I M' b' k = if b' = g.1 8 d ∧ k = 4 then nI (s_ P 164 d + 1) else sm_I M b' k := by intro b' k; subst hM'; rfl
  have xK : sm_K M' = sm_K M := by subst hM'; rfl
  have xL : sm_L M' = sm_L M := by subst hM'; rfl
  have xS : sm_S M' = sm_S M := by subst hM'; rfl
  have xN : sm_N M' = sm_N M := by subst hM'; rfl
  have xU : sm_U M' = sm_U M := by subst hM'; rfl
  clear hM'
  have lt : ∀ {c i}, g.2.1 c i = true → g.1 c i < g.2.2.1 := fun hl => (h0.1.1.2.2.2.1 _ _ hl).2.2
  have na8 : a ≠ g.1 8 d := by have := lt l8; omega
  have RR : ∀ {c i k}, g.2.1 c i = true → ¬ (c = 35 ∧ i = d ∧ k = s_ P 164 d) → sm_R M' (g.1 c i) k = sm_R M0 (g.1 c i) k := by
    intro c i k hl hc
    rw [xR, if_neg, (ho.1 _ (lt hl)).2.2.2]
    rintro ⟨q, rfl⟩
    by_cases hq : c = 35 ∧ i = d
    · exact hc ⟨hq.1, hq.2, rfl⟩
    · exact rf_ne h0.1.1 hl l35 hq q
  have Ia : ∀ k, sm_I M' a k = sm_I M a k := fun k => by rw [xI, if_neg (fun q => na8 q.1)]
  have g9 : (gP g (s_ P 130 0) a (sm_N M) (sm_U M)).1 9 (s_ P 130 0) = a := by rw [gP_1, if_pos ⟨rfl, rfl⟩]
  have od : ∀ {c i}, g.2.1 c i = true → (gP g (s_ P 130 0) a (sm_N M) (sm_U M)).2.1 c i = true ∧ (gP g (s_ P 130 0) a (sm_N M) (sm_U M)).1 c i = g.1 c i := by
    intro c i hl
    have q1 : ¬ (c = 9 ∧ i = s_ P 130 0) := by rintro ⟨rfl, rfl⟩; rw [hl9] at hl; cases hl
    rw [gP_2, if_neg q1, gP_1, if_neg q1]
    exact ⟨hl, rfl⟩
  have ot : ∀ {c i}, c ≠ 9 → (gP g (s_ P 130 0) a (sm_N M) (sm_U M)).2.1 c i = g.2.1 c i ∧ (gP g (s_ P 130 0) a (sm_N M) (sm_U M)).1 c i = g.1 c i := by
    intro c i h1
    rw [gP_2, if_neg (by omega), gP_1, if_neg (by omega)]
    exact ⟨rfl, rfl⟩
  have nw : ∀ {c i}, (gP g (s_ P 130 0) a (sm_N M) (sm_U M)).2.1 c i = true → g.2.1 c i = false → c = 9 ∧ i = s_ P 130 0 := by
    intro c i h1 h2
    rw [gP_2] at h1
    by_cases q : c = 9 ∧ i = s_ P 130 0
    · exact q
    · rw [if_neg q, h2] at h1; cases h1
  have s164 : s_ (p_mkP P d ad bk sz iv) 164 d = s_ P 164 d + 1 := by rw [s_mkP, if_neg (by omega), if_pos ⟨rfl, rfl⟩]
  obtain ⟨c1, c2, c3, c4, c5, c6⟩ := h0.1.2.2
  refine rc_gen (g' := gP g (s_ P 130 0) a (sm_N M) (sm_U M)) h0 (xN.trans rfl) (xU.trans rfl) hle (fun c i hl => od hl) (fun b' hb' => by rw [xK, xL]; exact ⟨(ho.1 b' hb').1, (ho.1 b' hb').2.1⟩) (xS.trans ho.2) ?_ ?_ ?_ ?_ (fun c i k hl _ _ hc => RR hl (fun q => hc q.1)) ?_ ?_ ?_ ?_ (fun _ _ _ => rfl) rfl (mkP_o (by decide) (by decide) (by decide) (by decide)) ?_ ?_ ?_
  · intro c i h1 h2
    obtain ⟨rfl, rfl⟩ := nw h1 h2
    rw [g9, xK]
    exact ⟨f1, by decide, f2, f3, fun q => absurd q (by decide)⟩
  · intro c i i' h1 h2 h3 h4
    rw [(nw h1 h2).2, (nw h3 h4).2]
  · intro c i k hl hE
    rw [xI, if_neg, (ho.1 _ (lt hl)).2.2.1]
    rintro ⟨q, rfl⟩
    by_cases hc : c = 8
    · subst hc; exact hE (Or.inr (Or.inr ⟨rfl, rfl⟩))
    · exact rf_ne h0.1.1 hl l8 (fun q => hc q.1) q
  · intro t ht1 ht2
    funext k
    have : t ≠ g.1 8 d := by
      rintro rfl
      rw [rc_K h0 l8] at ht1
      exact absurd ht1 (by decide)
    rw [xI, if_neg (fun q => this q.1), (ho.1 t ht2).2.2.1]
  · refine ⟨fun j hj => ?_, fun d' hd' => ?_, fun e he => ?_, ⟨?_, fun t ht => ?_⟩, fun d' hd' => ?_, fun d' hd' => ?_⟩
    · rw [(ot (c := 1) (by decide)).1] at hj
      rw [(ot (c := 1) (by decide)).2, (ot (c := 21) (by decide)).2, (ot (c := 21) (by decide)).1, RR hj (by omega)]
      exact c1 j hj
    · rw [mkP_o (by decide) (by decide) (by decide) (by decide)]
      refine ⟨(c2 d' hd').1, fun k hk => ?_, fun k hk => ?_⟩
      · rw [(ot (c := 5) (by decide)).1]; exact (c2 d' hd').2.1 k hk
      · rw [(ot (c := 26) (by decide)).2, (ot (c := 5) (by decide)).1, (ot (c := 5) (by decide)).2, RR (rc_st h0 (c := 26) hd') (by omega)]
        exact (c2 d' hd').2.2 k hk
    · rw [(ot (c := 5) (by decide)).1] at he
      rw [(ot (c := 5) (by decide)).2, (ot (c := 1) (by decide)).2, (ot (c := 1) (by decide)).1, RR he (by omega)]
      exact c3 e he
    · rw [mkP_o (by decide) (by decide) (by decide) (by decide)]; exact c4.1
    · rw [mkP_o (by decide) (by decide) (by decide) (by decide)] at ht
      obtain ⟨a1, a2, a3, a4, a5, a6⟩ := c4.2 t ht
      rw [mkP_o (by decide) (by decide) (by decide) (by decide), (ot (c := 10) (by decide)).1, (ot (c := 10) (by decide)).2, (ot (c := 36) (by decide)).1, (ot (c := 36) (by decide)).2, (ot (c := 34) (by decide)).2, (od a3).1, (od a3).2, RR a1 (by omega), RR a1 (by omega), RR (rc_st h0 (c := 34) (by decide)) (by omega)]
      exact ⟨a1, a2, rfl, a4, a5, a6⟩
    · rw [(ot (c := 35) (by decide)).2]
      by_cases hdd : d' = d
      · subst hdd
        rw [s164]
        refine ⟨by omega, fun k hk' => ?_⟩
        by_cases hkk : k = s_ P 164 d'
        · subst hkk
          rw [s_mkP, if_neg (by omega), if_neg (by omega), if_pos ⟨rfl, rfl⟩, g9, gP_2, if_pos ⟨rfl, rfl⟩, xR, if_pos ⟨rfl, rfl⟩]
          exact ⟨rfl, rfl⟩
        · have := (c5 d' hd').2 k (by omega)
          rw [s_mkP, if_neg (by omega), if_neg (by omega), if_neg (by omega), mkPf_o (by omega), (od this.1).1, (od this.1).2, RR l35 (by omega)]
          exact ⟨rfl, this.2⟩
      · rw [s_mkP, if_neg (by omega), if_neg (by omega), if_neg (by omega), mkPf_o (by omega)]
        refine ⟨(c5 d' hd').1, fun k hk' => ?_⟩
        have h6 := (c5 d' hd').1
        have := (c5 d' hd').2 k hk'
        rw [s_mkP, if_neg (by omega), if_neg (by omega), if_neg (by omega), mkPf_o (by omega), (od this.1).1, (od this.1).2, RR (rc_st h0 (c := 35) hd') (by omega)]
        exact ⟨rfl, this.2⟩
    · rw [mkP_o (by decide) (by decide) (by decide) (by decide), mkP_o (by decide) (by decide) (by decide) (by decide), (ot (c := 8) (by decide)).2, RR (rc_st h0 (c := 8) hd') (by omega)]
      refine ⟨(c6 d' hd').1, ?_⟩
      rw [(c6 d' hd').2, (ot (c := 10) (by decide)).2]
  · intro c i k hl hf hE
    have hc12 := fi_c hf
    have k20 : k < 20 := by
      have : ∀ c, c < 12 → ∀ k, fi c k = true → k < 20 := by
        intro c hc k hk
        match c, hc with
        | 0, _ | 1, _ | 2, _ | 3, _ | 4, _ | 5, _ | 6, _ | 7, _ | 8, _ | 9, _ | 10, _ | 11, _ => simp [fi] at hk <;> omega
      exact this c hc12 k hf
    have q130 : ¬ (20 * c + k = 130 ∧ i = 0) := by
      rintro ⟨q, -⟩
      have h6 : c = 6 := by omega
      have h10 : k = 10 := by omega
      subst h6; subst h10
      exact absurd hf (by decide)
    have q164 : ¬ (20 * c + k = 164 ∧ i = d) := by
      rintro ⟨q, -⟩
      have h8 : c = 8 := by omega
      subst h8
      exact hE (Or.inr (Or.inr ⟨rfl, by omega⟩))
    have q166 : ¬ (20 * c + k = 166 ∧ i = 10 * d + s_ P 164 d) := by
      rintro ⟨q, -⟩
      have h8 : c = 8 := by omega
      have h6 : k = 6 := by omega
      subst h8; subst h6
      exact absurd hf (by decide)
    rw [s_mkP, if_neg q130, if_neg q164, if_neg q166]
    by_cases hc : c = 9
    · subst hc
      rw [s_mkPf, if_neg (by rintro rfl; rw [hl9] at hl; cases hl)]
    · exact mkPf_o (by omega)
  · intro c i k hl hf hE
    have old1 : sm_I M0 (g.1 c i) k = enc c k (s_ P (20 * c + k) i) := rc_I h0 hl hf (fun q => by subst q; unfold tE at hE; omega)
    by_cases hq : c = 8 ∧ i = d ∧ k = 4
    · obtain ⟨rfl, rfl, rfl⟩ := hq
      rw [xI, if_pos ⟨rfl, rfl⟩, s164]; rfl
    · have ne8 : ¬ (g.1 c i = g.1 8 d ∧ k = 4) := by
        rintro ⟨q, rfl⟩
        by_cases hc : c = 8 ∧ i = d
        · exact hq ⟨hc.1, hc.2, rfl⟩
        · exact rf_ne h0.1.1 hl l8 hc q
      rw [xI, if_neg ne8, (ho.1 _ (lt hl)).2.2.1, old1]
      congr 1
      rcases hE with ⟨rfl, rfl | rfl⟩ | ⟨rfl, rfl⟩ | ⟨rfl, rfl⟩
      · rw [mkP_o (by decide) (by decide) (by decide) (by decide)]
      · rw [mkP_o (by decide) (by decide) (by decide) (by decide)]
      · rw [mkP_o (by decide) (by decide) (by decide) (by decide)]
      · rw [s_mkP, if_neg (by omega), if_neg (by omega), if_neg (by omega), mkPf_o (by omega)]
  · intro c i k h1 h2 hf
    obtain ⟨rfl, rfl⟩ := nw h1 h2
    have sn : ∀ f, 180 ≤ f → s_ (p_mkP P d ad bk sz iv) f (s_ P 130 0) = (if f = 180 then ad else if f = 181 then bk else if f = 182 then sz else if f = 183 then iv else if f = 184 then 1 else if f = 185 then 0 else if f = 186 then 0 else if f = 187 then 0 else s_ P f (s_ P 130 0)) := by
      intro f hf
      rw [s_mkP, if_neg (by omega), if_neg (by omega), if_neg (by omega), s_mkPf, if_pos rfl]
    rw [g9, Ia, sn _ (by omega)]
    simp [fi] at hf
    rcases hf with rfl | rfl | rfl | rfl | rfl | rfl | rfl | rfl
    · exact f4
    · exact f5
    · exact f6
    · exact f7
    · exact f8
    · exact f9
    · exact f10
    · exact f11
  · unfold p_mkP p_mkPf
    exact bn_S (bn_S (bn_S (bn_S (bn_S (bn_S (bn_S (bn_S (bn_S (bn_S (bn_S (rc_B h0) hb0) hb1) hb2) hb3) (by decide)) (by decide)) (by decide)) (by decide)) (by omega)) (by omega)) hb4
  · intro j h1 h2
    have := (nw h1 h2).1
    omega
  · intro t ht hnt
    rw [mkP_o (by decide) (by decide) (by decide) (by decide)] at ht
    exact absurd ht hnt
theorem gO_P {n0 u0 d a ad bk sz iv : Nat} (h : gO n0 u0 g P) : gO n0 u0 (gP g (s_ P 130 0) a (g.2.2.1 + 1) (g.2.2.2 + 8)) (p_mkP P d ad bk sz iv) := by
  obtain ⟨h1, h2, h3, h4, h5⟩ := h
  have s122 : s_ (p_mkP P d ad bk sz iv) 122 0 = s_ P 122 0 := mkP_o (by decide) (by decide) (by decide) (by decide)
  have s130 : s_ (p_mkP P d ad bk sz iv) 130 0 = s_ P 130 0 + 1 := by rw [s_mkP, if_pos ⟨rfl, rfl⟩]
  have e5 : (fun e => (gP g (s_ P 130 0) a (g.2.2.1 + 1) (g.2.2.2 + 8)).2.1 5 e) = (fun e => g.2.1 5 e) := by
    funext e; rw [gP_2, if_neg (by omega)]
  unfold gO
  rw [s122, s130, e5]
  refine ⟨fun t ht => ?_, fun i hi => ?_, fun e he => ?_, ?_, ?_⟩
  · rw [gP_2, if_neg (by omega), gP_2, if_neg (by omega)]
    exact h1 t ht
  · rw [gP_2, if_neg (by omega)]
    exact h2 i (by omega)
  · rw [gP_2, if_neg (by omega)] at he
    rw [gP_2, if_neg (by omega), gP_2, if_neg (by omega)]
    exact h3 e he
  · show g.2.2.1 + 1 ≤ _; omega
  · show g.2.2.2 + 8 ≤ _; omega
theorem gx_P {n0 u0 a n u : Nat} (h : gO n0 u0 g P) : gx g (gP g (s_ P 130 0) a n u) := by
  intro c i hl
  have q1 : ¬ (c = 9 ∧ i = s_ P 130 0) := by rintro ⟨rfl, rfl⟩; rw [h.2.1 _ (Nat.le_refl _)] at hl; cases hl
  rw [gP_2, if_neg q1, gP_1, if_neg q1]
  exact ⟨hl, rfl⟩
/-- Peer.openPipes -/
def p_opL (P : pP) (d t : Nat) : Nat → Nat → pP
  | _, 0 => P
  | i, n + 1 => if s_ P 210 t < i + 7 ∨ 6 ≤ s_ P 164 d then P
    else if (b_ P 36 t).getD i 0 = 7 ∧ (b_ P 36 t).getD (i + 1) 0 = 5 then p_opL (p_mkP P d ((b_ P 36 t).getD (i + 2) 0) (if (b_ P 36 t).getD (i + 3) 0 = 2 then 1 else 0) ((b_ P 36 t).getD (i + 4) 0) ((b_ P 36 t).getD (i + 6) 0)) d t (i + 7) n
    else p_opL P d t (i + 7) n
def p_open (P : pP) (d : Nat) : pP := if s_ P 165 d = 0 then pS P 160 d 2 else p_opL (pS P 160 d 2) d (s_ P 165 d - 1) 18 13
theorem c_pinit {n0 ad bk sz iv : Nat} (hbk : bk ≤ 1) (hK : sm_K M n0 = 30) (h5 : sm_I M n0 5 = 0) (h7 : sm_I M n0 7 = 0) (hlt : n0 < sm_N M) : sm_Run (D + 1) 118 0 (sm_ent 118 [.inr (some n0), .inl (nI ad), .inl (nI bk), .inl (nI sz), .inl (nI iv)]) [] M (fun v M' => v = none ∧ FP n0 M' n0 ad bk sz iv ∧ old_ n0 M M' ∧ sm_N M' = sm_N M ∧ sm_U M' = sm_U M) := by
  refine bb_118_0 ⟨hK, ?_, rfl, ⟨hK, Nat.le_refl _, hlt, ?_, ?_, ?_, ?_, ?_, ?_, ?_, ?_⟩, ?_, rfl, rfl⟩
  · match bk, hbk with
    | 0, _ => rfl
    | 1, _ => rfl
  all_goals try simp [I_put, h5, h7]
  exact old_tr (old_tr (old_tr (old_tr (old_tr (old_putI (Nat.le_refl _)) (old_putI (Nat.le_refl _))) (old_putI (Nat.le_refl _))) (old_putI (Nat.le_refl _))) (old_putI (Nat.le_refl _))) (old_putI (Nat.le_refl _))
theorem hav_le {t : Nat} (h : s_ P 210 t ≤ (b_ P 36 t).length) : s_ P 210 t ≤ hav P t := by unfold hav; split <;> omega
theorem c_opL {n0 u0 d t : Nat} (hd : d < 6) : ∀ (n i : Nat) (g : pG) (P : pP) (M : sm_M) (z3 : Option sm_V), RC g P M → gO n0 u0 g P → t < s_ P 122 0 → s_ P 210 t ≤ (b_ P 36 t).length → (∀ x ∈ b_ P 36 t, x < 256) → s_ P 130 0 + n < 2 ^ 30 → i ≤ 200 → s_ P 210 t < i + 7 * n → sm_Run (D + 2) 116 21 [some (.inr (some (g.1 8 d))), some (.inr (some (g.1 10 t))), some (.inl (nI i)), z3] [] M (fun r M' => r = none ∧ ∃ g', gx g g' ∧ gO n0 u0 g' (p_opL P d t i n) ∧ RC g' (p_opL P d t i n) M') := by
  intro n
  induction n with
  | zero =>
    intro i g P M z3 h hg ht ho hb h130 hi hf
    obtain ⟨l10, l36, l9⟩ := lq_10 h ht
    have h100 := (r_36 h ht).2.1
    refine bb_116_21 ⟨_, rfl, rc_K h l10, fun _ => ⟨rfl, g, gx_rf, hg, h⟩, fun q => ?_⟩
    rw [rI_210 h l10, li_7, nI_add, nI_ltI (by omega) (by omega)] at q
    omega
  | succ n ih =>
    intro i g P M z3 h hg ht ho hb h130 hi hf
    obtain ⟨l10, l36, l9⟩ := lq_10 h ht
    have l8 := rc_st h (c := 8) hd
    have l35 := rc_st h (c := 35) hd
    have h100 := (r_36 h ht).2.1
    have h6 := rc_Pc h hd
    have hhav := hav_le ho
    unfold p_opL
    refine bb_116_21 ⟨_, rfl, rc_K h l10, fun q => ?_, fun q => ⟨rc_K h l8, fun q1 => ?_, fun q1 => ?_⟩⟩
    · rw [rI_210 h l10, li_7, nI_add, nI_ltI (by omega) (by omega)] at q
      rw [if_pos (Or.inl q)]
      exact ⟨rfl, g, gx_rf, hg, h⟩
    · rw [rI_164 h hd, li_6, nI_leI (by decide) (by omega)] at q1
      rw [if_pos (Or.inr q1)]
      exact ⟨rfl, g, gx_rf, hg, h⟩
    rw [rI_210 h l10, li_7, nI_add, nI_ltI (by omega) (by omega)] at q
    rw [rI_164 h hd, li_6, nI_leI (by decide) (by omega)] at q1
    rw [if_neg (by omega)]
    have bt : ∀ {M : sm_M} {g1 : pG} {k : Nat}, RC g1 P M → k < 7 → sm_Run (D + 1) 124 0 (sm_ent 124 [.inr (some (g1.1 10 t)), .inl (nI (i + k))]) [] M (fun v M' => v = some (.inl (nI ((b_ P 36 t).getD (i + k) 0))) ∧ M = M') := by
      intro M g1 k h1 hk
      refine ru_mono (c_byteAt h1 ht (by omega) ho) ?_
      rintro v M' ⟨rfl, hM⟩
      rw [if_pos (by omega)]
      exact ⟨rfl, hM⟩
    have bb : ∀ k, (b_ P 36 t).getD k 0 < 256 := fun k => byte_getD hb k
    have skip : ∀ (M : sm_M) (z3 : Option sm_V), RC g P M → sm_Run (D + 2) 116 21 [some (.inr (some (g.1 8 d))), some (.inr (some (g.1 10 t))), some (.inl (nI i + 7)), z3] [] M (fun r M' => r = none ∧ ∃ g', gx g g' ∧ gO n0 u0 g' (p_opL P d t (i + 7) n) ∧ RC g' (p_opL P d t (i + 7) n) M') := by
      intro M z3 h1
      rw [li_7, nI_add]
      exact ih (i + 7) g P M z3 h1 hg ht ho hb (by omega) (by omega) (by omega)
    refine ru_mono (bt (k := 0) h (by decide)) ?_
    rintro v M1 ⟨rfl, hM⟩
    subst hM
    have e0 : i + 0 = i := rfl
    rw [e0]
    have b0 := bb i
    refine bb_116_46 ⟨fun q2 => ?_, fun q2 => ⟨_, rfl, rc_K h l10, ?_⟩⟩
    · rw [li_7, nI_eq (by omega) (by decide)] at q2
      rw [if_neg (fun c => q2 c.1)]
      exact skip M z3 h
    rw [li_7, Decidable.not_not, nI_eq (by omega) (by decide)] at q2
    rw [nI_1]
    refine ru_mono (bt (k := 1) h (by decide)) ?_
    rintro v M1 ⟨rfl, hM⟩
    subst hM
    have b1 := bb (i + 1)
    refine bb_116_58 ⟨fun q3 => ?_, fun q3 => ⟨_, rfl, rc_K h l10, ?_⟩⟩
    · rw [li_5, nI_eq (by omega) (by decide)] at q3
      rw [if_neg (fun c => q3 c.2)]
      exact skip M z3 h
    rw [li_5, Decidable.not_not, nI_eq (by omega) (by decide)] at q3
    rw [if_pos ⟨q2, q3⟩, li_3, nI_add]
    refine ru_mono (bt (k := 3) h (by decide)) ?_
    rintro v M1 ⟨rfl, hM⟩
    subst hM
    have b3 := bb (i + 3)
    have b2 := bb (i + 2)
    have b4 := bb (i + 4)
    have b6 := bb (i + 6)
    have hN := rc_N h
    have hU := rc_U h
    have h1 := rc_old (M' := sm_new M 30 0 8) h (old_new (Nat.le_of_eq hN.symm)) rfl rfl (by show g.2.2.1 ≤ sm_N M + 1; omega)
    have main : ∀ bk, bk ≤ 1 → bk = (if (b_ P 36 t).getD (i + 3) 0 = 2 then 1 else 0) → sm_Run (D + 1) 124 0 (sm_ent 124 [.inr (some (g.1 10 t)), .inl (nI i + 2)]) [] (sm_new M 30 0 8) (fun v M1 => sm_Run (D + 2) 116 98 [some (.inr (some (g.1 8 d))), some (.inr (some (g.1 10 t))), some (.inl (nI i)), some (.inl (nI bk))] (v.toList ++ [.inr (some (sm_N M)), .inr (some (sm_N M)), .inl (sm_I M (g.1 8 d) 4), .inr (sm_R M (g.1 8 d) 3)]) M1 (fun r M' => r = none ∧ ∃ g', gx g g' ∧ gO n0 u0 g' (p_opL (p_mkP P d ((b_ P 36 t).getD (i + 2) 0) (if (b_ P 36 t).getD (i + 3) 0 = 2 then 1 else 0) ((b_ P 36 t).getD (i + 4) 0) ((b_ P 36 t).getD (i + 6) 0)) d t (i + 7) n) ∧ RC g' (p_opL (p_mkP P d ((b_ P 36 t).getD (i + 2) 0) (if (b_ P 36 t).getD (i + 3) 0 = 2 then 1 else 0) ((b_ P 36 t).getD (i + 4) 0) ((b_ P 36 t).getD (i + 6) 0)) d t (i + 7) n) M')) := by
      intro bk hbk hbke
      rw [← hbke, li_2, nI_add, rI_164 h hd, rd_8_3 h hd]
      refine ru_mono (bt (k := 2) h1 (by decide) :) ?_
      rintro v M2 ⟨rfl, hM⟩
      subst hM
      refine bb_116_98 ⟨_, rfl, (rc_K h1 l10 :), ?_⟩
      rw [li_4, nI_add]
      refine ru_mono (bt (k := 4) h1 (by decide) :) ?_
      rintro v M2 ⟨rfl, hM⟩
      subst hM
      refine bb_116_106 ⟨_, rfl, (rc_K h1 l10 :), ?_⟩
      rw [li_6, nI_add]
      refine ru_mono (bt (k := 6) h1 (by decide) :) ?_
      rintro v M2 ⟨rfl, hM⟩
      subst hM
      refine bb_116_114 ⟨_, rfl, ?_⟩
      refine ru_mono (c_pinit (D := D) (n0 := sm_N M) hbk (by rw [K_new, if_pos rfl]) (by rw [I_new, if_pos rfl]) (by rw [I_new, if_pos rfl]) (by rw [N_new]; omega)) ?_
      rintro v M3 ⟨rfl, hF, ho3, hN3, hU3⟩
      have ho' : old_ g.2.2.1 M M3 := by
        rw [← hN]
        exact old_tr (old_new (Nat.le_refl _)) ho3
      have hN3' : sm_N M3 = g.2.2.1 + 1 := by rw [hN3, N_new]; omega
      have hU3' : sm_U M3 = g.2.2.2 + 8 := by rw [hU3]; show sm_U M + 8 = _; omega
      have h3 := rc_old (M' := M3) h ho' rfl rfl (by omega)
      rw [hN] at hF
      have hF' : FP g.2.2.1 M3 g.2.2.1 ((b_ P 36 t).getD (i + 2) 0) bk ((b_ P 36 t).getD (i + 4) 0) ((b_ P 36 t).getD (i + 6) 0) := hF
      have h4 := rc_mkP h ho' (by omega) hd (by omega) hF' (hg.2.1 _ (Nat.le_refl _)) (by omega) (by omega) (by omega) (by omega) (by omega)
      rw [hN3', hU3'] at h4
      rw [hN]
      refine bb_116_117 ⟨_, rfl, ⟨9, (rc_K h3 l35 :), by decide, fun q hq => by cases hq; exact hF'.1⟩, (rc_in h3 l35 (by decide) (show s_ P 164 d < 6 by omega) (by decide) :), (rc_K h3 l8 :), ?_⟩
      have e8 : sm_I (sm_putR M3 (g.1 35 d) (nI (s_ P 164 d)).toNatClampNeg (some g.2.2.1)) (g.1 8 d) 4 = nI (s_ P 164 d) := (rI_164 h3 hd :)
      rw [e8, nI_1, nI_clamp (by omega), li_7, nI_add]
      have hgP := gO_P (a := g.2.2.1) (d := d) (ad := (b_ P 36 t).getD (i + 2) 0) (bk := bk) (sz := (b_ P 36 t).getD (i + 4) 0) (iv := (b_ P 36 t).getD (i + 6) 0) hg
      have hxP : gx g (gP g (s_ P 130 0) g.2.2.1 (g.2.2.1 + 1) (g.2.2.2 + 8)) := gx_P hg
      have e210 : s_ (p_mkP P d ((b_ P 36 t).getD (i + 2) 0) bk ((b_ P 36 t).getD (i + 4) 0) ((b_ P 36 t).getD (i + 6) 0)) 210 t = s_ P 210 t := mkP_o (by decide) (by decide) (by decide) (by decide)
      have := ih (i + 7) (gP g (s_ P 130 0) g.2.2.1 (g.2.2.1 + 1) (g.2.2.2 + 8)) (p_mkP P d ((b_ P 36 t).getD (i + 2) 0) bk ((b_ P 36 t).getD (i + 4) 0) ((b_ P 36 t).getD (i + 6) 0)) _ (some (.inl (nI bk))) h4 hgP (by rw [mkP_o (by decide) (by decide) (by decide) (by decide)]; exact ht) (by rw [e210]; exact ho) hb (by rw [s_mkP, if_pos ⟨rfl, rfl⟩]; omega) (by omega) (by rw [e210]; omega)
      rw [(hxP 8 d l8).2, (hxP 10 t l10).2] at this
      refine ru_mono this ?_
      rintro r M5 ⟨rfl, g', x1, x2, x3⟩
      exact ⟨rfl, g', gx_tr hxP x1, x2, x3⟩
    refine bb_116_69 ⟨fun q4 => ⟨rc_K h l8, _, rfl, (rc_K h1 l10 :), ?_⟩, fun q4 => ⟨rc_K h l8, _, rfl, (rc_K h1 l10 :), ?_⟩⟩
    · rw [li_2, nI_eq (by omega) (by decide)] at q4
      exact main 0 (by decide) (by rw [if_neg q4])
    · rw [li_2, Decidable.not_not, nI_eq (by omega) (by decide)] at q4
      exact main 1 (by decide) (by rw [if_pos q4])
theorem c_open {n0 u0 d : Nat} (h : RC g P M) (hg : gO n0 u0 g P) (hd : d < 6) (hc : s_ P 165 d ≠ 0 → s_ P 210 (s_ P 165 d - 1) ≤ (b_ P 36 (s_ P 165 d - 1)).length ∧ ∀ x ∈ b_ P 36 (s_ P 165 d - 1), x < 256) (h130 : s_ P 130 0 < 2 ^ 29) : sm_Run (D + 2) 116 0 (sm_ent 116 [.inr (some (g.1 8 d))]) [] M (fun r M' => r = none ∧ ∃ g', gx g g' ∧ gO n0 u0 g' (p_open P d) ∧ RC g' (p_open P d) M') := by
  have l8 := rc_st h (c := 8) hd
  have h1 : RC g (pS P 160 d 2) (sm_putI M (g.1 8 d) 0 2) := rc_w' h l8 (show 2 < 2 ^ 31 by decide)
  have r5 : sm_R (sm_putI M (g.1 8 d) 0 2) (g.1 8 d) 5 = if s_ P 165 d = 0 then none else some (g.1 10 (s_ P 165 d - 1)) := (rd_8_5 h hd :)
  unfold p_open
  by_cases q : s_ P 165 d = 0
  · rw [if_pos q] at r5 ⊢
    refine bb_116_0 ⟨rc_K h l8, fun _ => ⟨rfl, g, gx_rf, gO_S hg (by decide) (by decide), h1⟩, fun b hb => ?_⟩
    rw [r5] at hb; cases hb
  · rw [if_neg q] at r5 ⊢
    refine bb_116_0 ⟨rc_K h l8, fun hb => ?_, fun b hb => ?_⟩
    · rw [r5] at hb; cases hb
    rw [r5]
    have hlt : s_ P 165 d - 1 < s_ (pS P 160 d 2) 122 0 := by
      have := (h.1.2.2.2.2.2.2.2 d hd).1
      rw [s_S, if_neg (by omega)]; omega
    obtain ⟨c1, c2⟩ := hc q
    have h100 := (r_36 h1 hlt).2.1
    rw [b_S] at h100
    have e210 : s_ (pS P 160 d 2) 210 (s_ P 165 d - 1) = s_ P 210 (s_ P 165 d - 1) := by simp only [s_S, Nat.reduceEqDiff, false_and, if_false]
    exact c_opL hd 13 18 g _ _ none h1 (gO_S hg (by decide) (by decide)) hlt (by rw [e210]; exact c1) c2 (by rw [s_S, if_neg (by omega)]; omega) (by decide) (by rw [e210]; omega)
end PI
