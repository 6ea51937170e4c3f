/-! The reference's host asks and gives. -/
section WG
variable {a : Nat} {ra : Nat → Nat} {R R' : Nat → Nat → Int32} {M : sm_M} {D : Nat} {P P' : pP} {d : Nat}
def prT (P : pP) (k n : Nat) : pP := pS (p_rst P (nk P) 0 k) 142 (nk P) n
def prD (P : pP) (k : Nat) (l : List Nat) : pP := pB (p_rst P (nk P) 0 k) 7 (nk P) l
theorem rst_s {s k f i : Nat} (hf : ¬ (140 ≤ f ∧ f < 160 ∧ i = nk P)) : s_ (p_rst P (nk P) s k) f i = s_ P f i := by
  unfold p_rst
  rw [s_S, if_neg (by omega), s_B, s_S, if_neg (by omega), s_S, if_neg (by omega), s_S, if_neg (by omega)]
theorem rst_b {s k c i : Nat} (hc : ¬ (c = 7 ∧ i = nk P)) : b_ (p_rst P (nk P) s k) c i = b_ P c i := by
  unfold p_rst
  rw [b_S, b_B, if_neg (by omega), b_S, b_S, b_S]
theorem ex_rst {s k : Nat} (hx : EX P) (hs : s < 2 ^ 31) (hk : k < 2 ^ 31) : EX (p_rst P (nk P) s k) := by
  obtain ⟨g, M, h⟩ := hx
  obtain ⟨v, M', -, h'⟩ := ru_ex (c_blank (D := 0) (s := s) (k := k) h hs hk)
  exact ⟨g, M', h'⟩
theorem prT_s {k n f i : Nat} (hf : ¬ (140 ≤ f ∧ f < 160 ∧ i = nk P)) : s_ (prT P k n) f i = s_ P f i := by
  unfold prT; rw [s_S, if_neg (by omega), rst_s hf]
theorem prT_b {k n c i : Nat} (hc : ¬ (c = 7 ∧ i = nk P)) : b_ (prT P k n) c i = b_ P c i := by
  unfold prT; rw [b_S, rst_b hc]
theorem prD_s {k f i : Nat} {l : List Nat} (hf : ¬ (140 ≤ f ∧ f < 160 ∧ i = nk P)) : s_ (prD P k l) f i = s_ P f i := by
  unfold prD; rw [s_B, rst_s hf]
theorem prD_b {k c i : Nat} {l : List Nat} (hc : ¬ (c = 7 ∧ i = nk P)) : b_ (prD P k l) c i = b_ P c i := by
  unfold prD; rw [b_B, if_neg (by omega), rst_b hc]
theorem pr_so (hs : ∀ f i, ¬ (140 ≤ f ∧ f < 160 ∧ i = nk P) → s_ P' f i = s_ P f i) (hb : ∀ c i, ¬ (c = 7 ∧ i = nk P) → b_ P' c i = b_ P c i) (d : Nat) : SO d P P' := by
  have := nk_60 (P := P)
  exact so_all (fun f i hf => hs f i (by omega)) (fun f i hf hi => hs f i (by omega)) (fun i hi => hb 7 i (by omega)) (fun c i hc => hb c i (by omega)) d
theorem pr_wx (hW : WX P) (hx : EX P') (hs : ∀ f i, ¬ (140 ≤ f ∧ f < 160 ∧ i = nk P) → s_ P' f i = s_ P f i) (hb : ∀ c i, ¬ (c = 7 ∧ i = nk P) → b_ P' c i = b_ P c i) (hp : PKo P' (nk P)) (kk : okK (s_ P' 141 (nk P))) (h0 : s_ P' 140 (nk P) < 7) : WX P' := by
  have h60 := nk_60 (P := P)
  obtain ⟨w1, w2, w3⟩ := hW
  refine ⟨wi_so w1 hx (fun d _ => pr_so hs hb d), fun j hj hS => ?_, fun d hd => so_IK (pr_so hs hb d) (w3 d hd)⟩
  rw [hs _ _ (by omega)] at hS
  by_cases q : j = nk P
  · subst q; exact ⟨hp, kk, h0, ex_7 hx (by omega)⟩
  · unfold PKo
    rw [hs _ _ (by omega), hs _ _ (by omega), hs _ _ (by omega), hb _ _ (by omega)]
    exact w2 j hj hS
theorem pr_wr (hW : WX P) (hR : WR P R) (hs : ∀ f i, ¬ (140 ≤ f ∧ f < 160 ∧ i = nk P) → s_ P' f i = s_ P f i) (hb : ∀ c i, ¬ (c = 7 ∧ i = nk P) → b_ P' c i = b_ P c i) (hf : f_ P' = f_ P) (hr : ∀ f i, f ≤ 36 ∨ f = 55 → R' f i = R f i) : WR P' R' := by
  obtain ⟨h1, h2, h3, h4⟩ := hR
  refine ⟨fun d hd => relX_cg (pr_so hs hb d) (fun f i o n => hr f i (by unfold ownR at o; omega)) hW.1.1 hd (wi_HD hW.1 hd) (h1 d hd), rf_cg h2 (hs _ _ (by omega)) hf (fun f i hf => hr f i (by omega)), ?_, fun i hi => ?_⟩
  · rw [hr _ _ (by decide), hs _ _ (by omega)]; exact h3
  · rw [hr _ _ (by decide)]; exact h4 i hi
theorem pr_rk (hK : RK P R) (hn : nk P' = nk P) (hs : ∀ f i, ¬ (140 ≤ f ∧ f < 160 ∧ i = nk P) → s_ P' f i = s_ P f i) (hb : ∀ c i, ¬ (c = 7 ∧ i = nk P) → b_ P' c i = b_ P c i) (hr : ∀ f i, 37 ≤ f ∧ f ≤ 45 → R' f i = R f i) : RKw P' R' := by
  intro j hj hS hj'
  rw [hs _ _ (by omega)] at hS
  rw [hn] at hj'
  exact relK_cg (hK j hj hS) (fun f hf => hs f j (by omega)) (hb 7 j (by omega)) hr
theorem pr_w0 (h : W0 P) (hs : ∀ f i, ¬ (140 ≤ f ∧ f < 160 ∧ i = nk P) → s_ P' f i = s_ P f i) : W0 P' := fun d hd => by rw [hs _ _ (by omega)]; exact h d hd
theorem ex_prT {k n : Nat} (hx : EX P) (hk : k < 16) (hn : n < 2048) : EX (prT P k n) := by
  obtain ⟨g, M, h⟩ := ex_rst (s := 0) (k := k) hx (by decide) (by omega)
  exact ⟨g, _, rc_w' (c := 7) (k := 2) h (lq_p h (show nk P < 66 by have := nk_60 (P := P); omega)).1 (by omega)⟩
theorem nk_prT {k n : Nat} : nk (prT P k n) = nk P := by unfold nk; rw [prT_s (by omega)]
theorem nk_prD {k : Nat} {l : List Nat} : nk (prD P k l) = nk P := by unfold nk; rw [prD_s (by omega)]
theorem rdy_prT {k n : Nat} (hk : k < 16) (kk : okK k) (k3 : k ≠ 3) (hn : n < 2048) : Rdy (prT P k n) (nk P) 0 := by
  have e140 : s_ (prT P k n) 140 (nk P) = 0 := by unfold prT p_rst; simp only [s_S, s_B, s_F, b_S, b_B, b_F, f_S, f_B, Nat.reduceEqDiff, false_and, and_false, true_and, and_true, and_self, if_true, if_false, reduceIte, ite_self]
  have e141 : s_ (prT P k n) 141 (nk P) = k := by unfold prT p_rst; simp only [s_S, s_B, s_F, b_S, b_B, b_F, f_S, f_B, Nat.reduceEqDiff, false_and, and_false, true_and, and_true, and_self, if_true, if_false, reduceIte, ite_self]
  have e142 : s_ (prT P k n) 142 (nk P) = n := by unfold prT p_rst; simp only [s_S, s_B, s_F, b_S, b_B, b_F, f_S, f_B, Nat.reduceEqDiff, false_and, and_false, true_and, and_true, and_self, if_true, if_false, reduceIte, ite_self]
  have e145 : s_ (prT P k n) 145 (nk P) = 0 := by unfold prT p_rst; simp only [s_S, s_B, s_F, b_S, b_B, b_F, f_S, f_B, Nat.reduceEqDiff, false_and, and_false, true_and, and_true, and_self, if_true, if_false, reduceIte, ite_self]
  have e7 : b_ (prT P k n) 7 (nk P) = [] := by unfold prT p_rst; simp only [s_S, s_B, s_F, b_S, b_B, b_F, f_S, f_B, Nat.reduceEqDiff, false_and, and_false, true_and, and_true, and_self, if_true, if_false, reduceIte, ite_self]
  refine ⟨nk_prT, e140, by decide, ⟨by rw [e141]; exact hk, by rw [e142]; exact hn, by rw [e7]; exact b8_nil⟩, by rw [e141]; exact kk, e145, fun d => Or.inl (by omega), fun d hd _ _ q => ?_⟩
  rw [e141] at q; exact absurd q k3
theorem rdy_prD {k : Nat} {l : List Nat} (hk : k = 3 ∨ k = 11 ∨ k = 2) (hl : B8 l) (sa : ∀ d, d < 6 → s_ P 83 d ≠ 0 → s_ P 89 d = 14 → k = 3 → l.length = 8 → lwh l = 5 → 1 ≤ l16 l 2 → l16 l 2 ≤ 127 → l16 l 2 = d + 1 ∧ s_ P 83 d = 1) : Rdy (prD P k l) (nk P) 0 := by
  have e140 : s_ (prD P k l) 140 (nk P) = 0 := by unfold prD p_rst; simp only [s_S, s_B, s_F, b_S, b_B, b_F, f_S, f_B, Nat.reduceEqDiff, false_and, and_false, true_and, and_true, and_self, if_true, if_false, reduceIte, ite_self]
  have e141 : s_ (prD P k l) 141 (nk P) = k := by unfold prD p_rst; simp only [s_S, s_B, s_F, b_S, b_B, b_F, f_S, f_B, Nat.reduceEqDiff, false_and, and_false, true_and, and_true, and_self, if_true, if_false, reduceIte, ite_self]
  have e142 : s_ (prD P k l) 142 (nk P) = 0 := by unfold prD p_rst; simp only [s_S, s_B, s_F, b_S, b_B, b_F, f_S, f_B, Nat.reduceEqDiff, false_and, and_false, true_and, and_true, and_self, if_true, if_false, reduceIte, ite_self]
  have e145 : s_ (prD P k l) 145 (nk P) = 0 := by unfold prD p_rst; simp only [s_S, s_B, s_F, b_S, b_B, b_F, f_S, f_B, Nat.reduceEqDiff, false_and, and_false, true_and, and_true, and_self, if_true, if_false, reduceIte, ite_self]
  have e7 : b_ (prD P k l) 7 (nk P) = l := by unfold prD p_rst; simp only [s_S, s_B, s_F, b_S, b_B, b_F, f_S, f_B, Nat.reduceEqDiff, false_and, and_false, true_and, and_true, and_self, if_true, if_false, reduceIte, ite_self]
  refine ⟨nk_prD, e140, by decide, ⟨by rw [e141]; omega, by rw [e142]; decide, by rw [e7]; exact hl⟩, by rw [e141]; unfold okK isDat; omega, e145, fun d => Or.inl (by omega), fun d hd => ?_⟩
  rw [e141, e7, prD_s (by omega), prD_s (by omega)]
  exact sa d hd
/-- a token is told -/
theorem r_tellT {k n : Nat} {x3 x4 : Int32} (h : RM a ra R M) (hW : WX P) (h0 : W0 P) (hR : WR P R) (hK : RK P R) (hS : s_ P 228 0 + 1 < 2 ^ 31) (hk : k < 16) (kk : okK k) (k3 : ¬ isDat k) (hn : n < 2048) (ht : isTok k → x3 = nI (n % 128) ∧ x4 = nI (n / 128)) (h5 : k = 5 → x3 = nI n) : sm_Run (D + 5) 178 0 (sm_ent 178 [.inr (some a), .inl (nI k), .inl x3, .inl x4, .inl (nI 0)]) [] M (fun v M' => v = none ∧ ∃ R', RM a ra R' M' ∧ TL (prT P k n) R R' ∧ (k ≠ 9 → W0 (p_carry (prT P k n)).1)) := by
  have e141 : s_ (prT P k n) 141 (nk P) = k := by unfold prT p_rst; simp only [s_S, s_B, s_F, b_S, b_B, b_F, f_S, f_B, Nat.reduceEqDiff, false_and, and_false, true_and, and_true, and_self, if_true, if_false, reduceIte, ite_self]
  have e142 : s_ (prT P k n) 142 (nk P) = n := by unfold prT p_rst; simp only [s_S, s_B, s_F, b_S, b_B, b_F, f_S, f_B, Nat.reduceEqDiff, false_and, and_false, true_and, and_true, and_self, if_true, if_false, reduceIte, ite_self]
  have e7 : b_ (prT P k n) 7 (nk P) = [] := by unfold prT p_rst; simp only [s_S, s_B, s_F, b_S, b_B, b_F, f_S, f_B, Nat.reduceEqDiff, false_and, and_false, true_and, and_true, and_self, if_true, if_false, reduceIte, ite_self]
  have rd := rdy_prT (P := P) (k := k) (n := n) hk kk (fun q => k3 (Or.inl q)) hn
  have xp := ex_prT hW.1.1 hk hn
  have wp : WX (prT P k n) := pr_wx hW xp (fun f i hf => prT_s hf) (fun c i hc => prT_b hc) rd.pk rd.kk (by rw [rd.sn]; decide)
  have w0 := pr_w0 (P' := prT P k n) h0 (fun f i hf => prT_s hf)
  have hS' : s_ (prT P k n) 228 0 + 1 < 2 ^ 31 := by rw [prT_s (by omega)]; exact hS
  have := r_tell (D := D) (x3 := x3) (x4 := x4) h wp w0 (pr_wr hW hR (fun f i hf => prT_s hf) (fun c i hc => prT_b hc) rfl (fun _ _ _ => rfl)) (pr_rk hK nk_prT (fun f i hf => prT_s hf) (fun c i hc => prT_b hc) (fun _ _ _ => rfl)) hS' rd (by rw [e141, e142]; exact ht) (by rw [e141, e142]; exact h5) (by rw [e7]; intro i hi; cases hi)
  rw [e141, e7] at this
  refine ru_mono this ?_
  rintro v M1 ⟨rfl, R1, h1, t⟩
  refine ⟨rfl, R1, h1, t, fun q9 => w0_carry wp w0 hS' rd (fun d hd _ c => ?_)⟩
  have c2 := c.2
  rw [e141] at c2
  rcases c2 with c2 | c2
  · exact q9 c2.1
  · exact k3 c2.1
theorem carry_228' (P : pP) (h6 : ∀ d, d < 6 → s_ P 86 d ≤ 6) : s_ (p_carry P).1 228 0 = s_ P 228 0 + 1 := by
  have h6' : ∀ d, d < 6 → s_ (c2 P) 86 d ≤ 6 := fun d hd => by rw [so_s (c2_so d) (by decide)]; exact h6 d hd
  rw [carry_c2]
  show s_ (p_hears (c2 P) (s_ P 140 (nk P)) (p_carry1 P).2 6) 228 0 = _
  rw [hears_K h6' (fun d => by unfold own; omega) 6 (Nat.le_refl _), c2_228]
theorem prT_228 {k n : Nat} (hW : WX P) : s_ (p_carry (prT P k n)).1 228 0 = s_ P 228 0 + 1 := by
  rw [carry_228' _ (fun d hd => by rw [prT_s (by omega)]; exact ex_86 hW.1.1 hd), prT_s (by omega)]
theorem prD_228 {k : Nat} {l : List Nat} (hW : WX P) : s_ (p_carry (prD P k l)).1 228 0 = s_ P 228 0 + 1 := by
  rw [carry_228' _ (fun d hd => by rw [prD_s (by omega)]; exact ex_86 hW.1.1 hd), prD_s (by omega)]
/-- WireBusModel.askIn -/
theorem r_askIn {n : Nat} (h : RM a ra R M) (hW : WX P) (h0 : W0 P) (hR : WR P R) (hK : RK P R) (hS : s_ P 228 0 + 2 < 2 ^ 31) (hn : n < 2048) : sm_Run (D + 6) 180 0 (sm_ent 180 [.inr (some a), .inl (nI (n % 128)), .inl (nI (n / 128))]) [] M (fun v M' => v = none ∧ ∃ R', RM a ra R' M' ∧ HR (p_carry (prT P 9 n)).1 R R') := by
  refine bb_180_0 ⟨h.1, ?_⟩
  refine ru_mono (r_tellT (k := 9) h hW h0 hR hK (by omega) (by decide) (Or.inl (by decide)) (by unfold isDat; decide) hn (fun _ => ⟨rfl, rfl⟩) (fun q => absurd q (by decide))) ?_
  rintro v M1 ⟨rfl, R1, h1, ⟨t1, t2, t3, t4, t5⟩, -⟩
  refine bb_180_9 ⟨h1.1, ?_⟩
  refine ru_mono (r_hearA h1 t1 t2 t3 t4 (by rw [prT_228 hW]; omega)) ?_
  rintro v M2 ⟨rfl, R2, h2, h3⟩
  obtain ⟨g1, g2, g3, g4, g5, g6, g7⟩ := h3
  refine bb_180_13 ⟨rfl, R2, h2, g1, g2, g3, g4, g5, g6, fun f i hf hn => ?_⟩
  rw [g7 f i hf hn]; exact t5 f i hf
/-- bytes are told -/
theorem r_tellD {k : Nat} {l : List Nat} {x3 x4 : Int32} (h : RM a ra R M) (hW : WX P) (h0 : W0 P) (hR : WR P R) (hK : RK P R) (hS : s_ P 228 0 + 1 < 2 ^ 31) (hx : EX (prD P k l)) (hk : k = 3 ∨ k = 11 ∨ k = 2) (hl : B8 l) (sa : ∀ d, d < 6 → s_ P 83 d ≠ 0 → s_ P 89 d = 14 → k = 3 → l.length = 8 → lwh l = 5 → 1 ≤ l16 l 2 → l16 l 2 ≤ 127 → l16 l 2 = d + 1 ∧ s_ P 83 d = 1) (hb : ∀ i, i < l.length → R 52 i = nI (l.getD i 0)) : sm_Run (D + 5) 178 0 (sm_ent 178 [.inr (some a), .inl (nI k), .inl x3, .inl x4, .inl (nI l.length)]) [] M (fun v M' => v = none ∧ ∃ R', RM a ra R' M' ∧ TL (prD P k l) R R' ∧ (k = 2 → W0 (p_carry (prD P k l)).1)) := by
  have e141 : s_ (prD P k l) 141 (nk P) = k := by unfold prD p_rst; simp only [s_S, s_B, s_F, b_S, b_B, b_F, f_S, f_B, Nat.reduceEqDiff, false_and, and_false, true_and, and_true, and_self, if_true, if_false, reduceIte, ite_self]
  have e7 : b_ (prD P k l) 7 (nk P) = l := by unfold prD p_rst; simp only [s_S, s_B, s_F, b_S, b_B, b_F, f_S, f_B, Nat.reduceEqDiff, false_and, and_false, true_and, and_true, and_self, if_true, if_false, reduceIte, ite_self]
  have rd := rdy_prD (P := P) (k := k) (l := l) hk hl sa
  have wp : WX (prD P k l) := pr_wx hW hx (fun f i hf => prD_s hf) (fun c i hc => prD_b hc) rd.pk rd.kk (by rw [rd.sn]; decide)
  have w0 := pr_w0 (P' := prD P k l) h0 (fun f i hf => prD_s hf)
  have hS' : s_ (prD P k l) 228 0 + 1 < 2 ^ 31 := by rw [prD_s (by omega)]; exact hS
  have := r_tell (D := D) (x3 := x3) (x4 := x4) h wp w0 (pr_wr hW hR (fun f i hf => prD_s hf) (fun c i hc => prD_b hc) rfl (fun _ _ _ => rfl)) (pr_rk hK nk_prD (fun f i hf => prD_s hf) (fun c i hc => prD_b hc) (fun _ _ _ => rfl)) hS' rd (by rw [e141]; intro t; unfold isTok at t; omega) (by rw [e141]; intro t; omega) (by rw [e7]; exact hb)
  rw [e141, e7] at this
  refine ru_mono this ?_
  rintro v M1 ⟨rfl, R1, h1, t⟩
  refine ⟨rfl, R1, h1, t, fun q2 => w0_carry wp w0 hS' rd (fun d hd _ c => ?_)⟩
  have c2 := c.2
  rw [e141] at c2
  rcases c2 with c2 | c2
  · omega
  · have := c2.1; unfold isDat at this; omega
/-- WireBusModel.giveOut -/
theorem r_giveOut {k n dk : Nat} {l : List Nat} (h : RM a ra R M) (hW : WX P) (h0 : W0 P) (hR : WR P R) (hK : RK P R) (hS : s_ P 228 0 + 3 < 2 ^ 31) (hn : n < 2048) (hk : k = 13 ∨ k = 1) (hdk : dk = 3 ∨ dk = 11) (hl : B8 l) (h64 : l.length ≤ 64) (hx : EX (prD (p_carry (prT P k n)).1 dk l)) (sa : ∀ d, d < 6 → s_ (p_carry (prT P k n)).1 83 d ≠ 0 → s_ (p_carry (prT P k n)).1 89 d = 14 → dk = 3 → l.length = 8 → lwh l = 5 → 1 ≤ l16 l 2 → l16 l 2 ≤ 127 → l16 l 2 = d + 1 ∧ s_ (p_carry (prT P k n)).1 83 d = 1) (hb : ∀ i, i < l.length → R 83 i = nI (l.getD i 0)) : sm_Run (D + 6) 181 0 (sm_ent 181 [.inr (some a), .inl (nI k), .inl (nI (n % 128)), .inl (nI (n / 128)), .inl (nI dk), .inl (nI l.length)]) [] M (fun v M' => v = none ∧ ∃ R', RM a ra R' M' ∧ HR (p_carry (prD (p_carry (prT P k n)).1 dk l)).1 R R') := by
  refine bb_181_0 ⟨h.1, ?_⟩
  refine ru_mono (r_tellT (k := k) h hW h0 hR hK (by omega) (by omega) (Or.inl (by omega)) (by unfold isDat; omega) hn (fun _ => ⟨rfl, rfl⟩) (fun q => by omega)) ?_
  rintro v M1 ⟨rfl, R1, h1, ⟨t1, t2, t3, t4, t5⟩, t6⟩
  have w0 := t6 (by omega)
  have e228 := prT_228 (k := k) (n := n) hW
  generalize (p_carry (prT P k n)).1 = Q at *
  refine bb_181_8 ?_
  have key : ∀ (m i : Nat) (M2 : sm_M), i + m = l.length → RM a ra (rowU R1 52 0 i (fun i => R1 83 i)) M2 → sm_Run (D + 6) 181 11 [some (.inr (some a)), some (.inl (nI k)), some (.inl (nI (n % 128))), some (.inl (nI (n / 128))), some (.inl (nI dk)), some (.inl (nI l.length)), some (.inl (nI i))] [] M2 (fun v M' => v = none ∧ ∃ R', RM a ra R' M' ∧ HR (p_carry (prD Q dk l)).1 R R') := by
    intro m
    induction m with
    | zero =>
      intro i M2 hi h2
      obtain rfl : i = l.length := by omega
      have f2 : ∀ f i, f ≠ 52 → rowU R1 52 0 l.length (fun i => R1 83 i) f i = R1 f i := fun f i hf => by rw [rowU_r, if_neg (by omega)]
      refine bb_181_11 ⟨fun _ => ⟨h2.1, ?_⟩, fun q => absurd (nI_le (Nat.le_refl _) (by omega)) q⟩
      refine ru_mono (r_tellD (k := dk) (l := l) (x3 := 0) (x4 := 0) h2 t1 w0 (wr_cg t2 t1.1 (fun f i hf => f2 f i (by omega))) (fun j j1 j2 => relK_cg (t3 j j1 j2) (fun _ _ => rfl) rfl (fun f i hf => f2 f i (by omega))) (by omega) hx (by omega) hl sa (fun i hi => ?_)) ?_
      · rw [rowU_r, if_pos (by omega), Nat.sub_zero, t5 _ _ (by decide)]; exact hb i hi
      rintro v M3 ⟨rfl, R3, h3, ⟨u1, u2, u3, u4, u5⟩, -⟩
      refine bb_181_48 ⟨h3.1, ?_⟩
      refine ru_mono (r_hearA h3 u1 u2 u3 u4 (by rw [prD_228 t1]; omega)) ?_
      rintro v M4 ⟨rfl, R4, h4, g1, g2, g3, g4, g5, g6, g7⟩
      refine bb_181_52 ⟨rfl, R4, h4, g1, g2, g3, g4, g5, g6, fun f i hf hn => ?_⟩
      rw [g7 f i hf hn, u5 f i hf, f2 f i (by omega)]; exact t5 f i hf
    | succ m ih =>
      intro i M2 hi h2
      refine bb_181_11 ?_
      simp (disch := first | assumption | omega | decide) only [rd_r83 h2, rR_83 h2, rN_83 h2, rW_83 h2, rA_83 h2, rd_r52 h2, rR_52 h2, rN_52 h2, rW_52 h2, rA_52 h2, rk_39 h2, ↓li_m1, li_0, li_1, li_2, li_3, li_4, li_5, li_6, li_7, li_8, li_9, li_10, li_11, li_12, li_13, li_14, li_16, li_18, li_20, li_32, li_36, li_40, li_50, li_60, li_64, li_100, li_127, li_128, li_200, li_255, li_256, li_290, li_300, li_336, li_512, li_513, li_515, li_660, li_2048, li_16385, li_32768, li_32774, li_32776, li_33280, li_49153, nI_add, pk_mul, nI_eq, nI_leI, nI_ltI, pk_sub, nI_clamp, Decidable.not_not, Nat.reduceAdd, Nat.reduceMul, Option.some.injEq, exists_eq_left', exists_eq_left, forall_eq', reduceCtorEq, false_implies, forall_const, true_and, and_true, not_false_eq_true, not_true_eq_false, Nat.reduceEqDiff, Ip_r h2, Ip_a h2, Ip_b h2, I_put_s, I_put_k, Rp_j, u2_r, rowU_r, false_and, and_false, if_false, if_true, reduceIte]
      refine ⟨fun q => by omega, fun _ => ?_⟩
      refine ih (i + 1) _ (by omega) ?_
      have := rm_wr h2 (f := 52) (j := 0 + i) (v := R1 83 i)
      rw [rowU_s (v := fun i => R1 83 i), Nat.zero_add] at this
      exact this
  exact key l.length 0 M1 (by omega) (by rw [rowU_0]; exact h1)
end WG
