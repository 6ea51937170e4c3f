/-! The reference's host speaks and listens. -/
section WE
variable {a : Nat} {ra : Nat → Nat} {R R' : Nat → Nat → Int32} {M : sm_M} {D : Nat} {P P' : pP} {d : Nat}
def WX (P : pP) : Prop := WI P ∧ KI P ∧ ∀ d, d < 6 → IK P d
def FrH (R R' : Nat → Nat → Int32) : Prop := ∀ f i, f < 4 ∨ 55 ≤ f → R' f i = R f i
theorem hears_KI {s : Nat} {r : Option Nat} (h6 : ∀ d, d < 6 → s_ P 86 d ≤ 6) (h : KI P) : KI (p_hears P s r 6) := by
  intro j hj hS
  rw [hears_K h6 (fun d => by unfold own; omega) 6 (Nat.le_refl _)] at hS
  unfold PKo
  rw [hears_K h6 (own_j hj (by decide)) 6 (Nat.le_refl _), hears_K h6 (own_j hj (by decide)) 6 (Nat.le_refl _), hears_K h6 (own_j hj (by decide)) 6 (Nat.le_refl _), hears_KB h6 (ownB_j hj) 6 (Nat.le_refl _)]
  exact h j hj hS
/-- a packet that is ready -/
def Rdy (P : pP) (j s : Nat) : Prop := nk P = j ∧ s_ P 140 j = s ∧ s < 7 ∧ PKo P j ∧ okK (s_ P 141 j) ∧ s_ P 145 j = 0 ∧ (∀ d, s ≠ d + 1 ∨ ¬ isTok (s_ P 141 j)) ∧ ∀ d, d < 6 → s_ P 83 d ≠ 0 → s_ P 89 d = 14 → s_ P 141 j = 3 → (b_ P 7 j).length = 8 → lwh (b_ P 7 j) = 5 → 1 ≤ l16 (b_ P 7 j) 2 → l16 (b_ P 7 j) 2 ≤ 127 → l16 (b_ P 7 j) 2 = d + 1 ∧ s_ P 83 d = 1
theorem Rdy.nk {j s : Nat} (h : Rdy P j s) : nk P = j := h.1
theorem Rdy.sn {j s : Nat} (h : Rdy P j s) : s_ P 140 j = s := h.2.1
theorem Rdy.s7 {j s : Nat} (h : Rdy P j s) : s < 7 := h.2.2.1
theorem Rdy.pk {j s : Nat} (h : Rdy P j s) : PKo P j := h.2.2.2.1
theorem Rdy.kk {j s : Nat} (h : Rdy P j s) : okK (s_ P 141 j) := h.2.2.2.2.1
theorem Rdy.st {j s : Nat} (h : Rdy P j s) : s_ P 145 j = 0 := h.2.2.2.2.2.1
theorem Rdy.tk {j s : Nat} (h : Rdy P j s) : ∀ d, s ≠ d + 1 ∨ ¬ isTok (s_ P 141 j) := h.2.2.2.2.2.2.1
theorem wx_c2 {j s : Nat} (hW : WX P) (hS : s_ P 228 0 + 1 < 2 ^ 31) (hr : Rdy P j s) : WX (c2 P) := by
  obtain ⟨rfl, rfl, r2, r3, r4, r5, r6, r7⟩ := hr
  obtain ⟨w1, w2, w3⟩ := hW
  exact ⟨c2_WI w1 hS r3, c2_KI w2 r3 r4 r2 (ex_7 w1.1 (by have := nk_60 (P := P); omega)), fun d hd => so_IK (c2_so d) (w3 d hd)⟩
/-- the wire's invariant, after a packet -/
theorem wx_carry {j s : Nat} (hW : WX P) (hS : s_ P 228 0 + 1 < 2 ^ 31) (hr : Rdy P j s) : WX (p_carry P).1 := by
  have hW2 := wx_c2 hW hS hr
  obtain ⟨rfl, rfl, r2, r3, r4, r5, r6, r7⟩ := hr
  obtain ⟨w1, w2, w3⟩ := hW2
  have h6 : ∀ d, d < 6 → s_ (c2 P) 86 d ≤ 6 := fun d hd => ex_86 w1.1 hd
  have k1 : ∀ f, f = 141 ∨ f = 142 → s_ (c2 P) f (nk P) = s_ P f (nk P) := fun f hf => c2_s (by omega)
  have k2 : b_ (c2 P) 7 (nk P) = b_ P 7 (nk P) := c2_b (by decide)
  rw [carry_c2]
  refine ⟨?_, hears_KI h6 w2, fun d hd => ik_hears h6 w3 (fun j e => ?_) hd⟩
  · rcases c1_2 (P := P) with e | e
    · rw [e]
      obtain ⟨x6, i6⟩ := hears_ex0 (s := s_ P 140 (nk P)) w1.1 w1.2.1 6 (Nat.le_refl _)
      exact wi_hears w1 x6 i6 (fun j e => by cases e) (fun d => Or.inr (fun j e => by cases e)) (fun d j _ e => by cases e)
    · rw [e]
      refine wi_hears w1 (hears_ex w1.1 w1.2.1 nk_60 (c2_PK r3) 6 (Nat.le_refl _)) (fun d hd => hears_ID w1.1 w1.2.1 nk_60 (c2_PK r3) 6 (Nat.le_refl _) d hd) (fun j e => by cases e; exact nk_60) (fun d => ?_) (fun d j hd e => ?_)
      · rcases r6 d with q | q
        · exact Or.inl q
        · refine Or.inr (fun j e => ?_)
          cases e
          rw [k1 141 (by decide)]; exact q
      · cases e
        rw [k1 141 (by decide), k2, so_s (c2_so d) (by decide), so_s (c2_so d) (by decide)]
        exact r7 d hd
  · rcases c1_2 (P := P) with e' | e'
    · rw [e'] at e; cases e
    · rw [e'] at e; cases e
      exact ⟨nk_60, by rw [k2]; exact r3.2.2⟩
/-- goes, then comes -/
def TL (P : pP) (R R' : Nat → Nat → Int32) : Prop := WX (p_carry P).1 ∧ WR (p_carry P).1 R' ∧ RK (p_carry P).1 R' ∧ AnsI (p_carry P).1 R' ∧ FrH R R'
theorem c_sound (hW : WI P) (hR : WR P R) (hk : RKw P R) (hKI : KI P) (hG : GOr P R R') (hn : (p_carry1 P).2 = some (nk P)) : WR (c2 P) R' ∧ RK (c2 P) R' := by
  obtain ⟨g1, g2, g3, g4, g5, g6, g7⟩ := id hG
  refine ⟨⟨fun d hd => ?_, c2_RF hG, ?_, fun i hi => ?_⟩, c2_RK hk (fun j hj hS => (hKI j hj hS).2.2.2) hG⟩
  · refine relX_cg (c2_so d) (fun f i o n => ?_) hW.1 hd (wi_HD hW hd) (hR.1 d hd)
    by_cases q : f = 19
    · subst q
      have e : i = d := by unfold ownR at o; omega
      rw [e, g5 d hd, if_pos (Or.inl (by rw [hn]; simp))]
    · exact g6 f i q (by unfold ownR at o; omega)
  · rw [c2_228]; exact g3
  · rw [g6 _ _ (by decide) (by decide)]; exact hR.2.2.2 i hi
theorem r_comesW {j s : Nat} (h : RM a ra R M) (hW : WX P) (h0 : W0 P) (hR : WR P R) (hk : RK P R) (hj : j < 60) (hj' : j < s_ P 228 0) (h50 : R 50 0 = nI j) (hs : s < 7) : sm_Run (D + 4) 161 0 (sm_ent 161 [.inr (some a), .inl (nE s)]) [] M (fun v M' => v = none ∧ ∃ R', RM a ra R' M' ∧ WR (p_hears P s (some j) 6) R' ∧ RK (p_hears P s (some j) 6) R' ∧ AnsI (p_hears P s (some j) 6) R' ∧ FrA R R') := by
  obtain ⟨w1, w2, w3⟩ := hW
  have h6 : ∀ d, d < 6 → s_ P 86 d ≤ 6 := fun d hd => ex_86 w1.1 hd
  refine ru_mono (r_comes h w1.1 hR.1 w1.2.1 hj h50 hs (hk j hj hj') (w2 j hj hj').1 hR.2.2.2 h0 (fun d d' hd hd' c c' => wi_cand w1 hd hd' c c')) ?_
  rintro v M1 ⟨rfl, R', h1, X1, fA, A1⟩
  have e228 : s_ (p_hears P s (some j) 6) 228 0 = s_ P 228 0 := hears_K h6 (fun d => by unfold own; omega) 6 (Nat.le_refl _)
  refine ⟨rfl, R', h1, ⟨X1, ?_, ?_, fun i hi => ?_⟩, fun k hk1 hk2 => ?_, A1, fA⟩
  · exact rf_cg hR.2.1 (hears_K h6 (fun d => by unfold own; omega) 6 (Nat.le_refl _)) (hears_F h6 6 (Nat.le_refl _)) (fun f i hf => fA f i (by omega))
  · rw [e228, fA _ _ (by decide)]; exact hR.2.2.1
  · rw [fA _ _ (by decide)]; exact hR.2.2.2 i hi
  · rw [e228] at hk2
    exact relK_cg (hk k hk1 hk2) (fun f hf => hears_K h6 (own_j hk1 hf) 6 (Nat.le_refl _)) (hears_KB h6 (ownB_j hk1) 6 (Nat.le_refl _)) (fun f i hf => fA f i (by omega))
theorem w0_c2 (h : W0 P) : W0 (c2 P) := fun d hd => by rw [so_s (c2_so d) (by decide)]; exact h d hd
/-- WireBusModel.tell -/
theorem r_tell {j : Nat} {x3 x4 : Int32} (h : RM a ra R M) (hW : WX P) (h0 : W0 P) (hR : WR P R) (hK : RKw P R) (hS : s_ P 228 0 + 1 < 2 ^ 31) (hr : Rdy P j 0) (ht : isTok (s_ P 141 j) → x3 = nI (s_ P 142 j % 128) ∧ x4 = nI (s_ P 142 j / 128)) (h5 : s_ P 141 j = 5 → x3 = nI (s_ P 142 j)) (hb : ∀ i, i < (b_ P 7 j).length → R 52 i = nI ((b_ P 7 j).getD i 0)) : sm_Run (D + 5) 178 0 (sm_ent 178 [.inr (some a), .inl (nI (s_ P 141 j)), .inl x3, .inl x4, .inl (nI (b_ P 7 j).length)]) [] M (fun v M' => v = none ∧ ∃ R', RM a ra R' M' ∧ TL P R R') := by
  have hC := wx_carry hW hS hr
  have hW2 := wx_c2 hW hS hr
  obtain ⟨w1, w2, w3⟩ := id hW
  refine bb_178_0 ⟨h.1, ?_⟩
  refine ru_mono (r_goes (D := D + 2) (s := 0) h w1.1 hR.2.2.1 hS hR.2.1 hr.nk hr.sn (by decide) hr.pk hr.kk hr.st ht h5 hb) ?_
  rintro v M1 ⟨rfl, R1, h1, hG⟩
  have hs0 : s_ P 140 (nk P) = 0 := by rw [hr.nk]; exact hr.sn
  have pk : PKo P (nk P) := by rw [hr.nk]; exact hr.pk
  rcases c1_2 (P := P) with e | e
  · obtain ⟨-, n2, n3, n4⟩ := c_none w1 h0 hR hK w2 hS pk (by omega) hG e
    have h2 := rm_sr h1 (f := 51) (v := nE 0)
    rw [if_pos e]
    refine bb_178_10 ⟨h1.1, fun _ => ⟨rfl, _, h2, hC, wr_cg n3 hC.1 (fun f i hf => by rw [u2_r, if_neg (by omega)]), fun k k1 k2 => relK_cg (n4 k k1 k2) (fun _ _ => rfl) rfl (fun f i hf => by rw [u2_r, if_neg (by omega)]), ⟨fun d hd q => absurd (n2 d hd) q, fun _ => by simp only [u2_r, rowU_r, s_S, s_B, s_F, b_S, b_B, b_F, f_S, f_B, nfl_S, nfl_B, Nat.reduceEqDiff, false_and, and_false, true_and, and_true, and_self, if_true, if_false, reduceIte, ite_self, or_self, or_false, false_or, or_true, true_or, false_implies, implies_true, true_implies, Nat.reduceLeDiff, not_true_eq_false, not_false_eq_true, ne_eq]⟩, fun f i hf => ?_⟩, fun q => absurd rfl q⟩
    rw [u2_r, if_neg (by omega)]; exact hG.2.2.2.2.2.1 f i (by omega) (by omega)
  · have e' : (p_carry1 P).2 ≠ none := by rw [e]; simp
    obtain ⟨s1, s2⟩ := c_sound w1 hR hK w2 hG e
    rw [if_neg e']
    refine bb_178_10 ⟨h1.1, fun q => absurd (show nI 1 = nI 0 from q) (by decide), fun _ => ?_⟩
    have h2 := rm_sr h1 (f := 51) (v := nE 0)
    have r50 : sm_u2 R1 51 0 (nE 0) 50 0 = nI (nk P) := by simp only [u2_r, rowU_r, s_S, s_B, s_F, b_S, b_B, b_F, f_S, f_B, nfl_S, nfl_B, Nat.reduceEqDiff, false_and, and_false, true_and, and_true, and_self, if_true, if_false, reduceIte, ite_self, or_self, or_false, false_or, or_true, true_or, false_implies, implies_true, true_implies, Nat.reduceLeDiff, not_true_eq_false, not_false_eq_true, ne_eq]; exact hG.2.2.2.1
    refine ru_mono (r_comesW (D := D) (s := 0) h2 hW2 (w0_c2 h0) (wr_cg s1 hW2.1 (fun f i hf => by rw [u2_r, if_neg (by omega)])) (fun k k1 k2 => relK_cg (s2 k k1 k2) (fun _ _ => rfl) rfl (fun f i hf => by rw [u2_r, if_neg (by omega)])) nk_60 (by rw [c2_228]; unfold nk; omega) r50 (by decide)) ?_
    rintro v M2 ⟨rfl, R2, h3, t1, t2, t3, t4⟩
    have ec : (p_carry P).1 = p_hears (c2 P) 0 (some (nk P)) 6 := by rw [carry_c2, hs0, e]
    refine bb_178_27 ⟨rfl, R2, h3, hC, by rw [ec]; exact t1, by rw [ec]; exact t2, by rw [ec]; exact t3, fun f i hf => ?_⟩
    rw [t4 f i (by omega), u2_r, if_neg (by omega)]; exact hG.2.2.2.2.2.1 f i (by omega) (by omega)
/-- nobody answers but to IN and to bytes -/
theorem w0_carry {j s : Nat} (hW : WX P) (h0 : W0 P) (hS : s_ P 228 0 + 1 < 2 ^ 31) (hr : Rdy P j s) (hn : ∀ d, d < 6 → s ≠ d + 1 → cand P j d → False) : W0 (p_carry P).1 := by
  have hW2 := wx_c2 hW hS hr
  obtain ⟨rfl, rfl, r2, r3, r4, r5, r6, r7⟩ := hr
  have h6 : ∀ d, d < 6 → s_ (c2 P) 86 d ≤ 6 := fun d hd => ex_86 hW2.1.1 hd
  intro d hd
  refine Decidable.byContradiction (fun q => ?_)
  rw [carry_c2] at q
  rcases c1_2 (P := P) with e | e
  · rw [e] at q
    obtain ⟨Q, q1, -, q3⟩ := hears_at (s := s_ P 140 (nk P)) (r := none) h6 hd
    apply q
    rw [so_s q3 (by decide)]
    split
    · rw [so_s q1 (by decide), so_s (c2_so d) (by decide)]; exact h0 d hd
    · rw [hear_none]; exact h0_91
  · rw [e] at q
    obtain ⟨c1, c2'⟩ := hears_91 h6 (w0_c2 h0 d hd) nk_60 hd q
    refine hn d hd c1 ?_
    unfold cand at *
    rw [so_s (c2_so d) (by decide), so_s (c2_so d) (by decide), so_s (c2_so d) (by decide), c2_s (by omega), c2_s (by omega)] at c2'
    exact c2'
end WE
