/-! The wire between the two: before and after a packet. -/
section WC
variable {a : Nat} {ra : Nat → Nat} {R R' : Nat → Nat → Int32} {M : sm_M} {D : Nat} {P P' : pP} {d : Nat}
def WR (P : pP) (R : Nat → Nat → Int32) : Prop := (∀ d, d < 6 → RelX P R d) ∧ RF P R ∧ R 32 0 = nI (s_ P 228 0) ∧ ∀ i, i < 18 → R 55 i = nI (hd0.getD i 0)
def RK (P : pP) (R : Nat → Nat → Int32) : Prop := ∀ j, j < 60 → j < s_ P 228 0 → RelK P R j
def RKw (P : pP) (R : Nat → Nat → Int32) : Prop := ∀ j, j < 60 → j < s_ P 228 0 → j ≠ nk P → RelK P R j
def KI (P : pP) : Prop := ∀ j, j < 60 → j < s_ P 228 0 → PKo P j ∧ okK (s_ P 141 j) ∧ s_ P 140 j < 7 ∧ (b_ P 7 j).length ≤ 64
theorem wi_ID (h : WI P) (hd : d < 6) (hp : s_ P 83 d ≠ 0) : ID P d := sh_ID (h.2.1 d hd) hp
theorem wi_IE (h : WI P) (hd : d < 6) : IE P d := sh_IE (h.2.1 d hd)
theorem wi_HD (h : WI P) (hd : d < 6) : HD (sh P d) d := id_HD (h.2.1 d hd)
theorem wr_cg (h : WR P R) (hW : WI P) (hr : ∀ f i, f ≤ 36 ∨ f = 55 → R' f i = R f i) : WR P R' := by
  obtain ⟨h1, h2, h3, h4⟩ := h
  refine ⟨fun d hd => relX_cg so_rf (fun f i o n => hr f i (by unfold ownR at o; omega)) hW.1 hd (wi_HD hW hd) (h1 d hd), rf_cg h2 rfl rfl (fun f i hf => hr f i (by omega)), ?_, fun i hi => ?_⟩
  · rw [hr _ _ (by decide)]; exact h3
  · rw [hr _ _ (by decide)]; exact h4 i hi
theorem relK_cj {j : Nat} (hk : RelK P R j) (h64 : (b_ P 7 j).length ≤ 64) (hs : ∀ f, 140 ≤ f ∧ f < 160 → s_ P' f j = s_ P f j) (hb : b_ P' 7 j = b_ P 7 j) (hr : ∀ f i, (37 ≤ f ∧ f ≤ 45 ∧ f ≠ 42 ∧ i = j) ∨ (f = 42 ∧ 100 * j ≤ i ∧ i < 100 * j + 100) → R' f i = R f i) : RelK P' R' j := by
  obtain ⟨k37, k38, kt, k5, k41, k42, k43, k44⟩ := hk
  unfold RelK
  have r : ∀ f, 37 ≤ f ∧ f ≤ 45 ∧ f ≠ 42 → R' f j = R f j := fun f hf => hr f j (Or.inl ⟨hf.1, hf.2.1, hf.2.2, rfl⟩)
  rw [hb, hs 140 (by decide), hs 141 (by decide), hs 142 (by decide), hs 145 (by decide), hs 146 (by decide), hs 147 (by decide)]
  simp (disch := decide) only [r]
  refine ⟨k37, k38, kt, k5, k41, fun i hi => ?_, k43, k44⟩
  rw [hr 42 _ (by omega)]; exact k42 i hi
def c2 (P : pP) : pP := pS (p_carry1 P).1 228 0 (s_ P 228 0 + 1)
theorem carry_c2 : p_carry P = (p_hears (c2 P) (s_ P 140 (nk P)) (p_carry1 P).2 6, (p_carry1 P).2) := rfl
theorem nk_60 : nk P < 60 := Nat.mod_lt _ (by decide)
theorem c1_2 : (p_carry1 P).2 = none ∨ (p_carry1 P).2 = some (nk P) := by
  unfold p_carry1 p_strike
  repeat' split
  all_goals first | exact Or.inl rfl | exact Or.inr rfl
/-- what striking may change -/
theorem c1_s {f i : Nat} (hf : f ≠ 227 ∧ f ≠ 229 ∧ ¬ ((f = 145 ∨ f = 146 ∨ f = 147) ∧ i = nk P)) : s_ (p_carry1 P).1 f i = s_ P f i := by
  unfold p_carry1 p_strike p_drop
  repeat' split
  all_goals (dsimp only)
  all_goals (try simp only [s_B])
  all_goals (repeat' (rw [s_S, if_neg (by omega)]))
  all_goals (try simp only [s_B])
  all_goals (repeat' (rw [s_S, if_neg (by omega)]))
  all_goals rfl
theorem c1_b {c i : Nat} (hc : c ≠ 24) : b_ (p_carry1 P).1 c i = b_ P c i := by
  unfold p_carry1 p_strike p_drop
  repeat' split
  all_goals (dsimp only)
  all_goals first | rfl | (simp only [b_S, b_B, hc, false_and, if_false]; rfl)
theorem c2_s {f i : Nat} (hf : f ≠ 227 ∧ f ≠ 228 ∧ f ≠ 229 ∧ ¬ ((f = 145 ∨ f = 146 ∨ f = 147) ∧ i = nk P)) : s_ (c2 P) f i = s_ P f i := by
  unfold c2; rw [s_S, if_neg (by omega), c1_s (by omega)]
theorem c2_b {c i : Nat} (hc : c ≠ 24) : b_ (c2 P) c i = b_ P c i := by
  unfold c2; rw [b_S, c1_b hc]
theorem c2_228 : s_ (c2 P) 228 0 = s_ P 228 0 + 1 := by unfold c2; simp only [s_S, s_B, s_F, b_S, b_B, b_F, f_S, f_B, Nat.reduceEqDiff, false_and, and_false, true_and, and_true, and_self, if_true, if_false, reduceIte, ite_self]
theorem c2_so (d : Nat) : SO d P (c2 P) := by
  have := nk_60 (P := P)
  refine so_all (fun f i hf => c2_s (by omega)) (fun f i hf hi => c2_s (by omega)) (fun i _ => c2_b (by decide)) (fun c i hc => c2_b (by omega)) d
theorem c2_ex (hx : EX P) (hS : s_ P 228 0 + 1 < 2 ^ 31) (hp : PKo P (nk P)) : EX (c2 P) := by
  have x1 : EX (p_carry1 P).1 := by
    unfold p_carry1
    split
    · exact hx
    · obtain ⟨g, M, h⟩ := hx
      obtain ⟨v, M', -, h'⟩ := ru_ex (c_strike (D := 0) h (show nk P < 66 by have := nk_60 (P := P); omega) hp)
      exact ⟨g, M', h'⟩
  obtain ⟨g, M, h⟩ := x1
  exact ⟨g, _, rc_w' (c := 11) (k := 8) h (rc_st h (c := 11) (i := 0) (by decide)) hS⟩
theorem c2_WI (h : WI P) (hS : s_ P 228 0 + 1 < 2 ^ 31) (hp : PKo P (nk P)) : WI (c2 P) := wi_so h (c2_ex h.1 hS hp) (fun d _ => c2_so d)
theorem c2_PK {j : Nat} (hp : PKo P j) : PKo (c2 P) j := by
  unfold PKo at *
  rw [c2_s (by omega), c2_s (by omega), c2_b (by decide)]; exact hp
theorem c2_KI (h : KI P) (hp : PKo P (nk P)) (kk : okK (s_ P 141 (nk P))) (hs : s_ P 140 (nk P) < 7) (hl : (b_ P 7 (nk P)).length ≤ 64) : KI (c2 P) := by
  intro j hj hS
  rw [c2_228] at hS
  have q : PKo P j ∧ okK (s_ P 141 j) ∧ s_ P 140 j < 7 ∧ (b_ P 7 j).length ≤ 64 := by
    by_cases qj : j = nk P
    · rw [qj]; exact ⟨hp, kk, hs, hl⟩
    · refine h j hj ?_
      unfold nk at qj; omega
  refine ⟨c2_PK q.1, ?_, ?_, ?_⟩
  · rw [c2_s (by omega)]; exact q.2.1
  · rw [c2_s (by omega)]; exact q.2.2.1
  · rw [c2_b (by decide)]; exact q.2.2.2
/-- the packets, after sending -/
theorem c2_RK (hk : RKw P R) (hl : ∀ j, j < 60 → j < s_ P 228 0 → (b_ P 7 j).length ≤ 64) (hG : GOr P R R') : RK (c2 P) R' := by
  obtain ⟨g1, g2, g3, g4, g5, g6, g7⟩ := hG
  intro j hj hS
  rw [c2_228] at hS
  by_cases qj : j = nk P
  · subst qj
    refine relK_cg g1 (fun f hf => ?_) rfl (fun f i _ => rfl)
    unfold c2; rw [s_S, if_neg (by omega)]
  · have hS' : j < s_ P 228 0 := by unfold nk at qj; omega
    exact relK_cj (hk j hj hS' qj) (hl j hj hS') (fun f hf => c2_s (by omega)) (c2_b (by decide)) (g7 j hj qj)
theorem c2_RF (hG : GOr P R R') : RF (c2 P) R' := by
  refine rf_cg hG.2.1 ?_ rfl (fun f i _ => rfl)
  unfold c2; simp only [s_S, s_B, s_F, b_S, b_B, b_F, f_S, f_B, Nat.reduceEqDiff, false_and, and_false, true_and, and_true, and_self, if_true, if_false, reduceIte, ite_self]
theorem relX_19 {v : Int32} (h : s_ P 83 d = 0) (hr : RelX P (sm_u2 R 19 d v) d) : RelX P R d := by
  unfold RelX at *
  rw [sdR_a h] at *
  have e : sm_u2 (sm_u2 (sm_u2 R 19 d v) 19 d (nI 0)) 21 d (nI 0) = sm_u2 (sm_u2 R 19 d (nI 0)) 21 d (nI 0) := by
    funext f i
    rw [u2_r, u2_r, u2_r, u2_r, u2_r]
    split
    · rfl
    · split <;> rfl
  rw [e] at hr; exact hr
theorem hear_none : p_hear P d none = p_h0 P d := rfl
theorem hears_ex0 {s : Nat} (hx : EX P) (hI : ∀ d, d < 6 → ID (sh P d) d) : ∀ n, n ≤ 6 → EX (p_hears P s none n) ∧ ∀ d, d < 6 → ID (sh (p_hears P s none n) d) d
  | 0, _ => ⟨hx, hI⟩
  | n + 1, hn => by
    have h6 : ∀ d, d < 6 → s_ P 86 d ≤ 6 := fun d hd => ex_86 hx hd
    obtain ⟨ih, ii⟩ := hears_ex0 (s := s) hx hI n (by omega)
    refine ⟨?_, fun d hd => ?_⟩
    · rw [hears_S]
      split
      · exact ih
      · rw [hear_none]; exact ex_h0 ih (by omega)
    · by_cases q : d = n
      · subst q
        rw [hears_S]
        split
        · exact ii d hd
        · rename_i c
          have c2 : s_ (p_hears P s none d) 83 d ≠ 0 := fun q => c (Or.inr q)
          rw [hear_none, sh_p (by rw [h0_83]; exact c2)]; exact id_h0 (sh_ID (ii d hd) c2)
      · exact so_IDs (so_fr (hears_fr h6 (by omega)) hd (by omega) q) (ex_86 ih hd) (ii d hd)
theorem so_h0 (h : SO d P P') : SO d (p_h0 P d) (p_h0 P' d) := by
  refine ⟨fun f i o => ?_, fun c i o => h.2 c i o⟩
  unfold p_h0
  rw [s_S, s_S, s_S, s_S, h.1 f i o]
/-- nobody hears it -/
theorem c_none (hW : WI P) (h0 : W0 P) (hR : WR P R) (hk : RKw P R) (hKI : KI P) (hS : s_ P 228 0 + 1 < 2 ^ 31) (hp : PKo P (nk P)) (hs : s_ P 140 (nk P) < 7) (hG : GOr P R R') (hn : (p_carry1 P).2 = none) : WI (p_carry P).1 ∧ W0 (p_carry P).1 ∧ WR (p_carry P).1 R' ∧ RK (p_carry P).1 R' := by
  have hW2 := c2_WI hW hS hp
  obtain ⟨g1, g2, g3, g4, g5, g6, g7⟩ := id hG
  have h6 : ∀ d, d < 6 → s_ (c2 P) 86 d ≤ 6 := fun d hd => ex_86 hW2.1 hd
  have h6' : ∀ d, d < 6 → s_ P 86 d ≤ 6 := fun d hd => ex_86 hW.1 hd
  rw [carry_c2, hn]
  obtain ⟨x6, i6⟩ := hears_ex0 (s := s_ P 140 (nk P)) hW2.1 hW2.2.1 6 (Nat.le_refl _)
  have e228 : s_ (p_hears (c2 P) (s_ P 140 (nk P)) none 6) 228 0 = s_ P 228 0 + 1 := by
    rw [hears_K h6 (fun d => by unfold own; omega) 6 (Nat.le_refl _)]; exact c2_228
  refine ⟨wi_hears hW2 x6 i6 (fun j e => by cases e) (fun d => Or.inr (fun j e => by cases e)) (fun d j _ e => by cases e), fun d hd => ?_, ⟨fun d hd => ?_, ?_, ?_, fun i hi => ?_⟩, fun j hj hj' => ?_⟩
  · obtain ⟨Q, q1, -, q3⟩ := hears_at (s := s_ P 140 (nk P)) (r := none) h6 hd
    rw [so_s q3 (by decide)]
    split
    · rw [so_s q1 (by decide), so_s (c2_so d) (by decide)]; exact h0 d hd
    · rw [hear_none]; exact h0_91
  · obtain ⟨Q, q1, -, q3⟩ := hears_at (s := s_ P 140 (nk P)) (r := none) h6 hd
    have q1' := so_tr (c2_so (P := P) d) q1
    have e83 : s_ (c2 P) 83 d = s_ P 83 d := so_s (c2_so d) (by decide)
    have r19 := g5 d hd
    rw [hn] at r19
    by_cases c : s_ P 140 (nk P) = d + 1
    · rw [if_pos (Or.inl c)] at q3
      rw [if_pos (Or.inr c.symm)] at r19
      refine relX_cg (so_tr q1' q3) (fun f i o n => ?_) hW.1 hd (wi_HD hW hd) (hR.1 d hd)
      by_cases q : f = 19
      · subst q
        have : i = d := by unfold ownR at o; omega
        rw [this]; exact r19
      · exact g6 f i q (by unfold ownR at o; omega)
    · rw [if_neg (by rintro (q | q); exact q rfl; exact c q.symm)] at r19
      by_cases c0 : s_ P 83 d = 0
      · rw [if_pos (Or.inr (by rw [e83]; exact c0))] at q3
        have so := so_tr q1' q3
        refine relX_19 (v := R 19 d) (by rw [so_s so (by decide)]; exact c0) ?_
        refine relX_cg so (fun f i o n => ?_) hW.1 hd (wi_HD hW hd) (hR.1 d hd)
        rw [u2_r]
        by_cases q : f = 19 ∧ i = d
        · rw [if_pos q, q.1, q.2]
        · rw [if_neg q]
          exact g6 f i (by unfold ownR at o; omega) (by unfold ownR at o; omega)
      · rw [if_neg (by rw [e83]; omega), hear_none] at q3
        have so := so_tr (so_h0 q1') q3
        refine relX_D (relD_cg so (fun f i o n => ?_) (ex_h0 hW.1 hd) hd (id_HD (id_h0 (sh_ID (hW.2.1 d hd) c0))) (relD_h0 (relD_X (hR.1 d hd) c0)))
        rw [u2_r]
        by_cases q : f = 19 ∧ i = d
        · rw [if_pos q, q.1, q.2]; exact r19
        · rw [if_neg q]
          exact g6 f i (by unfold ownR at o; omega) (by unfold ownR at o; omega)
  · exact rf_cg (c2_RF hG) (hears_K h6 (fun d => by unfold own; omega) 6 (Nat.le_refl _)) (hears_F h6 6 (Nat.le_refl _)) (fun _ _ _ => rfl)
  · rw [e228]; exact g3
  · rw [g6 _ _ (by decide) (by decide)]; exact hR.2.2.2 i hi
  · rw [e228] at hj'
    have := c2_RK hk (fun j hj hS => (hKI j hj hS).2.2.2) hG j hj (by rw [c2_228]; exact hj')
    exact relK_cg this (fun f hf => hears_K h6 (own_j hj hf) 6 (Nat.le_refl _)) (hears_KB h6 (ownB_j hj) 6 (Nat.le_refl _)) (fun _ _ _ => rfl)
end WC
