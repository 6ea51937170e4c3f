/-! The wire's laid out packet stays right. -/
section IQ_
variable {a : Nat} {ra : Nat → Nat} {R R' : Nat → Nat → Int32} {M : sm_M} {D : Nat} {P P' P'' Q Pc P1 X Z : pP} {d k t i n m : Nat}
def LVp (P : pP) (j : Nat) : Prop := s_ P 145 j = 2 → s_ P 146 j < (p_lev P j).length
def SP (P P' : pP) (j : Nat) : Prop := s_ P' 141 j = s_ P 141 j ∧ s_ P' 142 j = s_ P 142 j ∧ b_ P' 7 j = b_ P 7 j ∧ s_ P' 145 j = s_ P 145 j ∧ s_ P' 146 j = s_ P 146 j
theorem lvp_sp (h : LVp P i) (k : SP P P' i) : LVp P' i := by
  obtain ⟨k1, k2, k3, k4, k5⟩ := k
  unfold LVp p_lev at *
  rw [k1, k2, k3, k4, k5]; exact h
def LK (P P' : pP) : Prop := s_ P 228 0 ≤ s_ P' 228 0 ∧ (∀ p, p < s_ P 228 0 → s_ P' 228 0 ≤ p + 60 → SP P P' (p % 60)) ∧ ((s_ P' 229 0 = s_ P 229 0 ∧ b_ P' 24 0 = b_ P 24 0) ∨ s_ P' 229 0 = 0) ∧ ∀ p, s_ P 228 0 ≤ p → p < s_ P' 228 0 → s_ P' 228 0 ≤ p + 60 → LVp P' (p % 60)
def LC (P : pP) : Prop := s_ P 229 0 ≠ 0 → s_ P 229 0 ≤ s_ P 228 0 ∧ (s_ P 228 0 ≤ s_ P 229 0 - 1 + 60 → b_ P 24 0 = p_lev P ((s_ P 229 0 - 1) % 60))
def LV (P : pP) : Prop := ∀ p, p < s_ P 228 0 → s_ P 228 0 ≤ p + 60 → LVp P (p % 60)
theorem lk_rf : LK P P := ⟨Nat.le_refl _, fun _ _ _ => ⟨rfl, rfl, rfl, rfl, rfl⟩, Or.inl ⟨rfl, rfl⟩, fun p h1 h2 => by omega⟩
theorem lk_tr (h : LK P P') (k : LK P' P'') : LK P P'' := by
  obtain ⟨h1, h2, h3, h4⟩ := h
  obtain ⟨k1, k2, k3, k4⟩ := k
  refine ⟨by omega, fun p q1 q2 => ?_, ?_, fun p q1 q2 q3 => ?_⟩
  · obtain ⟨a1, a2, a3, a4, a5⟩ := h2 p q1 (by omega)
    obtain ⟨b1, b2, b3, b4, b5⟩ := k2 p (by omega) q2
    exact ⟨b1.trans a1, b2.trans a2, b3.trans a3, b4.trans a4, b5.trans a5⟩
  · rcases k3 with ⟨c1, c2⟩ | c
    · rcases h3 with ⟨e1, e2⟩ | e
      · exact Or.inl ⟨c1.trans e1, c2.trans e2⟩
      · exact Or.inr (c1.trans e)
    · exact Or.inr c
  · by_cases c : p < s_ P' 228 0
    · exact lvp_sp (h4 p q1 c (by omega)) (k2 p c q3)
    · exact k4 p (by omega) q2 q3
theorem lk_ho (h : FHo P P') : LK P P' := by
  have e : ∀ f j, 140 ≤ f ∧ f < 160 ∨ 220 ≤ f → s_ P' f j = s_ P f j := fun f j hf => h.1 f j (by omega)
  have b : ∀ c j, c = 7 ∨ c = 24 → b_ P' c j = b_ P c j := fun c j hc => h.2.1 c j (by unfold hostB; omega)
  refine ⟨by rw [e 228 0 (by omega)]; exact Nat.le_refl _, fun p _ _ => ⟨e 141 _ (by omega), e 142 _ (by omega), b 7 _ (by omega), e 145 _ (by omega), e 146 _ (by omega)⟩, Or.inl ⟨e 229 0 (by omega), b 24 0 (by omega)⟩, fun p h1 h2 => by rw [e 228 0 (by omega)] at h2; omega⟩
theorem lc_lk (h : LC P) (k : LK P P') : LC P' := by
  intro n0
  obtain ⟨k1, k2, k3, -⟩ := k
  rcases k3 with ⟨c1, c2⟩ | c
  · rw [c1] at n0 ⊢
    obtain ⟨h1, h2⟩ := h n0
    refine ⟨by omega, fun q => ?_⟩
    obtain ⟨a1, a2, a3, -, -⟩ := k2 (s_ P 229 0 - 1) (by omega) q
    rw [c2, h2 (by omega)]
    unfold p_lev
    rw [a1, a2, a3]
  · exact absurd c n0
theorem lv_lk (h : LV P) (k : LK P P') : LV P' := fun p q1 q2 => by
  obtain ⟨k1, k2, k3, k4⟩ := k
  by_cases c : p < s_ P 228 0
  · exact lvp_sp (h p c (by omega)) (k2 p c q2)
  · exact k4 p (by omega) q1 q2
theorem c1_lv (h : s_ P 145 (nk P) = 0) (h2 : s_ (p_carry1 P).1 145 (nk P) = 2) : s_ (p_carry1 P).1 146 (nk P) < (p_lev P (nk P)).length := by
  revert h2
  unfold p_carry1
  split
  · dsimp only; rw [h]; intro c; omega
  · unfold p_strike
    split
    · dsimp only; rw [h]; intro c; omega
    · split
      · dsimp only; rw [s_S, if_pos ⟨rfl, rfl⟩]; intro c; omega
      · split
        · have e : s_ (pS (pB (p_drop P (s_ P 228 0)) 24 0 (p_lev P (nk P))) 229 0 0) 145 (nk P) = s_ P 145 (nk P) := by
            unfold p_drop
            rw [s_n (by decide), s_B, s_n (by decide)]; rfl
          dsimp only
          rw [e, h]; intro c; omega
        · rename_i c
          intro _
          dsimp only
          rw [s_B, s_n (by decide), s_S, if_pos ⟨rfl, rfl⟩]
          omega
theorem c1_229 : (s_ (p_carry1 P).1 229 0 = s_ P 229 0 ∧ b_ (p_carry1 P).1 24 0 = b_ P 24 0) ∨ s_ (p_carry1 P).1 229 0 = 0 := by
  unfold p_carry1
  split
  · exact Or.inl ⟨rfl, rfl⟩
  · unfold p_strike
    split
    · exact Or.inl ⟨rfl, rfl⟩
    · split
      · left
        unfold p_drop
        exact ⟨by rw [s_n (by decide), s_n (by decide)]; rfl, rfl⟩
      · split
        · right
          rw [s_S, if_pos ⟨rfl, rfl⟩]
        · right
          rw [s_B, s_n (by decide), s_n (by decide), s_n (by decide), s_S, if_pos ⟨rfl, rfl⟩]
theorem lk_carry (h6 : ∀ d, d < 6 → s_ Q 86 d ≤ 6) (hs : ∀ f i, f = 141 ∨ f = 142 ∨ f = 145 ∨ f = 146 ∨ f = 228 ∨ f = 229 → ¬ (140 ≤ f ∧ f < 160 ∧ i = nk P) → s_ Q f i = s_ P f i) (hb : ∀ c i, c = 7 ∨ c = 24 → ¬ (c = 7 ∧ i = nk P) → b_ Q c i = b_ P c i) (h145 : s_ Q 145 (nk P) = 0) : LK P (p_carry Q).1 := by
  have h6' : ∀ d, d < 6 → s_ (c2 Q) 86 d ≤ 6 := fun d hd => by rw [so_s (c2_so d) (by decide)]; exact h6 d hd
  have e8 : s_ Q 228 0 = s_ P 228 0 := hs 228 0 (by decide) (by omega)
  have en : nk Q = nk P := by unfold nk; rw [e8]
  have e228 : s_ (p_carry Q).1 228 0 = s_ P 228 0 + 1 := by rw [carry_228' Q h6, e8]
  have k : ∀ f i, (∀ d, ¬ own d f i) → s_ (p_carry Q).1 f i = s_ (c2 Q) f i := fun f i hf => by
    rw [carry_c2]
    exact hears_K h6' hf 6 (Nat.le_refl _)
  have kb : ∀ c i, (∀ d, ¬ ownB d c i) → b_ (p_carry Q).1 c i = b_ (c2 Q) c i := fun c i hf => by
    rw [carry_c2]
    exact hears_KB h6' hf 6 (Nat.le_refl _)
  have l60 := nk_60 (P := P)
  refine ⟨by omega, fun p q1 q2 => ?_, ?_, fun p q1 q2 q3 => ?_⟩
  · have ne : p % 60 ≠ nk P := by unfold nk; omega
    have l60 : p % 60 < 60 := Nat.mod_lt _ (by decide)
    refine ⟨?_, ?_, ?_, ?_, ?_⟩
    · rw [k 141 _ (own_j l60 (by decide)), c2_s (by omega), hs 141 _ (by decide) (by omega)]
    · rw [k 142 _ (own_j l60 (by decide)), c2_s (by omega), hs 142 _ (by decide) (by omega)]
    · rw [kb 7 _ (ownB_j l60), c2_b (by decide), hb 7 _ (by decide) (by omega)]
    · rw [k 145 _ (own_j l60 (by decide)), c2_s (by omega), hs 145 _ (by decide) (by omega)]
    · rw [k 146 _ (own_j l60 (by decide)), c2_s (by omega), hs 146 _ (by decide) (by omega)]
  · rw [k 229 0 (fun d => by unfold own; omega), kb 24 0 (fun d => by unfold ownB; omega)]
    have a1 : s_ (c2 Q) 229 0 = s_ (p_carry1 Q).1 229 0 := s_n (by decide)
    have a2 : b_ (c2 Q) 24 0 = b_ (p_carry1 Q).1 24 0 := rfl
    rw [a1, a2, ← hs 229 0 (by decide) (by omega), ← hb 24 0 (by decide) (by omega)]
    exact c1_229
  · have ep : p % 60 = nk P := by unfold nk; rw [show p = s_ P 228 0 by omega]
    rw [ep]
    have el : p_lev (p_carry Q).1 (nk P) = p_lev Q (nk P) := by
      unfold p_lev
      rw [k 141 _ (own_j l60 (by decide)), k 142 _ (own_j l60 (by decide)), kb 7 _ (ownB_j l60), c2_s (by omega), c2_s (by omega), c2_b (by decide)]
    intro c
    have a5 : s_ (c2 Q) 145 (nk P) = s_ (p_carry1 Q).1 145 (nk P) := s_n (by decide)
    have a6 : s_ (c2 Q) 146 (nk P) = s_ (p_carry1 Q).1 146 (nk P) := s_n (by decide)
    rw [k 145 _ (own_j l60 (by decide)), a5] at c
    rw [k 146 _ (own_j l60 (by decide)), a6, el]
    rw [← en] at h145 c ⊢
    exact c1_lv h145 c
theorem lk_Yv (hW : WX P) (hT : XT P t) (hS : s_ P 228 0 + 4 < 2 ^ 31) (h126 : s_ P 126 0 + 1 < 2 ^ 31) (h1 : s_ P 211 t = 0) : LK P (Yv P t) := by
  obtain ⟨-, w2, -, w3, -, w5, -⟩ := exch hW hT hS
  obtain ⟨w7, s7, -, f7, -⟩ := yv7 hW hT hS h126 h1
  have h6 : ∀ {X : pP}, WX X → ∀ d, d < 6 → s_ X 86 d ≤ 6 := fun w d hd => ex_86 w.1.1 hd
  have l2 : LK P (sv2 P t) := by
    unfold sv2
    rw [sv1_pr]
    exact lk_carry (fun d hd => by rw [prT_s (by omega)]; exact h6 hW d hd) (fun f i _ n => prT_s (by omega)) (fun c i _ n => prT_b n) (by unfold prT p_rst; simp only [s_S, s_B, s_F, b_S, b_B, b_F, f_S, f_B, Nat.reduceEqDiff, false_and, and_false, true_and, and_true, and_self, if_true, if_false, reduceIte, ite_self])
  have l3 : LK (sv2 P t) (sv3 P t) := by
    unfold sv3
    split
    · exact lk_rf
    · refine lk_carry (fun d hd => ?_) (fun f i hf n => ?_) (fun c i hc n => ?_) (by unfold svB p_rst; simp only [s_S, s_B, s_F, b_S, b_B, b_F, f_S, f_B, Nat.reduceEqDiff, false_and, and_false, true_and, and_true, and_self, if_true, if_false, reduceIte, ite_self])
      · unfold svB p_rst
        rw [s_B, s_n (by decide), s_B, s_n (by decide), s_n (by decide), s_n (by decide)]
        exact h6 w2 d hd
      · unfold svB p_rst
        rw [s_B, s_S, if_neg (by omega), s_B, s_S, if_neg (by omega), s_S, if_neg (by omega), s_S, if_neg (by omega)]
      · unfold svB p_rst
        rw [b_B, if_neg n, b_S, b_B, if_neg n]; rfl
  have l5 : LK (sv3 P t) (sv5 (sv3 P t)).1 := by
    cases e : ansD (sv3 P t) with
    | none => unfold sv5 p_hasAns; rw [e]; exact lk_rf
    | some d =>
      rw [sv5_some e]
      refine lk_carry (fun d' hd => ?_) (fun f i hf n => ?_) (fun c i hc n => ?_) (by unfold p_bring p_rst; simp only [s_S, s_B, s_F, b_S, b_B, b_F, f_S, f_B, Nat.reduceEqDiff, false_and, and_false, true_and, and_true, and_self, if_true, if_false, reduceIte, ite_self])
      · unfold p_bring p_rst
        rw [s_n (by decide), s_B, s_n (by decide), s_B, s_n (by decide), s_n (by decide), s_n (by decide)]
        exact h6 w3 d' hd
      · unfold p_bring p_rst
        rw [s_n (by omega), s_B, s_S, if_neg (by omega), s_B, s_S, if_neg (by omega), s_S, if_neg (by omega), s_S, if_neg (by omega)]
      · unfold p_bring p_rst
        rw [b_S, b_B, if_neg n, b_S, b_B, if_neg n]; rfl
  refine lk_tr l2 (lk_tr l3 (lk_tr l5 (lk_tr (lk_ho f7) ?_)))
  unfold Yv sv8
  split
  · refine lk_carry (fun d hd => ?_) (fun f i hf n => ?_) (fun c i hc n => ?_) (by unfold p_rst; simp only [s_S, s_B, s_F, b_S, b_B, b_F, f_S, f_B, Nat.reduceEqDiff, false_and, and_false, true_and, and_true, and_self, if_true, if_false, reduceIte, ite_self])
    · unfold p_rst
      rw [s_n (by decide), s_B, s_n (by decide), s_n (by decide), s_n (by decide)]
      exact h6 w7 d hd
    · unfold p_rst
      rw [s_S, if_neg (by omega), s_B, s_S, if_neg (by omega), s_S, if_neg (by omega), s_S, if_neg (by omega)]
    · unfold p_rst
      rw [b_S, b_B, if_neg n]; rfl
  · exact lk_rf
theorem lk_inner : ∀ (n : Nat) (P : pP), INV P → WX P → EXO P → s_ P 228 0 + 4 * n + 4 < 2 ^ 31 → s_ P 126 0 + 1 < 2 ^ 31 → (∀ i, s_ P 186 i ≤ s_ P 126 0 + 1) → LK P (p_inner P n)
  | 0, P, _, _, _, _, _, _ => lk_rf
  | n + 1, P, hI, hW, hE, hS, h126, h186 => by
    obtain ⟨c1, -⟩ := ch_spec hI
    have o : ∀ f j, f ≠ 127 → f ≠ 187 → f ≠ 128 → s_ (p_choose P).1 f j = s_ P f j := c1.1
    have h1 : LK P (p_choose P).1 := lk_ho (ae8_fho c1)
    have e0 : p_inner P (n + 1) = match (p_choose P).2 with
      | none => (p_choose P).1
      | some t => p_inner (p_serve (p_choose P).1 t) n := rfl
    rw [e0]
    cases e : (p_choose P).2 with
    | none => exact h1
    | some t =>
      dsimp only
      obtain ⟨i1, x1, w1, wt, xt, hl⟩ := ch_ok hI hW hE h126 e
      have o228 := o 228 0 (by decide) (by decide) (by decide)
      have o126 := o 126 0 (by decide) (by decide) (by decide)
      obtain ⟨s1, s2, s3, s4, s5, s6, s7, s8, s9, s10⟩ := serve_all i1 w1 x1 xt (by omega) (by omega) wt hl (fun i => by rw [o 186 i (by decide) (by decide) (by decide), o126]; exact h186 i)
      have p126 := s6 126 0 (by decide)
      exact lk_tr h1 (lk_tr (lk_Yv w1 xt (by omega) (by omega) wt.2) (lk_tr (lk_ho s5) (lk_inner n _ s2 s4 s3 (by omega) (by omega) (fun i => by rw [p126]; exact s9 i))))
theorem lk_frame (hI : INV P) (hW : WX P) (hE : EXO P) (hS : s_ P 228 0 + 165 < 2 ^ 31) (h126 : s_ P 126 0 + 1 < 2 ^ 31) (h186 : ∀ i, s_ P 186 i ≤ s_ P 126 0) : LK P (p_frame P) := by
  obtain ⟨b1, b2, b3, b4, b5⟩ := bfr_ok hI hW hE (by omega)
  have h6 : ∀ d, d < 6 → s_ P 86 d ≤ 6 := fun d hd => ex_86 hW.1.1 hd
  have b : ∀ f j, hoF f → f ≠ 127 → s_ (p_bfr P) f j = s_ P f j := fun f j h1 h2 => bfr_fh h6 (by unfold hostF; omega) h2
  have g2 := hI.1.2.1
  have e126 := b 126 0 (by decide) (by decide)
  have k1 : LK P (p_carry (bf1 P)).1 := by
    rw [bf1_prT]
    exact lk_carry (fun d hd => by rw [prT_s (by omega)]; exact h6 d hd) (fun f i _ n => prT_s (by omega)) (fun c i _ n => prT_b n) (by unfold prT p_rst; simp only [s_S, s_B, s_F, b_S, b_B, b_F, f_S, f_B, Nat.reduceEqDiff, false_and, and_false, true_and, and_true, and_self, if_true, if_false, reduceIte, ite_self])
  have k2 : LK (p_carry (bf1 P)).1 (p_bfr P) := lk_ho (fho_S fho_rf (by decide))
  have k3 := lk_inner (s_ P 0 0) (p_bfr P) b2 b3 b4 (by omega) (by omega) (fun i => by rw [b 186 i (by decide) (by decide), e126]; have := h186 i; omega)
  exact lk_tr k1 (lk_tr k2 (lk_tr k3 (lk_ho (fho_S (fho_S fho_rf (by decide)) (by decide)))))
end IQ_
