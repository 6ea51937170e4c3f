/-! A transfer's direction stays. -/
section IO_
variable {a : Nat} {ra : Nat → Nat} {R R' : Nat → Nat → Int32} {M : sm_M} {D : Nat} {P P' Pc P1 X Z : pP} {d k t i n m : Nat}
def DR (P : pP) : Prop := 1 ≤ s_ P 130 0 ∧ ∀ t, t < s_ P 122 0 → s_ P 213 t < s_ P 130 0 ∧ (s_ P 213 t = 0 → s_ P 203 t = if s_ P 205 t < 32768 then 0 else 1) ∧ (s_ P 213 t ≠ 0 → s_ P 180 (s_ P 213 t) ≠ 0 ∧ s_ P 203 t = if s_ P 180 (s_ P 213 t) < 128 then 0 else 1)
theorem dr_cg (h : DR P) (hs : ∀ f j, f = 122 ∨ f = 130 ∨ f = 203 ∨ f = 205 ∨ f = 213 ∨ f = 180 → s_ P' f j = s_ P f j) : DR P' := by
  unfold DR
  rw [hs 122 0 (by decide), hs 130 0 (by decide)]
  refine ⟨h.1, fun t ht => ?_⟩
  rw [hs 213 t (by decide), hs 203 t (by decide), hs 205 t (by decide), hs 180 _ (by decide)]
  exact h.2 t ht
theorem dr_S {f v : Nat} (h : DR P) (hf : ¬ (f = 122 ∨ f = 130 ∨ f = 203 ∨ f = 205 ∨ f = 213 ∨ f = 180)) : DR (pS P f i v) := dr_cg h (fun f' j hf' => s_n (by omega))
theorem dr_mkP {a bk sz iv : Nat} (h : DR P) : DR (p_mkP P d a bk sz iv) := by
  have e0 : s_ (p_mkP P d a bk sz iv) 130 0 = s_ P 130 0 + 1 := by unfold p_mkP; rw [s_S, if_pos ⟨rfl, rfl⟩]
  have e1 : ∀ f j, f = 122 ∨ f = 203 ∨ f = 205 ∨ f = 213 → s_ (p_mkP P d a bk sz iv) f j = s_ P f j := fun f j hf => mkP_n (by omega) (by omega) (by omega) (by omega)
  have e2 : ∀ j, j < s_ P 130 0 → s_ (p_mkP P d a bk sz iv) 180 j = s_ P 180 j := fun j hj => by
    unfold p_mkP p_mkPf
    rw [s_n (by decide), s_n (by decide), s_n (by decide), s_n (by decide), s_n (by decide), s_n (by decide), s_n (by decide), s_n (by decide), s_n (by decide), s_n (by decide), s_S, if_neg (by omega)]
  unfold DR
  rw [e0, e1 122 0 (by decide)]
  refine ⟨by omega, fun t ht => ?_⟩
  obtain ⟨h1, h2, h3⟩ := h.2 t ht
  rw [e1 213 t (by decide), e1 203 t (by decide), e1 205 t (by decide), e2 _ h1]
  exact ⟨by omega, h2, h3⟩
theorem dr_mk {p o l th w v ix st : Nat} (h : DR P) (hp : p < s_ P 130 0) (h0 : p = 0 → th = if w < 32768 then 0 else 1) (h1 : p ≠ 0 → s_ P 180 p ≠ 0 ∧ th = if s_ P 180 p < 128 then 0 else 1) : DR (p_mk P p o l th n w v ix st) := by
  have e : ∀ f j, f ≠ 122 → f ≠ 123 → ¬ (200 ≤ f ∧ f ≤ 213 ∧ j = s_ P 122 0) → s_ (p_mk P p o l th n w v ix st) f j = s_ P f j := fun f j n1 n2 n3 => by
    unfold p_mk p_mkF
    rw [s_n n2, s_n n1, s_B, s_S, if_neg (by omega), s_S, if_neg (by omega), s_S, if_neg (by omega), s_S, if_neg (by omega), s_S, if_neg (by omega), s_S, if_neg (by omega), s_S, if_neg (by omega), s_S, if_neg (by omega), s_S, if_neg (by omega), s_S, if_neg (by omega), s_S, if_neg (by omega), s_S, if_neg (by omega)]
  have e2 : s_ (p_mk P p o l th n w v ix st) 122 0 = s_ P 122 0 + 1 := by unfold p_mk; simp only [s_S, s_B, s_F, b_S, b_B, b_F, f_S, f_B, Nat.reduceEqDiff, false_and, and_false, true_and, and_true, and_self, if_true, if_false, reduceIte, ite_self]
  have a3 : s_ (p_mk P p o l th n w v ix st) 203 (s_ P 122 0) = th := by unfold p_mk p_mkF; simp only [s_S, s_B, s_F, b_S, b_B, b_F, f_S, f_B, Nat.reduceEqDiff, false_and, and_false, true_and, and_true, and_self, if_true, if_false, reduceIte, ite_self]
  have a5 : s_ (p_mk P p o l th n w v ix st) 205 (s_ P 122 0) = w := by unfold p_mk p_mkF; simp only [s_S, s_B, s_F, b_S, b_B, b_F, f_S, f_B, Nat.reduceEqDiff, false_and, and_false, true_and, and_true, and_self, if_true, if_false, reduceIte, ite_self]
  have a13 : s_ (p_mk P p o l th n w v ix st) 213 (s_ P 122 0) = p := by unfold p_mk p_mkF; simp only [s_S, s_B, s_F, b_S, b_B, b_F, f_S, f_B, Nat.reduceEqDiff, false_and, and_false, true_and, and_true, and_self, if_true, if_false, reduceIte, ite_self]
  have e180 : ∀ j, s_ (p_mk P p o l th n w v ix st) 180 j = s_ P 180 j := fun j => e 180 j (by decide) (by decide) (by omega)
  unfold DR
  rw [e 130 0 (by decide) (by decide) (by omega), e2]
  refine ⟨h.1, fun t ht => ?_⟩
  by_cases c : t = s_ P 122 0
  · subst c
    rw [a3, a5, a13, e180]
    exact ⟨hp, h0, h1⟩
  · rw [e 213 t (by decide) (by decide) (by omega), e 203 t (by decide) (by decide) (by omega), e 205 t (by decide) (by decide) (by omega), e180]
    exact h.2 t (by omega)
theorem dr_addC {w v ix : Nat} (h : DR P) : DR (p_addC P d w v ix n) := dr_mk h h.1 (fun _ => rfl) (fun q => absurd rfl q)
theorem dr_fnd {s tot : Nat} (h : DR P) : DR (p_fnd P d s tot) := dr_S (dr_addC h) (by decide)
theorem dr_opL {c : Nat} : ∀ (n i : Nat) (P : pP), DR P → DR (p_opL P d c i n)
  | 0, _, P, h => h
  | n + 1, i, P, h => by
    unfold p_opL
    split
    · exact h
    · split
      · exact dr_opL n _ _ (dr_mkP h)
      · exact dr_opL n _ _ h
theorem dr_fin (h : DR X) : DR (p_fin X t) := by
  have cl : ∀ d, DR (p_clear X d t) := fun d => dr_cg h (fun f j hf => clear_s (by omega))
  have s1 : ∀ f d v, f = 160 ∨ f = 161 ∨ f = 162 ∨ f = 165 → DR (pS X f d v) := fun f d v hf => dr_S h (by omega)
  unfold p_fin
  split
  · exact dr_S h (by decide)
  · split
    · unfold p_gof
      split
      · exact s1 160 _ _ (by decide)
      · split
        · split
          · exact dr_fnd (s1 162 _ _ (by decide))
          · exact s1 160 _ _ (by decide)
        · split
          · exact dr_fnd (s1 161 _ _ (by decide))
          · split
            · split
              · exact s1 160 _ _ (by decide)
              · exact dr_fnd h
            · split
              · exact dr_fnd (s1 165 _ _ (by decide))
              · split
                · have := s1 160 (s_ X 200 t) 2 (by decide)
                  unfold p_open
                  split
                  · exact this
                  · exact dr_opL _ _ _ this
                · exact dr_fnd h
    · split
      · exact cl _
      · exact h
theorem dr_serve (h : DR P) (hW : WX P) (hT : XT P t) (hS : s_ P 228 0 + 4 < 2 ^ 31) (h126 : s_ P 126 0 + 1 < 2 ^ 31) (h1 : s_ P 211 t = 0) : DR (p_serve P t) := by
  obtain ⟨-, -, yh, -⟩ := yv hW hT hS h126 h1
  have hy : DR (Yv P t) := dr_cg h (fun f j hf => yh.1 f j (by omega) (by omega) (by omega))
  have s9 : p_serve P t = if s_ (Yv P t) 211 t = 0 then Yv P t else p_fin (pS (Yv P t) 123 0 (s_ (Yv P t) 123 0 - 1)) t := rfl
  rw [s9]
  split
  · exact hy
  · exact dr_fin (dr_S hy (by decide))
theorem dr_inner : ∀ (n : Nat) (P : pP), DR P → INV P → WX P → EXO P → s_ P 228 0 + 4 * n + 4 < 2 ^ 31 → s_ P 126 0 + 1 < 2 ^ 31 → (∀ i, s_ P 186 i ≤ s_ P 126 0 + 1) → DR (p_inner P n)
  | 0, P, h, _, _, _, _, _, _ => h
  | n + 1, P, h, hI, hW, hE, hS, h126, h186 => by
    obtain ⟨c1, -⟩ := ch_spec hI
    have o : ∀ f j, f ≠ 127 → f ≠ 187 → f ≠ 128 → s_ (p_choose P).1 f j = s_ P f j := c1.1
    have h1 : DR (p_choose P).1 := dr_cg h (fun f j hf => o f j (by omega) (by omega) (by omega))
    have e0 : p_inner P (n + 1) = match (p_choose P).2 with
      | none => (p_choose P).1
      | some t => p_inner (p_serve (p_choose P).1 t) n := rfl
    rw [e0]
    cases e : (p_choose P).2 with
    | none => exact h1
    | some t =>
      dsimp only
      obtain ⟨i1, x1, w1, wt, xt, hl⟩ := ch_ok hI hW hE h126 e
      have o228 := o 228 0 (by decide) (by decide) (by decide)
      have o126 := o 126 0 (by decide) (by decide) (by decide)
      obtain ⟨s1, s2, s3, s4, s5, s6, s7, s8, s9, s10⟩ := serve_all i1 w1 x1 xt (by omega) (by omega) wt hl (fun i => by rw [o 186 i (by decide) (by decide) (by decide), o126]; exact h186 i)
      have p126 := s6 126 0 (by decide)
      exact dr_inner n _ (dr_serve h1 w1 xt (by omega) (by omega) wt.2) s2 s4 s3 (by omega) (by omega) (fun i => by rw [p126]; exact s9 i)
theorem dr_frame (h : DR P) (hI : INV P) (hW : WX P) (hE : EXO P) (hS : s_ P 228 0 + 165 < 2 ^ 31) (h126 : s_ P 126 0 + 1 < 2 ^ 31) (h186 : ∀ i, s_ P 186 i ≤ s_ P 126 0) : DR (p_frame P) := by
  obtain ⟨b1, b2, b3, b4, b5⟩ := bfr_ok hI hW hE (by omega)
  have h6 : ∀ d, d < 6 → s_ P 86 d ≤ 6 := fun d hd => ex_86 hW.1.1 hd
  have b : ∀ f j, hoF f → f ≠ 127 → s_ (p_bfr P) f j = s_ P f j := fun f j h1 h2 => bfr_fh h6 (by unfold hostF; omega) h2
  have g2 := hI.1.2.1
  have e126 := b 126 0 (by decide) (by decide)
  have h1 : DR (p_bfr P) := dr_cg h (fun f j hf => b f j (by omega) (by omega))
  have := dr_inner (s_ P 0 0) (p_bfr P) h1 b2 b3 b4 (by omega) (by omega) (fun i => by rw [b 186 i (by decide) (by decide), e126]; have := h186 i; omega)
  exact dr_S (dr_S this (by decide)) (by decide)
end IO_
