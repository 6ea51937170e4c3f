/-! The reel's and the cells' bytes. -/
section IW_
variable {a : Nat} {ra : Nat → Nat} {R R' : Nat → Nat → Int32} {M : sm_M} {D : Nat} {P P' Pc P1 X Z : pP} {d k t i n m c j : Nat}
def RB (P : pP) : Prop := B8 (b_ P 1 0) ∧ B8 (b_ P 20 0)
theorem rb_cg (h : RB P) (hb : ∀ c j, (c = 1 ∧ j = 0) ∨ c = 20 → b_ P' c j = b_ P c j) : RB P' := by
  unfold RB
  rw [hb 1 0 (by decide), hb 20 0 (by decide)]; exact h
theorem opL_b {q : Nat} : ∀ (n i : Nat) (P : pP), b_ (p_opL P d q i n) c j = b_ P c j
  | 0, _, P => rfl
  | n + 1, i, P => by
    unfold p_opL
    split
    · rfl
    · split
      · rw [opL_b n]; rfl
      · exact opL_b n _ _
theorem fin_b (hc : c ≠ 36) : b_ (p_fin X t) c j = b_ X c j := by
  have fd : ∀ (Z : pP) d s tot, b_ (p_fnd Z d s tot) c j = b_ Z c j := fun Z d s tot => fnd_b (fun q => hc q.1)
  unfold p_fin
  split
  · rfl
  · split
    · unfold p_gof
      split
      · rfl
      · split
        · split
          · rw [fd]; rfl
          · rfl
        · split
          · rw [fd]; rfl
          · split
            · split
              · rfl
              · exact fd _ _ _ _
            · split
              · rw [fd]; rfl
              · split
                · unfold p_open
                  split
                  · rfl
                  · rw [opL_b]; rfl
                · exact fd _ _ _ _
    · split
      · unfold p_clear
        split
        · exact reAll_b
        · split
          · split
            · rfl
            · rfl
          · rfl
      · rfl
theorem rb_serve (h : RB P) (hW : WX P) (hT : XT P t) (hS : s_ P 228 0 + 4 < 2 ^ 31) (h126 : s_ P 126 0 + 1 < 2 ^ 31) (h1 : s_ P 211 t = 0) : RB (p_serve P t) := by
  obtain ⟨-, -, yh, -⟩ := yv hW hT hS h126 h1
  have hy : RB (Yv P t) := rb_cg h (fun c j hc => yh.2.1 c j (by unfold hostB; omega) (by omega))
  have s9 : p_serve P t = if s_ (Yv P t) 211 t = 0 then Yv P t else p_fin (pS (Yv P t) 123 0 (s_ (Yv P t) 123 0 - 1)) t := rfl
  rw [s9]
  split
  · exact hy
  · exact rb_cg hy (fun c j hc => by rw [fin_b (by omega)]; rfl)
theorem rb_inner : ∀ (n : Nat) (P : pP), RB P → INV P → WX P → EXO P → s_ P 228 0 + 4 * n + 4 < 2 ^ 31 → s_ P 126 0 + 1 < 2 ^ 31 → (∀ i, s_ P 186 i ≤ s_ P 126 0 + 1) → RB (p_inner P n)
  | 0, P, h, _, _, _, _, _, _ => h
  | n + 1, P, h, hI, hW, hE, hS, h126, h186 => by
    obtain ⟨c1, -⟩ := ch_spec hI
    have o : ∀ f j, f ≠ 127 → f ≠ 187 → f ≠ 128 → s_ (p_choose P).1 f j = s_ P f j := c1.1
    have h1 : RB (p_choose P).1 := rb_cg h (fun c j hc => c1.2.1 c j)
    have e0 : p_inner P (n + 1) = match (p_choose P).2 with
      | none => (p_choose P).1
      | some t => p_inner (p_serve (p_choose P).1 t) n := rfl
    rw [e0]
    cases e : (p_choose P).2 with
    | none => exact h1
    | some t =>
      dsimp only
      obtain ⟨i1, x1, w1, wt, xt, hl⟩ := ch_ok hI hW hE h126 e
      have o228 := o 228 0 (by decide) (by decide) (by decide)
      have o126 := o 126 0 (by decide) (by decide) (by decide)
      obtain ⟨s1, s2, s3, s4, s5, s6, s7, s8, s9, s10⟩ := serve_all i1 w1 x1 xt (by omega) (by omega) wt hl (fun i => by rw [o 186 i (by decide) (by decide) (by decide), o126]; exact h186 i)
      have p126 := s6 126 0 (by decide)
      exact rb_inner n _ (rb_serve h1 w1 xt (by omega) (by omega) wt.2) s2 s4 s3 (by omega) (by omega) (fun i => by rw [p126]; exact s9 i)
theorem rb_frame (h : RB P) (hI : INV P) (hW : WX P) (hE : EXO P) (hS : s_ P 228 0 + 165 < 2 ^ 31) (h126 : s_ P 126 0 + 1 < 2 ^ 31) (h186 : ∀ i, s_ P 186 i ≤ s_ P 126 0) : RB (p_frame P) := by
  obtain ⟨b1, b2, b3, b4, b5⟩ := bfr_ok hI hW hE (by omega)
  have h6 : ∀ d, d < 6 → s_ P 86 d ≤ 6 := fun d hd => ex_86 hW.1.1 hd
  have b : ∀ f j, hoF f → f ≠ 127 → s_ (p_bfr P) f j = s_ P f j := fun f j h1 h2 => bfr_fh h6 (by unfold hostF; omega) h2
  have g2 := hI.1.2.1
  have e126 := b 126 0 (by decide) (by decide)
  have h1 : RB (p_bfr P) := rb_cg h (fun c j hc => (fh_bf h6).2.1 c j (by unfold hostB; omega))
  have := rb_inner (s_ P 0 0) (p_bfr P) h1 b2 b3 b4 (by omega) (by omega) (fun i => by rw [b 186 i (by decide) (by decide), e126]; have := h186 i; omega)
  exact this
end IW_
