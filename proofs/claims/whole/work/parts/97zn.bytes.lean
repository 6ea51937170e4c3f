/-! Calls, both sides: put, take. -/
section IV_
variable {a : Nat} {ra : Nat → Nat} {R R' : Nat → Nat → Int32} {M : sm_M} {D : Nat} {P P' Pc P1 X Z : pP} {d k t i n m e : Nat} {x x1 x2 x3 x4 x5 : Int32}
theorem find_cg {w : Nat} (hs : ∀ f j, s_ P' f j = s_ P f j) : p_find P' d w = p_find P d w := by
  unfold p_find; simp only [hs]
theorem shs_cg (hs : ∀ f j, s_ P' f j = s_ P f j) (f j : Nat) : s_ (sh P' d) f j = s_ (sh P d) f j := by
  unfold sh
  rw [hs]
  split
  · rw [s_S, s_S, s_S, s_S, hs]
  · exact hs f j
/-- an endpoint's bytes -/
theorem co_q {l : List Nat} (hC : CO P R) (hE : EXO P') (hB : B8 (b_ P' 1 0)) (hs : ∀ f j, s_ P' f j = s_ P f j) (hf : f_ P' = f_ P) (hb : ∀ c j, ¬ (c = 1 ∧ (j = 0 ∨ j = 1 + e)) → b_ P' c j = b_ P c j) (he : e < 36) (h1 : b_ P' 1 (1 + e) = l) (h8 : B8 l) (h105 : s_ P 105 e ≤ l.length) (hr : ∀ f j, ¬ (f = 2 ∨ f = 3 ∨ (f = 15 ∧ j = e) ∨ (f = 17 ∧ 256 * e ≤ j ∧ j < 256 * e + 256)) → R' f j = R f j) (h15 : R' 15 e = nI l.length) (h17 : ∀ j, j < l.length → R' 17 (256 * e + j) = nI (l.getD j 0)) (hq2 : R' 3 0 = nI (b_ P' 1 0).length) (hq3 : ∀ i, i < (b_ P' 1 0).length → R' 2 i = nI ((b_ P' 1 0).getD i 0)) : CO P' R' := by
  obtain ⟨⟨f1, f2, f3, f4, f5⟩, f6, f7, f8, f9, f10, f11⟩ := hC
  obtain ⟨w1, w2, w3, w4, hH⟩ := f1
  have hx := exo_ex hE
  have b' : ∀ c j, c ≠ 1 → b_ P' c j = b_ P c j := fun c j n => hb c j (fun q => n q.1)
  have h6 : ∀ d, d < 6 → s_ P 86 d ≤ 6 := fun d hd => ex_86 w1.1.1 hd
  have r' : ∀ f j, f ≠ 2 → f ≠ 3 → f ≠ 15 → f ≠ 17 → R' f j = R f j := fun f j n1 n2 n3 n4 => hr f j (by omega)
  have fh : Fh P P → True := fun _ => trivial
  have wx : WX P' := by
    obtain ⟨⟨u1, u2, u3, u4, u5⟩, v2, v3⟩ := w1
    refine ⟨⟨hx, fun d hd => ?_, fun d hd => ?_, ?_, ?_⟩, fun j hj hS => ?_, fun d hd => ?_⟩
    · obtain ⟨i1, i2, i3⟩ := u2 d hd
      have hs' := shs_cg (d := d) hs
      refine ⟨fun k hk => ?_, ?_, ?_⟩
      · rw [hs'] at hk
        obtain ⟨a1, a2, a3, a4, a5⟩ := i1 k hk
        simp only [hs', sh_b] at a2 ⊢
        refine ⟨a1, ?_, a3, a4, a5⟩
        by_cases c : 6 * d + k = e
        · rw [c, h1, sh_s (by decide)]; exact h105
        · rw [hb 1 _ (by omega)]; exact a2
      · unfold IZ at *
        simp only [hs', sh_b, b' 29 d (by decide)] at i2 ⊢
        exact i2
      · unfold IW nfl at *
        simp only [hs', find_cg hs']
        exact i3
    · have := u3 d hd
      unfold IA at *
      simp only [hs]; exact this
    · unfold UD at *; simp only [hs]; exact u4
    · unfold WU at *; simp only [hs]; exact u5
    · rw [hs] at hS
      unfold PKo
      rw [hs, hs, hs, b' 7 j (by decide)]
      exact v2 j hj hS
    · obtain ⟨k1, k2⟩ := v3 d hd
      refine ⟨?_, ?_⟩
      · obtain ⟨c1, c2, c3, c4⟩ := k1
        unfold IB
        simp only [hs, b' 28 d (by decide), b' 29 d (by decide)]
        refine ⟨c1, c2, fun k hk => ?_, c4⟩
        by_cases c : 6 * d + k = e
        · rw [c, h1]; exact h8
        · rw [hb 1 _ (by omega)]; exact c3 k hk
      · unfold AK at *
        simp only [hs, b' 7 _ (by decide : (7 : Nat) ≠ 1)]
        exact k2
  have lk : LK P P' := ⟨by rw [hs]; exact Nat.le_refl _, fun p _ _ => ⟨hs _ _, hs _ _, b' _ _ (by decide), hs _ _, hs _ _⟩, Or.inl ⟨hs _ _, b' _ _ (by decide)⟩, fun p h1 h2 => by rw [hs] at h2; omega⟩
  have sts : STs P P' := fun d hd => ⟨fun f hf => hs _ _, fun f k h1 h2 h3 => hs _ _⟩
  have g := f2.1
  refine ⟨⟨⟨wx, fun d hd => by rw [hs]; exact w2 d hd, ⟨fun d hd => ?_, rf_cg w3.2.1 (hs _ _) hf (fun f i hf => r' f i (by omega) (by omega) (by omega) (by omega)), ?_, fun i hi => ?_⟩, fun j hj hS => ?_, hrel_b hH hs (fun j => b' 36 j (by decide)) (fun f j n1 n2 n3 n4 n5 => r' f j n2 n3 n4 n5) ⟨hq2, hq3, fun i hi => ?_⟩⟩, ?_, hE, relS_cg f4 (hs 128 0) (r' 69 0 (by decide) (by decide) (by decide) (by decide)), fun i => by rw [hs, hs]; exact f5 i⟩, by rw [hs, hs]; exact f6, dr_cg f7 (fun f j hf => hs f j), lc_lk f8 lk, lv_lk f9 lk, i5_j5 f10 (j5_e (fun f i hf => hs f i)), hB, by rw [b' 20 0 (by decide)]; exact f11.2⟩
  · have hX := w3.1 d hd
    have hs' := shs_cg (d := d) hs
    have hx1 := ex_sh w1.1.1 hd
    unfold RelX at *
    generalize hS : sdR P R d = S at *
    generalize hS' : sdR P' R' d = S'
    have e1 : ∀ f j, ¬ (f = 2 ∨ f = 3 ∨ (f = 15 ∧ j = e) ∨ (f = 17 ∧ 256 * e ≤ j ∧ j < 256 * e + 256)) → S' f j = S f j := fun f j n => by
      rw [← hS, ← hS']
      unfold sdR
      rw [hs]
      split
      · rw [u2_r, u2_r, u2_r, u2_r, hr f j n]
      · exact hr f j n
    have e2 : ∀ f j, f ≠ 19 ∧ f ≠ 21 → S' f j = R' f j := fun f j n => by rw [← hS']; exact sdR_s n
    have e3 : ∀ f j, f ≠ 2 → f ≠ 3 → f ≠ 15 → f ≠ 17 → S' f j = S f j := fun f j n1 n2 n3 n4 => e1 f j (by omega)
    obtain ⟨y1, y2, y3⟩ := hX
    refine ⟨?_, ?_, fun k hk => ?_⟩
    · unfold RelA at *
      simp (disch := decide) only [hs', sh_b, b' 28 d (by decide), e3] at y1 ⊢
      exact y1
    · unfold RelZ RelZ2 nfl at *
      simp (disch := decide) only [hs', sh_b, b' 29 d (by decide), e3] at y2 ⊢
      exact y2
    · rw [hs'] at hk
      have := h6 d hd
      have h86 : s_ (sh P d) 86 d = s_ P 86 d := sh_s (by decide)
      by_cases c : 6 * d + k = e
      · have := y3 k hk
        rw [c] at this ⊢
        obtain ⟨g10, g11, g12, g13, g14, g15, g16, g17⟩ := this
        unfold RelE
        simp (disch := decide) only [hs', sh_b, h1, e3]
        refine ⟨g10, g11, g12, g13, g14, ?_, g16, fun j hj => ?_⟩
        · rw [e2 15 e (by decide)]; exact h15
        · rw [e2 17 _ (by decide)]; exact h17 j hj
      · refine relE_ca (y3 k hk) (fun f _ _ => hs' _ _) (by rw [sh_b, sh_b]; exact hb 1 _ (by omega)) (fun f g1 g2 => e1 f _ (by omega)) (fun j hj => e1 17 _ (by omega)) ?_
        exact ex_1 hx1 hd hk
  · rw [r' 32 0 (by decide) (by decide) (by decide) (by decide), hs]; exact w3.2.2.1
  · rw [r' 55 i (by decide) (by decide) (by decide) (by decide)]; exact w3.2.2.2 i hi
  · rw [hs] at hS
    exact relK_cg (w4 j hj hS) (fun f hf => hs f j) (b' 7 j (by decide)) (fun f i hf => r' f i (by omega) (by omega) (by omega) (by omega))
  · rw [r' 1 i (by decide) (by decide) (by decide) (by decide), b' 20 0 (by decide)]; exact hH.2.2.2.2.2 i hi
  · exact inv_lift f2 h6 (fun f j hf => hs f j) (by rw [hs]; exact g.2.2.1) (by rw [hs]; exact g.2.2.2.1) (by rw [hs]; exact g.2.2.2.2.1) (by rw [hs]; exact g.2.2.2.2.2.2.1) (hs 185 0) (fun i => by rw [hs]; exact g.2.2.2.2.2.2.2.2.1 i) (fun i => by rw [hs]; exact f2.2.2.2.2.1.1 i) (fun i t h1 => by rw [hs] at h1; exact f2.2.2.2.2.1.2 i t h1) (fun t => b' 36 t (by decide)) sts (fun d _ => ⟨fun f _ => hs f d, b' 29 d (by decide)⟩)
/-- WireBusModel's reel gives its first bytes away -/
theorem r_drop {L : Nat} (h : RM a ra R M) (h3 : R 3 0 = nI L) (hL : L ≤ 200) (hn : n ≤ L) : sm_Run (D + 1) 154 0 (sm_ent 154 [.inr (some a), .inl (nI n)]) [] M (fun v M' => v = none ∧ ∃ R', RM a ra R' M' ∧ R' 3 0 = nI (L - n) ∧ (∀ j, j < L - n → R' 2 j = R 2 (n + j)) ∧ ∀ f j, f ≠ 2 → f ≠ 3 → R' f j = R f j) := by
  have key : ∀ (m i : Nat) (R1 : Nat → Nat → Int32) (M : sm_M), n + i + m = L → RM a ra R1 M → (∀ j, j < i → R1 2 j = R 2 (n + j)) → (∀ j, i ≤ j → R1 2 j = R 2 j) → (∀ f j, f ≠ 2 → R1 f j = R f j) → sm_Run (D + 1) 154 2 [some (.inr (some a)), some (.inl (nI n)), some (.inl (nI (n + i)))] [] M (fun v M' => v = none ∧ ∃ R', RM a ra R' M' ∧ R' 3 0 = nI (L - n) ∧ (∀ j, j < L - n → R' 2 j = R 2 (n + j)) ∧ ∀ f j, f ≠ 2 → f ≠ 3 → R' f j = R f j) := by
    intro m
    induction m with
    | zero =>
      intro i R1 M hi k1 k2 k3 k4
      have e3 : sm_I M a 3 = nI L := by rw [rS_3 k1, k4 3 0 (by decide)]; exact h3
      refine bb_154_2 ⟨k1.1, fun _ => ?_, fun q => ?_⟩
      · rw [e3, pk_sub hn]
        refine ⟨rfl, _, rm_sr k1, by rw [u2_r, if_pos ⟨rfl, rfl⟩], fun j hj => ?_, fun f j n1 n2 => ?_⟩
        · rw [u2_r, if_neg (by omega)]; exact k2 j (by omega)
        · rw [u2_r, if_neg (by omega)]; exact k4 f j n1
      · rw [e3, nI_leI (by omega) (by omega)] at q; omega
    | succ m ih =>
      intro i R1 M hi k1 k2 k3 k4
      have e3 : sm_I M a 3 = nI L := by rw [rS_3 k1, k4 3 0 (by decide)]; exact h3
      refine bb_154_2 ⟨k1.1, fun q => ?_, fun _ => ⟨ra 2, rd_r2 k1, of_eq_true (rA_2 k1), of_eq_true (rN_2 k1 (by omega)), of_eq_true (rW_2 k1), ?_, ?_⟩⟩
      · rw [e3, nI_leI (by omega) (by omega)] at q; omega
      · rw [pk_sub (by omega)]; exact of_eq_true (rN_2 k1 (by omega))
      · rw [pk_sub (by omega), nI_clamp (by omega), nI_clamp (by omega), rR_2 k1, nI_1, k3 (n + i) (by omega), show n + i - n = i by omega]
        refine ih (i + 1) (sm_u2 R1 2 i (R 2 (n + i))) _ (by omega) (rm_wr k1) (fun j hj => ?_) (fun j hj => ?_) (fun f j hf => ?_)
        · rw [u2_r]
          by_cases c : j = i
          · rw [if_pos ⟨rfl, c⟩, c]
          · rw [if_neg (by omega)]; exact k2 j (by omega)
        · rw [u2_r, if_neg (by omega)]; exact k3 j (by omega)
        · rw [u2_r, if_neg (by omega)]; exact k4 f j hf
  refine bb_154_0 ?_
  exact key (L - n) 0 R M (by omega) h (fun j hj => by omega) (fun _ _ => rfl) (fun _ _ _ => rfl)
end IV_
