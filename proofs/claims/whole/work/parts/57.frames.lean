/-! WireBus.frames -/
section FM
variable {g : pG} {P : pP} {M M' : sm_M} {D : Nat}
def p_inner (P : pP) : Nat → pP
  | 0 => P
  | n + 1 => match (p_choose P).2 with
    | none => (p_choose P).1
    | some t => p_inner (p_serve (p_choose P).1 t) n
def p_frame (P : pP) : pP := p_efr (p_inner (p_bfr P) (s_ P 0 0))
def p_frs (P : pP) : Nat → pP
  | 0 => P
  | n + 1 => p_frame (p_frs P n)
/-- what the calls inside a frame need -/
def InOk : Nat → pP → Prop
  | 0, P => s_ P 125 0 + 1 < 2 ^ 31 ∧ s_ P 126 0 + 1 < 2 ^ 31
  | n + 1, P => s_ P 127 0 ≤ 36 ∧ s_ P 128 0 < 36 ∧ s_ P 125 0 + 1 < 2 ^ 31 ∧ s_ P 126 0 + 1 < 2 ^ 31 ∧ ∀ t, (p_choose P).2 = some t → t < s_ P 122 0 ∧ SVok (p_choose P).1 t ∧ InOk n (p_serve (p_choose P).1 t)
def FmOk (P : pP) : Prop := CK (bf1 P) ∧ InOk (s_ P 0 0) (p_bfr P)
theorem cb_s {f k : Nat} (hf : f ≠ 187 ∧ f ≠ 128) : ∀ (n pl : Nat) (P : pP), s_ (p_cb P pl n).1 f k = s_ P f k := by
  intro n
  induction n with
  | zero => intro pl P; rfl
  | succ n ih =>
    intro pl P
    unfold p_cb
    split
    · exact ih _ _
    · split
      · exact ih _ _
      · split
        · dsimp only
          rw [s_S, if_neg (fun q => hf.2 q.1), rdy_s hf.1]
        · rw [ih, rdy_s hf.1]
theorem choose_s {f k : Nat} (hf : f ≠ 187 ∧ f ≠ 127 ∧ f ≠ 128) : s_ (p_choose P).1 f k = s_ P f k := by
  unfold p_choose
  split
  · rfl
  · unfold p_ch1
    split
    · exact ci_s ⟨hf.1, hf.2.1⟩ _ _
    · unfold p_ch2
      split
      · dsimp only
        rw [rdy_s hf.1, ci_s ⟨hf.1, hf.2.1⟩]
      · rw [cb_s ⟨hf.1, hf.2.2⟩, rdy_s hf.1, ci_s ⟨hf.1, hf.2.1⟩]
theorem bfr_fh (h6 : ∀ d, d < 6 → s_ P 86 d ≤ 6) {f i : Nat} (hf : hostF f) (h7 : f ≠ 127) : s_ (p_bfr P) f i = s_ P f i := by
  unfold p_bfr
  rw [s_S, if_neg (fun q => h7 q.1)]
  have h1 : Fh P (bf1 P) := by
    unfold bf1
    exact fh_S (fh_rst fh_rf) (by unfold hostF; omega) (by decide)
  have h2 : Fh P (p_carry (bf1 P)).1 := fh_tr h1 (fh_carry fh_rf (fun d hd => by rw [h1.2.2 d]; exact h6 d hd))
  exact h2.1 f i hf
/-- room stands in the bus -/
theorem c_inner {n0 u0 : Nat} {x1 x2 x3 : Int32} : ∀ (n : Nat) (g : pG) (P : pP) (M : sm_M) (z5 : Option sm_V) (Q : Option sm_V → sm_M → Prop), n < 2 ^ 31 → RC g P M → gO n0 u0 g P → InOk n P →
    (∀ g' M' (x4 : Int32) (z5 : Option sm_V), gx g g' → gO n0 u0 g' (p_inner P n) → RC g' (p_efr (p_inner P n)) M' → sm_Run (D + 7) 11 94 [some (.inr (some (g.1 0 0))), some (.inl x1), some (.inl x2), some (.inl x3), some (.inl x4), z5] [] M' Q) →
    sm_Run (D + 7) 11 46 [some (.inr (some (g.1 0 0))), some (.inl x1), some (.inl x2), some (.inl x3), some (.inl (nI n)), z5] [] M Q := by
  intro n
  induction n with
  | zero =>
    intro g P M z5 Q hn h hg hI hQ
    have l0 := rc_st h (c := 0) (i := 0) (by decide)
    have l6 := rc_st h (c := 6) (i := 0) (by decide)
    refine bb_11_46 ⟨fun _ => ⟨rc_K h l0, _, rd_0_4 h, rc_K h l6, ru_mono (c_efr h hI.1 hI.2) ?_⟩, fun q => absurd (by decide) q⟩
    rintro r M1 ⟨rfl, h1⟩
    exact hQ g M1 _ _ gx_rf hg h1
  | succ n ih =>
    intro g P M z5 Q hn h hg hI hQ
    obtain ⟨i1, i2, i3, i4, i5⟩ := hI
    have l0 := rc_st h (c := 0) (i := 0) (by decide)
    have l6 := rc_st h (c := 6) (i := 0) (by decide)
    have l11 := rc_st h (c := 11) (i := 0) (by decide)
    have e122 : s_ (p_choose P).1 122 0 = s_ P 122 0 := choose_s (by decide)
    have e130 : s_ (p_choose P).1 130 0 = s_ P 130 0 := choose_s (by decide)
    refine bb_11_46 ⟨fun q => ?_, fun _ => ⟨rc_K h l0, _, rd_0_4 h, rc_K h l6, ru_mono (c_choose (D := D + 3) h i1 i2 i4) ?_⟩⟩
    · rw [li_0, nI_leI hn (by decide)] at q; omega
    rintro r M1 ⟨rfl, h1⟩
    have hg1 := gO_eq hg e122 e130
    cases hc : (p_choose P).2 with
    | none =>
      have ep : p_inner P (n + 1) = (p_choose P).1 := by show (match (p_choose P).2 with | none => _ | some t => _) = _; rw [hc]
      rw [ep] at hQ
      refine bb_11_58 ⟨fun _ => ⟨rc_K h1 l0, _, rd_0_4 h1, rc_K h1 l6, ru_mono (c_efr h1 (by rw [choose_s (by decide)]; exact i3) (by rw [choose_s (by decide)]; exact i4)) ?_⟩, fun b hb => by cases hb⟩
      rintro r M2 ⟨rfl, h2⟩
      exact hQ g M2 _ _ gx_rf hg1 h2
    | some t =>
      obtain ⟨t1, t2, t3⟩ := i5 t hc
      have ep : p_inner P (n + 1) = p_inner (p_serve (p_choose P).1 t) n := by show (match (p_choose P).2 with | none => _ | some t => _) = _; rw [hc]
      rw [ep] at hQ
      refine bb_11_58 ⟨(fun hb => by cases hb), fun b hb => ?_⟩
      obtain rfl : g.1 10 t = b := Option.some.inj hb
      refine ⟨rc_K h1 l0, _, rd_0_4 h1, rc_K h1 l6, ?_⟩
      rw [rd_0_3 h1]
      refine ru_mono (c_serve (D := D) h1 hg1 (by rw [e122]; exact t1) t2) ?_
      rintro r M2 ⟨rfl, g', x1', x2', x3'⟩
      refine bb_11_81 ?_
      rw [pk_m1]
      have a0 := (x1' 0 0 l0).2
      rw [← a0]
      refine ih g' _ M2 _ Q (by omega) x3' x2' t3 (fun g'' M' x4 z5 e1 e2 e3 => ?_)
      rw [a0]
      exact hQ g'' M' x4 z5 (gx_tr x1' e1) e2 e3
def p_frames (P : pP) (x : Int32) : Option Int32 × pP := if x < 1 ∨ ¬ x ≤ 200 then (some (-1), P) else (some (nI (s_ (p_frs P x.toNatClampNeg) 228 0 - s_ P 228 0)), p_frs P x.toNatClampNeg)
theorem c_frames {n0 u0 : Nat} {x : Int32} (h : RC g P M) (hg : gO n0 u0 g P) (hF : ∀ i, i < 200 → i < x.toNatClampNeg → FmOk (p_frs P i)) (hrm : ∀ i, i < 200 → s_ (p_frs P i) 0 0 = s_ P 0 0) (hmono : ∀ n, n ≤ 200 → s_ P 228 0 ≤ s_ (p_frs P n) 228 0) : sm_Run (D + 7) 11 0 (sm_ent 11 [.inr (some (g.1 0 0)), .inl x]) [] M (fun v M' => v = (p_frames P x).1.map Sum.inl ∧ ∃ g', gx g g' ∧ gO n0 u0 g' (p_frames P x).2 ∧ RC g' (p_frames P x).2 M') := by
  have l0 := rc_st h (c := 0) (i := 0) (by decide)
  have l11 := rc_st h (c := 11) (i := 0) (by decide)
  have l6 := rc_st h (c := 6) (i := 0) (by decide)
  unfold p_frames
  refine bb_11_0 ⟨fun q => ?_, fun q => ⟨fun q1 => ⟨rc_K h l0, _, rd_0_3 h, rc_K h l11, ?_⟩, fun q1 => ?_⟩⟩
  · rw [if_pos (Or.inl q)]; exact ⟨rfl, g, gx_rf, hg, h⟩
  · rw [if_neg (by rintro (c | c); exact q c; exact c q1)]
    obtain ⟨n, hn, rfl⟩ := nI_of (nlt_nn li_1 (by decide) q)
    rw [li_200, nI_leI hn (by decide)] at q1
    rw [nI_clamp hn] at hF ⊢
    rw [rI_228 h]
    have key : ∀ (m i : Nat) (g1 : pG) (M : sm_M) (z4 z5 : Option sm_V), i + m = n → gx g g1 → gO n0 u0 g1 (p_frs P i) → RC g1 (p_frs P i) M → sm_Run (D + 7) 11 24 [some (.inr (some (g.1 0 0))), some (.inl (nI n)), some (.inl (nI (s_ P 228 0))), some (.inl (nI i)), z4, z5] [] M (fun v M' => v = (some (nI (s_ (p_frs P n) 228 0 - s_ P 228 0))).map Sum.inl ∧ ∃ g', gx g g' ∧ gO n0 u0 g' (p_frs P n) ∧ RC g' (p_frs P n) M') := by
      intro m
      induction m with
      | zero =>
        intro i g1 M z4 z5 hi hx1 hg1 h1
        obtain rfl : i = n := by omega
        have a0 := (hx1 0 0 l0).2
        have r03 := rd_0_3 h1
        rw [a0] at r03
        refine bb_11_24 ⟨fun _ => ⟨by rw [← a0]; exact rc_K h1 (hx1 0 0 l0).1, _, r03, rc_K h1 (hx1 11 0 l11).1, ?_, g1, hx1, hg1, h1⟩, fun q2 => absurd (nI_le (Nat.le_refl _) hn) q2⟩
        rw [rI_228 h1, pk_sub (hmono i (by omega))]; rfl
      | succ m ih =>
        intro i g1 M z4 z5 hi hx1 hg1 h1
        have a0 := (hx1 0 0 l0).2
        have r03 := rd_0_3 h1
        have r04 := rd_0_4 h1
        rw [a0] at r03 r04
        obtain ⟨f1, f2⟩ := hF i (by omega) (by omega)
        have er := hrm i (by omega)
        refine bb_11_24 ⟨fun q2 => ?_, fun _ => ⟨by rw [← a0]; exact rc_K h1 (hx1 0 0 l0).1, _, r04, rc_K h1 (hx1 6 0 l6).1, ?_⟩⟩
        · rw [nI_leI hn (by omega)] at q2; omega
        rw [r03]
        refine ru_mono (c_bfr (D := D) h1 f1) ?_
        rintro r M2 ⟨rfl, h2⟩
        have e00 : s_ (p_bfr (p_frs P i)) 0 0 = s_ (p_frs P i) 0 0 := bfr_fh (rc_86 h1) (Or.inl (by decide)) (by decide)
        refine bb_11_40 ⟨by rw [← a0]; exact rc_K h2 (hx1 0 0 l0).1, ?_⟩
        have x0 := rI_0 h2
        rw [a0, e00] at x0
        rw [x0]
        have b0 := rc_B h1 0 0
        rw [← a0]
        refine c_inner (s_ (p_frs P i) 0 0) g1 _ M2 z5 _ b0 h2 (gO_eq hg1 (bfr_fh (rc_86 h1) (Or.inl (by decide)) (by decide)) (bfr_fh (rc_86 h1) (Or.inl (by decide)) (by decide))) f2 (fun g' M' x4 z5' e1 e2 e3 => ?_)
        refine bb_11_94 ?_
        rw [nI_1, a0]
        exact ih (i + 1) g' M' _ _ (by omega) (gx_tr hx1 e1) (gO_eq e2 (by show s_ (p_efr _) 122 0 = _; unfold p_efr; rw [s_S, if_neg (by omega), s_S, if_neg (by omega)]) (by show s_ (p_efr _) 130 0 = _; unfold p_efr; rw [s_S, if_neg (by omega), s_S, if_neg (by omega)])) e3
    exact key n 0 g M none none (by omega) gx_rf hg h
  · rw [if_pos (Or.inr q1)]; exact ⟨rfl, g, gx_rf, hg, h⟩
end FM
