/-! A frame, both sides: the whole. -/
section IL_
variable {a : Nat} {ra : Nat → Nat} {R R' : Nat → Nat → Int32} {M : sm_M} {D : Nat} {P Pc P1 X Z : pP} {d k t i n m : Nat}
theorem hear_5 {j : Nat} (h : s_ P 141 j = 5) : p_hear P d (some j) = p_h0 P d := by
  unfold p_hear
  dsimp only
  rw [if_neg (by rw [h]; unfold isTok; omega), if_neg (by rw [h]; omega), if_neg (by rw [h]; unfold isDat; omega), if_neg (by rw [h]; omega)]
theorem carry_sof (h6 : ∀ d, d < 6 → s_ P 86 d ≤ 6) (hd : d < 6) (hk : s_ P 141 (nk P) = 5) : ZSa d P (p_carry P).1 := by
  obtain ⟨Q, q1, q2, q3, q4⟩ := carry_at h6 hd
  refine zs_tr (zs_so q1) (zs_tr ?_ (zs_so q4))
  split
  · exact zs_rf
  · have k1 := q2 141 (by decide)
    have e : (p_carry P).2 = none ∨ (p_carry P).2 = some (nk P) := c1_2
    rcases e with e | e
    · rw [e]; exact zs_h0
    · rw [e, hear_5 (by rw [k1]; exact hk)]; exact zs_h0
theorem bf1_prT : bf1 P = prT P 5 (s_ P 125 0) := by
  have e : s_ (p_rst P (nk P) 0 5) 125 0 = s_ P 125 0 := by unfold p_rst; simp only [s_S, s_B, s_F, b_S, b_B, b_F, f_S, f_B, Nat.reduceEqDiff, false_and, and_false, true_and, and_true, and_self, if_true, if_false, reduceIte, ite_self]
  unfold bf1 prT
  rw [e]
theorem fh_bf (h6 : ∀ d, d < 6 → s_ P 86 d ≤ 6) : Fh P (p_carry (bf1 P)).1 := by
  rw [bf1_prT]
  exact fh_tr fh_prT (fh_carry fh_rf (fun d hd => by rw [prT_s (by omega)]; exact h6 d hd))
/-- a frame's beginning -/
theorem bfr_ok (hI : INV P) (hW : WX P) (hE : EXO P) (hS : s_ P 228 0 + 1 < 2 ^ 31) : CK (bf1 P) ∧ INV (p_bfr P) ∧ WX (p_bfr P) ∧ EXO (p_bfr P) ∧ s_ (p_bfr P) 228 0 = s_ P 228 0 + 1 := by
  have g3 := hI.1.2.2.1
  have h6 : ∀ d, d < 6 → s_ P 86 d ≤ 6 := fun d hd => ex_86 hW.1.1 hd
  have kk : okK 5 := Or.inr (Or.inl rfl)
  have rd := rdy_prT (P := P) (k := 5) (n := s_ P 125 0) (by decide) kk (by decide) g3
  have w1 := wx_prT (k := 5) (n := s_ P 125 0) hW (by decide) kk (by decide) g3
  have e228 : s_ (prT P 5 (s_ P 125 0)) 228 0 = s_ P 228 0 := prT_s (by omega)
  have hS' : s_ (prT P 5 (s_ P 125 0)) 228 0 + 1 < 2 ^ 31 := by rw [e228]; exact hS
  have ck : CK (bf1 P) := by rw [bf1_prT]; exact ck_rdy w1 hS' rd
  have w2 : WX (p_carry (bf1 P)).1 := by rw [bf1_prT]; exact wx_carry w1 hS' rd
  have fh := fh_bf h6
  have exo : EXO (p_bfr P) := by
    obtain ⟨n0, u0, g, M, hr, hg⟩ := hE
    obtain ⟨v, M', -, k⟩ := ru_ex (c_bfr (D := 0) hr ck)
    exact ⟨n0, u0, g, M', k, gO_cg hg (bfr_fh h6 (by unfold hostF; omega) (by decide)) (bfr_fh h6 (by unfold hostF; omega) (by decide))⟩
  have so1 : ∀ d, SO d P (bf1 P) := fun d => by rw [bf1_prT]; exact prT_so d
  have h6' : ∀ d, d < 6 → s_ (bf1 P) 86 d ≤ 6 := fun d hd => by rw [so_s (so1 d) (by decide)]; exact h6 d hd
  have ho : FHo (p_carry (bf1 P)).1 (p_bfr P) := fho_S fho_rf (by decide)
  have z7 : s_ (p_bfr P) 127 0 = 0 := by unfold p_bfr; rw [s_S, if_pos ⟨rfl, rfl⟩]
  have b : ∀ f j, hoF f → f ≠ 127 → s_ (p_bfr P) f j = s_ P f j := fun f j h1 h2 => bfr_fh h6 (by unfold hostF; omega) h2
  refine ⟨ck, ?_, wx_ho w2 (exo_ex exo) ho, exo, ?_⟩
  · refine inv_lift hI h6 (fun f j hf => b f j hf.1 hf.2.2.2.1) (by rw [b 125 0 (by decide) (by decide)]; exact g3) (by rw [z7]; omega) (by rw [b 128 0 (by decide) (by decide)]; exact hI.1.2.2.2.2.1) (by rw [b 184 0 (by decide) (by decide)]; exact hI.1.2.2.2.2.2.2.1) (b 185 0 (by decide) (by decide)) (fun i => by rw [b 185 i (by decide) (by decide)]; exact hI.1.2.2.2.2.2.2.2.2.1 i) (fun i => ?_) (fun i t h1 h2 h3 => ?_) (fun t => fh_36 fh) ?_ (fun d hd => ?_)
    · rw [b 187 i (by decide) (by decide)]; exact hI.2.2.2.2.1.1 i
    · rw [b 187 i (by decide) (by decide)] at h1
      exact hI.2.2.2.2.1.2 i t h1 h2 h3
    · exact sts_tr (sts_so (fun d _ => so1 d)) (sts_tr (sts_carry h6') (sts_so (fun d _ => fho_so ho d)))
    · exact zs_tr (zs_so (so1 d)) (zs_tr (carry_sof h6' hd (by rw [bf1_prT, nk_prT]; exact prT_141)) (zs_so (fho_so ho d)))
  · have e : s_ (p_bfr P) 228 0 = s_ (p_carry (bf1 P)).1 228 0 := ho.1 228 0 (by decide)
    rw [e, carry_228' _ h6', bf1_prT, e228]
/-- a frame keeps what holds between frames -/
theorem fr_ok (hI : INV P) (hW : WX P) (hE : EXO P) (hS : s_ P 228 0 + 165 < 2 ^ 31) (h126 : s_ P 126 0 + 1 < 2 ^ 31) (h186 : ∀ i, s_ P 186 i ≤ s_ P 126 0) : FmOk P ∧ INV (p_frame P) ∧ WX (p_frame P) ∧ EXO (p_frame P) ∧ s_ (p_frame P) 228 0 ≤ s_ P 228 0 + 161 ∧ s_ P 228 0 ≤ s_ (p_frame P) 228 0 ∧ (∀ f j, f < 20 → s_ (p_frame P) f j = s_ P f j) ∧ s_ (p_frame P) 126 0 = s_ P 126 0 + 1 ∧ ∀ i, s_ (p_frame P) 186 i ≤ s_ (p_frame P) 126 0 := by
  obtain ⟨b1, b2, b3, b4, b5⟩ := bfr_ok hI hW hE (by omega)
  have h6 : ∀ d, d < 6 → s_ P 86 d ≤ 6 := fun d hd => ex_86 hW.1.1 hd
  have b : ∀ f j, hoF f → f ≠ 127 → s_ (p_bfr P) f j = s_ P f j := fun f j h1 h2 => bfr_fh h6 (by unfold hostF; omega) h2
  have g2 := hI.1.2.1
  have e126 := b 126 0 (by decide) (by decide)
  obtain ⟨i1, i2, i3, i4, i5, i6, i7, i8⟩ := inner_ok (s_ P 0 0) (p_bfr P) b2 b3 b4 (by omega) (by omega) (fun i => by rw [b 186 i (by decide) (by decide), e126]; have := h186 i; omega)
  have f126 : s_ (p_inner (p_bfr P) (s_ P 0 0)) 126 0 = s_ P 126 0 := by rw [i7 126 0 (by omega), e126]
  have g3 := i2.1.2.2.1
  have ho : FHo (p_inner (p_bfr P) (s_ P 0 0)) (p_frame P) := fho_S (fho_S fho_rf (by decide)) (by decide)
  have fs : ∀ f j, f ≠ 125 → f ≠ 126 → s_ (p_frame P) f j = s_ (p_inner (p_bfr P) (s_ P 0 0)) f j := fun f j h1 h2 => by
    unfold p_frame p_efr; rw [s_n h2, s_n h1]
  have fe : s_ (p_frame P) 126 0 = s_ P 126 0 + 1 := by rw [← f126]; unfold p_frame p_efr; simp only [s_S, s_B, s_F, b_S, b_B, b_F, f_S, f_B, Nat.reduceEqDiff, false_and, and_false, true_and, and_true, and_self, if_true, if_false, reduceIte, ite_self]
  have exo : EXO (p_frame P) := by
    obtain ⟨n0, u0, g, M, hr, hg⟩ := i4
    obtain ⟨v, M', -, k⟩ := ru_ex (c_efr (D := 0) hr (by omega) (by omega))
    exact ⟨n0, u0, g, M', k, gO_cg hg (fs 122 0 (by decide) (by decide)) (fs 130 0 (by decide) (by decide))⟩
  refine ⟨⟨b1, i1⟩, ?_, wx_ho i3 (exo_ex exo) ho, exo, ?_, ?_, fun f j hf => ?_, fe, fun i => ?_⟩
  · refine inv_ho i2 (fun d hd => ex_86 i3.1.1 hd) (fun f j hf => fs f j (by omega) (by omega)) (fun c j => rfl) ?_ ?_ ?_ ?_ (fs 185 0 (by decide) (by decide)) (fun i => ?_) (fun i => ?_) (fun i t h1 => ?_)
    · have : s_ (p_frame P) 125 0 = (s_ (p_inner (p_bfr P) (s_ P 0 0)) 125 0 + 1) % 2048 := by unfold p_frame p_efr; simp only [s_S, s_B, s_F, b_S, b_B, b_F, f_S, f_B, Nat.reduceEqDiff, false_and, and_false, true_and, and_true, and_self, if_true, if_false, reduceIte, ite_self]
      omega
    · rw [fs 127 0 (by decide) (by decide)]; exact i2.1.2.2.2.1
    · rw [fs 128 0 (by decide) (by decide)]; exact i2.1.2.2.2.2.1
    · rw [fs 184 0 (by decide) (by decide)]; exact i2.1.2.2.2.2.2.2.1
    · rw [fs 185 i (by decide) (by decide)]; exact i2.1.2.2.2.2.2.2.2.2.1 i
    · rw [fs 187 i (by decide) (by decide)]; exact i2.2.2.2.2.1.1 i
    · rw [fs 187 i (by decide) (by decide)] at h1; exact i2.2.2.2.2.1.2 i t h1
  · rw [fs 228 0 (by decide) (by decide)]; omega
  · rw [fs 228 0 (by decide) (by decide)]; omega
  · rw [fs f j (by omega) (by omega), i7 f j (by omega), b f j (by omega) (by omega)]
  · rw [fe, fs 186 i (by decide) (by decide)]
    have := i8 i
    omega
/-- what holds between frames, both sides -/
def FO (P : pP) (R : Nat → Nat → Int32) : Prop := XR P R ∧ INV P ∧ EXO P ∧ RelS P R ∧ ∀ i, s_ P 186 i ≤ s_ P 126 0
theorem r_21 {z2 z3 z4 z5 z6 z7 z8 : Option sm_V} {Q : Option sm_V → sm_M → Prop} : ∀ (j i : Nat) (R : Nat → Nat → Int32) (M : sm_M), i + j = 60 → RM a ra R M → (∀ h, h < i → R 68 h = nI 0) → (∀ R' M', RM a ra R' M' → Z68 R' → (∀ f i, f ≠ 68 → R' f i = R f i) → sm_Run (D + 1) 191 42 [some (.inr (some a)), some (.inl (nI 0)), z2, z3, z4, z5, z6, z7, z8] [] M' Q) → sm_Run (D + 1) 191 21 [some (.inr (some a)), some (.inl (nI i)), z2, z3, z4, z5, z6, z7, z8] [] M Q := by
  intro j
  induction j with
  | zero =>
    intro i R M hi h h0 hq
    obtain rfl : i = 60 := by omega
    refine bb_191_21 ⟨fun _ => hq R M h h0 (fun _ _ _ => rfl), fun q => absurd (by decide) q⟩
  | succ j ih =>
    intro i R M hi h h0 hq
    have e60 : (60 ≤ nI i) = (60 ≤ i) := propext (by rw [li_60, nI_leI (by decide) (by omega)])
    have ei : nI i + 1 = nI (i + 1) := by rw [li_1, nI_add]
    refine bb_191_21 ?_
    rw [e60]
    refine ⟨fun q => by omega, fun _ => ⟨h.1, ra 68, rd_r68 h, of_eq_true (rW_68 h), of_eq_true (rN_68 h (by omega)), ?_⟩⟩
    rw [ei, nI_clamp (by omega)]
    refine ih (i + 1) (sm_u2 R 68 i (nI 0)) _ (by omega) (rm_wr h) (fun h' hh => ?_) (fun R' M' k1 k2 k3 => hq R' M' k1 k2 (fun f i' hf => ?_))
    · rw [u2_r]
      split
      · rfl
      · exact h0 h' (by omega)
    · rw [k3 f i' hf, u2_r, if_neg (by omega)]
/-- a frame -/
theorem r_frame (h : RM a ra R M) (hF : FO P R) (hS : s_ P 228 0 + 165 < 2 ^ 31) (h126 : s_ P 126 0 + 1 < 2 ^ 31) : sm_Run (D + 8) 191 0 (sm_ent 191 [.inr (some a)]) [] M (fun v M' => v = none ∧ ∃ R', RM a ra R' M' ∧ FO (p_frame P) R') := by
  obtain ⟨f1, f2, f3, f4, f5⟩ := hF
  obtain ⟨w1, w2, w3, w4, hH⟩ := id f1
  obtain ⟨b1, b2, b3, b4, b5⟩ := bfr_ok f2 w1 f3 (by omega)
  obtain ⟨-, o2, -, o4, -, -, -, -, o9⟩ := fr_ok f2 w1 f3 hS h126 f5
  have h6 : ∀ d, d < 6 → s_ P 86 d ≤ 6 := fun d hd => ex_86 w1.1.1 hd
  have b : ∀ f j, hoF f → f ≠ 127 → s_ (p_bfr P) f j = s_ P f j := fun f j h1 h2 => bfr_fh h6 (by unfold hostF; omega) h2
  have g := f2.1
  have r56 : R 56 0 = nI (s_ P 125 0) := hH.1.2.1
  have r0 : R 0 0 = nI (s_ P 0 0) := hH.1.1
  refine bb_191_0 ⟨h.1, ?_⟩
  rw [rS_56 h, r56]
  refine ru_mono (r_tellT (D := D + 2) (k := 5) (n := s_ P 125 0) (x3 := nI (s_ P 125 0)) (x4 := nI 0) h w1 w2 w3 w4 (by omega) (by decide) (Or.inr (Or.inl rfl)) (by unfold isDat; omega) g.2.2.1 (fun q => by unfold isTok at q; omega) (fun _ => rfl)) ?_
  rintro v M1 ⟨rfl, R1, k1, ⟨t1, t2, t3, -, t5⟩, t6⟩
  refine bb_191_11 ⟨k1.1, ?_⟩
  have e0 : sm_I M1 a 0 = nI (s_ P 0 0) := by rw [rS_0 k1, t5 0 0 (by omega), r0]
  rw [e0]
  refine r_21 (D := D + 7) 60 0 (sm_u2 R1 87 0 (nI (s_ P 0 0))) _ (by omega) (rm_sr k1) (fun h' hh => by omega) (fun R2 M2 l1 l2 l3 => ?_)
  have u : ∀ f j, f ≠ 68 → f ≠ 87 → R2 f j = R1 f j := fun f j n1 n2 => by rw [l3 f j n1, u2_r, if_neg (fun q => n2 q.1)]
  rw [← bf1_prT] at t1 t2 t3 t6
  have ho : FHo (p_carry (bf1 P)).1 (p_bfr P) := fho_S fho_rf (by decide)
  have hH2 : HREL (p_bfr P) R2 := by
    refine hrel_8 (P := (p_carry (bf1 P)).1) (hrel_cg hH (fh_bf h6) (fun f i hf => ?_)) (fun f i hf => ?_) (fun c i => rfl)
    · rw [u f i (by omega) (by omega)]; exact t5 f i hf.1
    · unfold p_bfr; exact s_n (by omega)
  have fi : FI (p_bfr P) R2 (s_ P 0 0) := by
    refine ⟨xr_xw.mpr ⟨xw_ho ⟨t1, t6 (by decide), t2, t3⟩ (exo_ex b4) ho (fun f i hf => u f i (by omega) (by omega)), hH2⟩, b2, b4, ?_, ?_, ?_, g.2.1, ?_, ?_, ?_⟩
    · intro e k' he hk' _
      have l6 : s_ (p_bfr P) 164 e ≤ 6 := ex_164 (exo_ex b4) he
      rw [l2 _ (by omega), b 186 _ (by decide) (by decide), b 126 0 (by decide) (by decide), if_neg (by have := f5 (pid (p_bfr P) e k'); omega)]
    · refine relS_cg f4 (b 128 0 (by decide) (by decide)) ?_
      rw [u 69 0 (by decide) (by decide)]; exact t5 69 0 (by omega)
    · rw [l3 87 0 (by decide), u2_r, if_pos ⟨rfl, rfl⟩]
    · have := g.2.1; omega
    · rw [b 126 0 (by decide) (by decide)]; exact h126
    · intro i
      rw [b 186 i (by decide) (by decide), b 126 0 (by decide) (by decide)]
      have := f5 i; omega
  have z7 : s_ (p_bfr P) 127 0 = 0 := by unfold p_bfr; rw [s_S, if_pos ⟨rfl, rfl⟩]
  refine ru_mono (r_intr (D := D) 60 0 (s_ P 0 0) (p_bfr P) R2 M2 (p_bfr P) _ _ _ _ _ _ _ (by omega) l1 fi l2 (ae_rf b2.2.2.2.2.1) z7 (fun _ z => ?_) ?_) ?_
  · unfold p_choose p_ch1 ch1c
    rw [if_neg z, z7]
    rfl
  · rw [b 186 0 (by decide) (by decide), b 126 0 (by decide) (by decide)]
    have := f5 0; omega
  · rintro v M3 ⟨rfl, R3, m1, m2, m3⟩
    refine ⟨rfl, R3, m1, m2, o2, o4, relS_cg m3 ?_ rfl, o9⟩
    unfold p_frame p_efr
    rw [s_n (by decide), s_n (by decide)]
end IL_
