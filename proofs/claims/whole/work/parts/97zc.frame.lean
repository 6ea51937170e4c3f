/-! A frame, both sides: the pieces. -/
section IG_
variable {a : Nat} {ra : Nat → Nat} {R R' : Nat → Nat → Int32} {M : sm_M} {D : Nat} {P Pc P1 X Z : pP} {d k t i n : Nat}
theorem nI_mod {x c : Nat} (hx : x < 2 ^ 31) (hc : c < 2 ^ 31) (h0 : 0 < c) : nI x - nI x / nI c * nI c = nI (x % c) := by
  rw [pk_div hx h0 hc, pk_mul, pk_sub (Nat.div_mul_le_self x c)]
  congr 1
  have := Nat.div_add_mod x c
  rw [Nat.mul_comm] at this
  omega
theorem hrel_8 (h : HREL P R) (hs : ∀ f i, f ≠ 123 ∧ f ≠ 126 ∧ f ≠ 127 ∧ f ≠ 128 ∧ f ≠ 186 ∧ f ≠ 187 → s_ X f i = s_ P f i) (hb : ∀ c i, b_ X c i = b_ P c i) : HREL X R := by
  unfold HREL RelP RelQ RelT RelC su pid at *
  simp (disch := decide) only [hs, hb]
  exact h
theorem hrel_r (h : HREL P R) (hr : ∀ f i, f ≠ 68 → f ≠ 69 → f ≠ 82 → f ≠ 83 → f ≠ 84 → f ≠ 87 → R' f i = R f i) : HREL P R' := by
  unfold HREL RelP RelQ RelT RelC at *
  simp (disch := decide) only [hr]
  exact h
theorem hrel_56 {v : Nat} (h : HREL P R) (h1 : ∀ f i, f ≠ 125 ∧ f ≠ 126 → s_ X f i = s_ P f i) (hb : ∀ c i, b_ X c i = b_ P c i) (h5 : s_ X 125 0 = v) : HREL X (sm_u2 R 56 0 (nI v)) := by
  obtain ⟨⟨p1, p2, p3, p4⟩, p5, p6, p7⟩ := h
  have e : ∀ f j, f ≠ 56 → sm_u2 R 56 0 (nI v) f j = R f j := fun f j n => by rw [u2_r, if_neg (fun q => n q.1)]
  have E : HREL X (sm_u2 R 56 0 (nI v)) ↔ ((R 0 0 = nI (s_ P 0 0) ∧ sm_u2 R 56 0 (nI v) 56 0 = nI (s_ X 125 0) ∧ R 70 0 = nI (s_ P 122 0) ∧ True) ∧ (∀ d, d < 6 → RelP P R d) ∧ (∀ t, t < s_ P 122 0 → RelT P R t) ∧ (R 3 0 = nI (b_ P 1 0).length ∧ (∀ i, i < (b_ P 1 0).length → R 2 i = nI ((b_ P 1 0).getD i 0)) ∧ ∀ i, i < 20 → R 1 i = nI ((b_ P 20 0).getD i 0))) := by
    unfold HREL RelP RelQ RelT RelC su pid
    simp (disch := decide) only [h1, hb, e]
  refine E.mpr ⟨⟨p1, ?_, p3, trivial⟩, p5, p6, p7⟩
  rw [u2_r, if_pos ⟨rfl, rfl⟩, h5]
/-- who brought a NAK in this frame -/
def NK (P : pP) (R : Nat → Nat → Int32) : Prop := ∀ d k, d < 6 → k < s_ P 164 d → s_ P 181 (pid P d k) ≠ 0 → R 68 (10 * d + k) = nI (if s_ P 186 (pid P d k) = s_ P 126 0 + 1 then 1 else 0)
def Z68 (R : Nat → Nat → Int32) : Prop := ∀ h, h < 60 → R 68 h = nI 0
/-- what holds inside a frame -/
def FI (P : pP) (R : Nat → Nat → Int32) (n : Nat) : Prop := XR P R ∧ INV P ∧ EXO P ∧ NK P R ∧ RelS P R ∧ R 87 0 = nI n ∧ n ≤ 40 ∧ s_ P 228 0 + 4 * n + 4 < 2 ^ 31 ∧ s_ P 126 0 + 1 < 2 ^ 31 ∧ ∀ i, s_ P 186 i ≤ s_ P 126 0 + 1
def FQ (a : Nat) (ra : Nat → Nat) (F : pP) : Option sm_V → sm_M → Prop := fun v M' => v = none ∧ ∃ R', RM a ra R' M' ∧ XR (p_efr F) R' ∧ RelS F R'
theorem inn_ae (hI : INV P) (h : n = 0 ∨ s_ P 123 0 = 0 ∨ (p_choose P).2 = none) : AEc P (p_inner P n) := by
  have iF := hI.2.2.2.2.1
  cases n with
  | zero => exact ae_rf iF
  | succ m =>
    have e : (p_choose P).2 = none := by
      rcases h with c | c | c
      · omega
      · unfold p_choose; rw [if_pos c]
      · exact c
    have e0 : p_inner P (m + 1) = (p_choose P).1 := by
      show (match (p_choose P).2 with
        | none => (p_choose P).1
        | some t => p_inner (p_serve (p_choose P).1 t) m) = _
      rw [e]
    rw [e0]
    exact (ch_spec hI).2.1 e
theorem relS_cg (h : RelS P R) (h1 : s_ X 128 0 = s_ P 128 0) (h2 : R' 69 0 = R 69 0) : RelS X R' := by
  unfold RelS
  rw [h1, h2]; exact h
/-- the frame's end -/
theorem r_398 {x1 x2 x3 : Int32} {z4 z5 z6 z7 z8 : Option sm_V} (h : RM a ra R M) (hF : FI P R n) (he : n = 0 ∨ s_ P 123 0 = 0 ∨ (p_choose P).2 = none) : sm_Run (D + 1) 191 398 [some (.inr (some a)), some (.inl x1), some (.inl x2), some (.inl x3), z4, z5, z6, z7, z8] [] M (FQ a ra (p_inner P n)) := by
  obtain ⟨f1, f2, f3, f4, f5, f6, f7, f8, f9, f10⟩ := hF
  have ae := inn_ae (n := n) f2 he
  obtain ⟨-, i2, i3, i4, -, -, i7, -⟩ := inner_ok n P f2 f1.1 f3 (by omega) f9 f10
  have g3 := f2.1.2.2.1
  have e125 : s_ (p_inner P n) 125 0 = s_ P 125 0 := ae.1 125 0 (by decide) (by decide)
  have e126 : s_ (p_inner P n) 126 0 = s_ P 126 0 := ae.1 126 0 (by decide) (by decide)
  have r56 : R 56 0 = nI (s_ P 125 0) := f1.2.2.2.2.1.2.1
  have v : nI (s_ P 125 0) + 1 = nI (s_ P 125 0 + 1) := by rw [li_1, nI_add]
  refine bb_191_398 ⟨h.1, ?_⟩
  rw [rS_56 h, r56, v, li_2048, nI_mod (by omega) (by decide) (by decide)]
  have x : EX (p_efr (p_inner P n)) := by
    obtain ⟨g, M0, hr⟩ := exo_ex i4
    obtain ⟨v, M', -, k⟩ := ru_ex (c_efr (D := 0) hr (by rw [e125]; omega) (by rw [e126]; exact f9))
    exact ⟨g, M', k⟩
  have fh : FHo P (p_efr (p_inner P n)) := by
    unfold p_efr
    exact fho_S (fho_S (ae8_fho (ae_8 ae)) (by decide)) (by decide)
  obtain ⟨hX, hH⟩ := xr_xw.mp f1
  refine ⟨rfl, _, rm_sr h, xr_xw.mpr ⟨xw_ho hX x fh (fun f j hf => by rw [u2_r, if_neg (by omega)]), ?_⟩, relS_cg f5 (ae.1 128 0 (by decide) (by decide)) (by rw [u2_r, if_neg (by omega)])⟩
  refine hrel_56 (P := p_inner P n) (hrel_8 hH (fun f i hf => ae.1 f i (by omega) (by omega)) ae.2.1) (fun f i hf => ?_) (fun c i => rfl) ?_
  · unfold p_efr; rw [s_n hf.2, s_n hf.1]
  · unfold p_efr; simp only [s_S, s_B, s_F, b_S, b_B, b_F, f_S, f_B, Nat.reduceEqDiff, false_and, and_false, true_and, and_true, and_self, if_true, if_false, reduceIte, ite_self]; rw [e125]
/-- NAK at the pipe -/
theorem y_186 (hW : WX P) (hT : XT P t) (hS : s_ P 228 0 + 4 < 2 ^ 31) (h126 : s_ P 126 0 + 1 < 2 ^ 31) (h1 : s_ P 211 t = 0) : s_ (Yv P t) 186 (s_ P 213 t) = if hrd (sv5 (sv3 P t)) = 11 ∧ s_ P 209 t ≠ 0 then s_ P 126 0 + 1 else s_ P 186 (s_ P 213 t) := by
  obtain ⟨-, -, -, fy⟩ := yv hW hT hS h126 h1
  have h6 : ∀ d, d < 6 → s_ P 86 d ≤ 6 := fun d hd => ex_86 hW.1.1 hd
  have k5 := fh_sx5 (t := t) h6
  rw [fh_s fy (by decide)]
  have hI6 : TI (sv6 (sv5 (sv3 P t)).1 t (sv5 (sv3 P t)).2) t := ti_sv6 (TI_fh hT.1 k5)
  have e : s_ (sv7 P t).1 186 (s_ P 213 t) = s_ (sv6 (sv5 (sv3 P t)).1 t (sv5 (sv3 P t)).2) 186 (s_ P 213 t) := (hf_hearA (r := (sv5 (sv3 P t)).2) hI6).1 186 _ (by omega) (by omega)
  rw [e]
  have e3 : s_ (sv5 (sv3 P t)).1 213 t = s_ P 213 t := fh_s k5 (by decide)
  have e9 : s_ (sv5 (sv3 P t)).1 209 t = s_ P 209 t := fh_s k5 (by decide)
  have e6 : s_ (sv5 (sv3 P t)).1 126 0 = s_ P 126 0 := fh_s k5 (by decide)
  have e8 : s_ (sv5 (sv3 P t)).1 186 (s_ P 213 t) = s_ P 186 (s_ P 213 t) := fh_s k5 (by decide)
  unfold sv6 hrd
  cases er : (sv5 (sv3 P t)).2 with
  | none => dsimp only; rw [if_neg (by omega)]; exact e8
  | some j =>
    dsimp only
    rw [e3, e9, e6]
    by_cases c : s_ (sv5 (sv3 P t)).1 141 j = 10 ∧ s_ P 209 t ≠ 0
    · rw [if_pos c, if_pos ⟨by omega, c.2⟩, s_S, if_pos ⟨rfl, rfl⟩]
    · rw [if_neg c, if_neg (fun q => c ⟨by omega, q.2⟩)]; exact e8
/-- a pipe's transaction leaves the pipes -/
theorem serve_164 (h0 : s_ P 213 t ≠ 0) (hyh : YH t P (Yv P t)) : ∀ e, s_ (p_serve P t) 164 e = s_ P 164 e := fun e => by
  have s9 : p_serve P t = if s_ (Yv P t) 211 t = 0 then Yv P t else p_fin (pS (Yv P t) 123 0 (s_ (Yv P t) 123 0 - 1)) t := rfl
  have y := hyh.1 164 e (by decide) (by omega) (by omega)
  have y3 := hyh.1 213 t (by decide) (by omega) (by omega)
  rw [s9]
  split
  · exact y
  · unfold p_fin
    rw [if_pos (by rw [s_n (by decide), y3]; exact h0), s_n (by decide), s_n (by decide)]
    exact y
/-- NAKs behind a transaction -/
theorem nk_serve (hNK : NK P R) (hA : AE8 P P1) (hI : INV P1) (hx : EX P1) (hW : WX P1) (hT : XT P1 t) (hS : s_ P1 228 0 + 4 < 2 ^ 31) (h126 : s_ P1 126 0 + 1 < 2 ^ 31) (h1 : s_ P1 211 t = 0) (hI2 : INV (p_serve P1 t)) (hN : NP (Yv P1 t) (p_serve P1 t)) (h126' : s_ (p_serve P1 t) 126 0 = s_ P1 126 0) (hz : Z68 R ∨ s_ P1 213 t ≠ 0) (hk : ∀ j, R' 68 j = R 68 j) (hx2 : EX (p_serve P1 t)) : ∀ d k, d < 6 → k < s_ (p_serve P1 t) 164 d → s_ (p_serve P1 t) 181 (pid (p_serve P1 t) d k) ≠ 0 → pid (p_serve P1 t) d k ≠ s_ P1 213 t → R' 68 (10 * d + k) = nI (if s_ (p_serve P1 t) 186 (pid (p_serve P1 t) d k) = s_ (p_serve P1 t) 126 0 + 1 then 1 else 0) := by
  obtain ⟨-, -, yh, -⟩ := yv hW hT hS h126 h1
  obtain ⟨n1, n2, n3, n4⟩ := hN
  intro d k hd hk' h181 hne
  have k6 : k < 6 := by have := ex_164 hx2 hd; omega
  rw [hk, h126']
  have y130 : s_ (Yv P1 t) 130 0 = s_ P1 130 0 := yh.1 130 0 (by decide) (by omega) (by omega)
  have old : k < s_ P1 164 d → pid (p_serve P1 t) d k = pid P1 d k → R 68 (10 * d + k) = nI (if s_ (p_serve P1 t) 186 (pid (p_serve P1 t) d k) = s_ P1 126 0 + 1 then 1 else 0) := by
    intro c1 c2
    have pr := (hI.2.2.2.2.2.2.2.2.1 d hd).2.2.2.2.2.2.1 k c1
    rw [c2] at h181 hne ⊢
    obtain ⟨m1, m2⟩ := n2 (pid P1 d k) (by rw [y130]; exact pr.2.1)
    rw [m2, yh.1 181 _ (by decide) (by omega) (by omega)] at h181
    rw [m1, yh.1 186 _ (by decide) (by omega) (by omega)]
    have o : ∀ f j, f ≠ 127 → f ≠ 187 → f ≠ 128 → s_ P1 f j = s_ P f j := hA.1
    have ep : pid P1 d k = pid P d k := o 166 _ (by decide) (by decide) (by decide)
    rw [ep] at h181 ⊢
    rw [o 181 _ (by decide) (by decide) (by decide)] at h181
    rw [o 186 _ (by decide) (by decide) (by decide), o 126 0 (by decide) (by decide) (by decide)]
    rw [o 164 d (by decide) (by decide) (by decide)] at c1
    exact hNK d k hd c1 h181
  rcases n4 d k hd hk' k6 with ⟨c1, c2⟩ | ⟨c1, c2⟩
  · rw [yh.1 164 d (by decide) (by omega) (by omega)] at c1
    exact old c1 (c2.trans (yh.1 166 _ (by decide) (by omega) (by omega)))
  · rcases hz with z | z
    · rw [c2, if_neg (by omega)]; exact z _ (by omega)
    · have c3 : k < s_ P1 164 d := by rw [← serve_164 z yh]; exact hk'
      rcases n4 d k hd hk' k6 with ⟨c4, c5⟩ | ⟨c4, -⟩
      · exact old c3 (c5.trans (yh.1 166 _ (by decide) (by omega) (by omega)))
      · exfalso
        have s9 : p_serve P1 t = if s_ (Yv P1 t) 211 t = 0 then Yv P1 t else p_fin (pS (Yv P1 t) 123 0 (s_ (Yv P1 t) 123 0 - 1)) t := rfl
        have y3 := yh.1 213 t (by decide) (by omega) (by omega)
        have e6 : pid (p_serve P1 t) d k = pid P1 d k := by
          unfold pid
          rw [s9]
          split
          · exact yh.1 166 _ (by decide) (by omega) (by omega)
          · unfold p_fin
            rw [if_pos (by rw [s_n (by decide), y3]; exact z), s_n (by decide), s_n (by decide)]
            exact yh.1 166 _ (by decide) (by omega) (by omega)
        have pr := (hI.2.2.2.2.2.2.2.2.1 d hd).2.2.2.2.2.2.1 k c3
        rw [e6, y130] at c4
        have := pr.2.1
        omega
end IG_
