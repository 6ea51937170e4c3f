/-! A frame, both sides: controls. -/
section IJ_
variable {a : Nat} {ra : Nat → Nat} {R R' : Nat → Nat → Int32} {M : sm_M} {D : Nat} {P Pc P1 X Z : pP} {d k t i n m : Nat}
theorem ex_Y1 (hx : EX (Yv P t)) : EX (Y1 P t) := by
  unfold Y1
  split
  · exact hx
  · obtain ⟨g, M, h⟩ := hx
    have b := rc_B h 123 0
    exact ⟨g, _, rc_w' (c := 6) (k := 3) h (rc_st h (by decide)) (show s_ (Yv P t) 123 0 - 1 < 2 ^ 31 by omega)⟩
theorem r_ctlL : ∀ (n : Nat) (P : pP) (R : Nat → Nat → Int32) (M : sm_M) (Pc : pP) (x1 : Int32) (z3 z4 z5 z6 z7 z8 : Option sm_V), RM a ra R M → FI P R n → Z68 R → AEc P Pc → s_ Pc 127 0 = 36 → (n ≠ 0 → s_ P 123 0 ≠ 0 → p_choose P = p_ch2 Pc) → x1 = nI (if s_ P 186 0 = s_ P 126 0 + 1 then 1 else 0) → sm_Run (D + 8) 191 171 [some (.inr (some a)), some (.inl x1), some (.inl (wI (fw0 P 0))), z3, z4, z5, z6, z7, z8] [] M (FQ a ra (p_inner P n)) := by
  intro n
  induction n with
  | zero =>
    intro P R M Pc x1 z3 z4 z5 z6 z7 z8 h hF hZ hA h127 hc e1
    have go : sm_Run (D + 8) 191 227 [some (.inr (some a)), some (.inl x1), some (.inl (wI (fw0 P 0))), some (.inl 1), z4, z5, z6, z7, z8] [] M (FQ a ra (p_inner P 0)) := by
      refine bb_191_227 ⟨fun q => absurd q (by decide), fun _ => ⟨h.1, ?_⟩⟩
      rw [rS_87 h, hF.2.2.2.2.2.1]
      exact ⟨fun _ => r_398 (D := D + 7) h hF (Or.inl rfl), fun q => absurd (by decide) q⟩
    refine bb_191_171 ⟨fun _ => go, fun _ => ⟨h.1, ?_⟩⟩
    rw [rS_87 h, hF.2.2.2.2.2.1]
    exact ⟨fun _ => go, fun q => absurd (by decide) q⟩
  | succ m ihn =>
    intro P R M Pc x1 z3 z4 z5 z6 z7 z8 h hF hZ hA h127 hc ex
    obtain ⟨f1, f2, f3, f4, f5, f6, f7, f8, f9, f10⟩ := id hF
    have hx := exo_ex f3
    obtain ⟨hX, hH⟩ := xr_xw.mp f1
    obtain ⟨iG, iT, iW, iU, iF, iN, iR, iQ, iD, iI⟩ := id f2
    have g184 := iG.2.2.2.2.2.2.1
    obtain ⟨r1, r2⟩ := ae_rdy (i := 0) hA
    -- no control's turn
    have go : (s_ P 186 0 = s_ P 126 0 + 1 ∨ fw0 P 0 = none) → sm_Run (D + 8) 191 227 [some (.inr (some a)), some (.inl x1), some (.inl (wI (fw0 P 0))), some (.inl 1), z4, z5, z6, z7, z8] [] M (FQ a ra (p_inner P (m + 1))) := by
      intro hN
      refine r_227 (D := D) (m + 1) P R M (p_rdy Pc 0).1 _ _ _ _ _ _ _ h hF hN r1 (by rw [rdy_s (by decide)]; exact h127) (fun z => ?_)
      rw [hc (by omega) z]
      unfold p_ch2
      have e2 : (p_rdy Pc 0).2 = none := by
        rw [r2]
        split
        · rfl
        · rename_i y
          rcases hN with z' | z'
          · exact absurd (Or.inr z') y
          · exact z'
      rw [e2]
      dsimp only
      rw [r1.1 128 0 (by decide) (by decide)]
    have wl : ∀ t, fw0 P 0 = some t → t < 336 := fun t z => by have := (fw0_some z).1; have := ex_122 hx; omega
    have e1 : (x1 = 0) = (s_ P 186 0 ≠ s_ P 126 0 + 1) := propext (by
      rw [ex, li_0, nI_eq (by split <;> omega) (by decide)]
      constructor
      · intro z y; rw [if_pos y] at z; omega
      · intro z; rw [if_neg z])
    refine bb_191_171 ?_
    rw [wI_m1 _ wl, e1]
    refine ⟨fun c => go (Or.inr c), fun c => ⟨h.1, ?_⟩⟩
    rw [rS_87 h, f6]
    refine ⟨fun q => ?_, fun _ => ⟨fun q => go (Or.inl (Decidable.not_not.mp q)), fun q => ?_⟩⟩
    · exfalso
      rw [li_0, nI_leI (by omega) (by decide)] at q
      omega
    have q186 : s_ P 186 0 ≠ s_ P 126 0 + 1 := Decidable.not_not.mp q
    obtain ⟨t, et⟩ : ∃ t, fw0 P 0 = some t := Option.ne_none_iff_exists'.mp c
    obtain ⟨w1, w2, w3, w4⟩ := fw0_some et
    have n123 : s_ P 123 0 ≠ 0 := by rw [iN]; have := cnt_pos (f := s_ P 211) (s_ P 122 0) w1 w3; omega
    rw [if_neg (by omega), et] at r2
    have ec : p_choose P = ((p_rdy Pc 0).1, some t) := by
      rw [hc (by omega) n123]
      unfold p_ch2
      rw [r2]
    have P127 : s_ (p_rdy Pc 0).1 127 0 = 36 := by rw [rdy_s (by decide)]; exact h127
    generalize hP1 : (p_rdy Pc 0).1 = P1 at *
    obtain ⟨c1, c2, c3, c4, c5⟩ := ch_spec f2
    have e1' : (p_choose P).1 = P1 := by rw [ec]
    have e2' : (p_choose P).2 = some t := by rw [ec]
    obtain ⟨i1, x1', w1', wt, xt, hl⟩ := ch_ok f2 f1.1 f3 f9 e2'
    rw [e1'] at c1 c3 c4 i1 x1' w1' wt xt hl
    have o : ∀ f j, f ≠ 127 → f ≠ 187 → s_ P1 f j = s_ P f j := r1.1
    have o228 := o 228 0 (by decide) (by decide)
    have o126 := o 126 0 (by decide) (by decide)
    have p213 : s_ P1 213 t = 0 := by rw [o 213 t (by decide) (by decide)]; exact w2
    obtain ⟨ct, -, sa⟩ := inv_ct i1 w1' ⟨wt.1, wt.2, p213⟩ (hl p213)
    have hX1 : XW P1 R := xw_ho hX (exo_ex x1') (ae8_fho c1) (fun _ _ _ => rfl)
    have hH1 : HREL P1 R := hrel_8 hH (fun f i hf => o f i (by omega) (by omega)) c1.2.1
    obtain ⟨s1, s2, s3, s4, s5, s6, s7, s8, s9, s10⟩ := serve_all i1 w1' x1' xt (by omega) (by omega) wt hl (fun i => by rw [o 186 i (by decide) (by decide), o126]; exact f10 i)
    obtain ⟨wy, -, yh, -⟩ := yv w1' xt (by omega) (by omega) wt.2
    have p126 : s_ (p_serve P1 t) 126 0 = s_ P 126 0 := by rw [s6 126 0 (by decide)]; exact o126
    have inn : p_inner P (m + 1) = p_inner (p_serve P1 t) m := by
      show (match (p_choose P).2 with
        | none => (p_choose P).1
        | some t => p_inner (p_serve (p_choose P).1 t) m) = _
      rw [ec]
    have v0 : s_ (p_serve P1 t) 186 0 = s_ (Yv P1 t) 186 0 := (s10.2.1 0 (by rw [yh.1 130 0 (by decide) (by omega) (by omega)]; have := i1.1.2.2.2.2.2.2.2.1; omega)).1
    have nak : s_ (p_serve P1 t) 186 0 = if hrd (sv5 (sv3 P1 t)) = 11 ∧ s_ P1 209 t ≠ 0 then s_ P 126 0 + 1 else s_ P 186 0 := by
      have := y_186 w1' xt (by omega) (by omega) wt.2
      rw [p213, o126, o 186 0 (by decide) (by decide)] at this
      rw [v0, this]
    have x1n : ∀ b, b = (if hrd (sv5 (sv3 P1 t)) = 11 ∧ s_ P1 209 t ≠ 0 then 1 else 0) → nI b = nI (if s_ (p_serve P1 t) 186 0 = s_ (p_serve P1 t) 126 0 + 1 then 1 else 0) := fun b eb => by
      rw [eb, nak, p126]
      by_cases z : hrd (sv5 (sv3 P1 t)) = 11 ∧ s_ P1 209 t ≠ 0
      · rw [if_pos z, if_pos z, if_pos rfl]
      · rw [if_neg z, if_neg z, if_neg q186]
    rw [et]
    show sm_Run (D + 7) 184 0 (sm_ent 184 [.inr (some a), .inl (nI t)]) [] M _
    refine ru_mono (r_controls (D := D) h hX1 hH1 ct (by omega) (by omega) sa) ?_
    rintro v M2 ⟨rfl, R2, y1, yk, y2⟩
    have y2 : XR (Yv P1 t) R2 := y2
    have t336 := wl t et
    have ct' : (nI t).toNatClampNeg = t := nI_clamp (by omega)
    have r87 : R2 87 0 = nI (m + 1) := by rw [yk 87 0 (by decide)]; exact f6
    have e87 : sm_I M2 a 87 - 1 = nI m := by rw [rS_87 y1, r87, li_1, pk_sub (by omega)]; rfl
    have h3 := rm_sr y1 (f := 87) (v := nI m)
    obtain ⟨yX, yH⟩ := xr_xw.mp y2
    have y122 : s_ (Yv P1 t) 122 0 = s_ P1 122 0 := yh.1 122 0 (by decide) (by omega) (by omega)
    have ty := (yH.2.2.1 t (by rw [y122]; exact wt.1)).2.2.1
    have b211 := ex_b wy.1.1 211 t
    have e73 : (nI (s_ (Yv P1 t) 211 t) = 0) = (s_ (Yv P1 t) 211 t = 0) := propext (by rw [li_0, nI_eq b211 (by decide)])
    -- the next one
    have nxt : ∀ (M4 : sm_M) (R4 : Nat → Nat → Int32) (x2 : Int32), RM a ra R4 M4 → XR (p_serve P1 t) R4 → (∀ f j, f = 68 ∨ f = 69 ∨ f = 87 → R4 f j = sm_u2 R2 87 0 (nI m) f j) → sm_Run (D + 7) 187 0 (sm_ent 187 [.inr (some a)]) [] M4 (fun v M5 => sm_Run (D + 8) 191 221 [some (.inr (some a)), some (.inl (nI (if hrd (sv5 (sv3 P1 t)) = 11 ∧ s_ P1 209 t ≠ 0 then 1 else 0))), some (.inl x2), z3, z4, z5, z6, z7, z8] (v.toList ++ []) M5 (FQ a ra (p_inner P (m + 1)))) := by
      intro M4 R4 x2 h4 hx4 hr4
      obtain ⟨zX, zH⟩ := xr_xw.mp hx4
      refine ru_mono (r_waitC (D := D + 7) h4 zH s2 (exo_ex s3)) ?_
      rintro v M5 ⟨rfl, rfl⟩
      refine bb_191_221 ?_
      rw [inn]
      have z68 : ∀ j, R4 68 j = R 68 j := fun j => by rw [hr4 68 j (by decide), u2_r, if_neg (by omega)]; exact yk 68 j (by decide)
      have fi : FI (p_serve P1 t) R4 m := by
        refine ⟨hx4, s2, s3, ?_, ?_, ?_, by omega, by omega, by rw [p126]; exact f9, fun i => by rw [p126, ← o126]; exact s9 i⟩
        · intro e k' he hk' h181
          have pr := (s2.2.2.2.2.2.2.2.2.1 e he).2.2.2.2.2.2.1 k' hk'
          exact nk_serve (R' := R4) f4 c1 i1 (exo_ex x1') w1' xt (by omega) (by omega) wt.2 s2 s10 (s6 126 0 (by decide)) (Or.inl hZ) z68 (exo_ex s3) e k' he hk' h181 (by rw [p213]; exact pr.1)
        · refine relS_cg f5 (by rw [s6 128 0 (by decide)]; exact o 128 0 (by decide) (by decide)) ?_
          rw [hr4 69 0 (by decide), u2_r, if_neg (by omega)]; exact yk 69 0 (by decide)
        · rw [hr4 87 0 (by decide)]; simp only [u2_r, rowU_r, s_S, s_B, s_F, b_S, b_B, b_F, f_S, f_B, nfl_S, nfl_B, Nat.reduceEqDiff, false_and, and_false, true_and, and_true, and_self, if_true, if_false, reduceIte, ite_self, or_self, or_false, false_or, or_true, true_or, false_implies, implies_true, true_implies, Nat.reduceLeDiff, not_true_eq_false, not_false_eq_true, ne_eq]
      have p127 : s_ (p_serve P1 t) 127 0 = 36 := by rw [s6 127 0 (by decide)]; exact P127
      refine ihn (p_serve P1 t) R4 M4 (p_serve P1 t) _ _ _ _ _ _ _ h4 fi (fun j hj => by rw [z68]; exact hZ j hj) (ae_rf s2.2.2.2.2.1) p127 (fun _ z => ?_) (x1n _ rfl)
      unfold p_choose p_ch1
      rw [if_neg z, p127]
      rfl
    refine bb_191_192 ⟨y1.1, ?_⟩
    rw [e87]
    refine ⟨ra 73, by rw [Rp_j]; exact rd_r73 y1, of_eq_true (rA_73 y1), of_eq_true (rN_73 y1 (by omega)), ?_⟩
    rw [show wI (some t) = nI t from rfl, ct', Ip_b y1 (by decide) (by decide), rR_73 y1, ty, e73]
    refine ⟨fun z => ?_, fun z => ?_⟩
    · have es : p_serve P1 t = Yv P1 t := by
        show (if s_ (Yv P1 t) 211 t = 0 then Yv P1 t else p_fin (pS (Yv P1 t) 123 0 (s_ (Yv P1 t) 123 0 - 1)) t) = _
        rw [if_pos z]
      refine nxt _ _ _ h3 ?_ (fun f j _ => rfl)
      rw [es]
      exact xr_xw.mpr ⟨xw_ho yX wy.1.1 fho_rf (fun f j hf => by rw [u2_r, if_neg (by omega)]), hrel_r yH (fun f j n1 n2 n3 n4 n5 n6 => by rw [u2_r, if_neg (by omega)])⟩
    · -- it is over
      have ey : Y1 P1 t = pS (Yv P1 t) 123 0 (s_ (Yv P1 t) 123 0 - 1) := by unfold Y1; rw [if_neg z]
      have es : p_serve P1 t = p_fin (Y1 P1 t) t := by
        show (if s_ (Yv P1 t) 211 t = 0 then Yv P1 t else p_fin (pS (Yv P1 t) 123 0 (s_ (Yv P1 t) 123 0 - 1)) t) = _
        rw [if_neg z, ey]
      have iY := (inv_Y i1 w1' xt (by omega) (by omega) wt hl).1
      have hHY : HREL (Y1 P1 t) (sm_u2 R2 87 0 (nI m)) := hrel_8 (hrel_r yH (fun f j n1 n2 n3 n4 n5 n6 => by rw [u2_r, if_neg (by omega)])) (fun f i hf => Y1_s (by omega)) (fun c i => Y1_b)
      have eT0 : ∀ f, (200 ≤ f ∧ f ≤ 208) ∨ f = 213 → s_ (Y1 P1 t) f t = s_ P1 f t := fun f k1 => by rw [Y1_s (by omega)]; exact yh.1 f t (by omega) (by omega) (by omega)
      have e165 : ∀ d, s_ (Y1 P1 t) 165 d = s_ P1 165 d := fun d => by rw [Y1_s (by decide)]; exact yh.1 165 d (by decide) (by omega) (by omega)
      have x122 : s_ (Y1 P1 t) 122 0 = s_ P1 122 0 := by rw [Y1_s (by decide)]; exact y122
      have k6 : ∀ f j, f = 60 ∨ f = 85 ∨ f = 86 → sm_u2 R2 87 0 (nI m) f j = R f j := fun f j hf => by rw [u2_r, if_neg (by omega)]; exact yk f j (by omega)
      obtain ⟨t1, t2, t3, t4, t5, t6, t7, t8⟩ := hH1.2.2.1 t wt.1
      obtain ⟨d1, d2, d3⟩ := t8 p213
      obtain ⟨v1, v2, v3, v4, v5⟩ := d3 wt.2
      have a1 := (i1.2.1 t wt.1).1
      refine ru_mono (r_isOver (D := D + 3) (d := s_ P1 200 t) h3 hHY iY (ex_Y1 wy.1.1) (by rw [x122]; exact wt.1) (by rw [eT0 213 (by decide)]; exact p213) (by rw [Y1_s (by decide)]; exact z) (eT0 200 (by decide)) (fun n8 => ?_) (fun d' => ?_)) ?_
      · rw [eT0 208 (by decide)] at n8 ⊢
        refine ⟨fn_Y i1 w1' xt (by omega) (by omega) wt hl p213 n8 z, by rw [k6 60 _ (by decide)]; exact v3 n8, fun n5 => ?_, fun n6 => ?_⟩
        · rw [k6 85 _ (by decide), Y1_b, yh.2.2.2.1]; exact v4 n5
        · obtain ⟨u1, u2, u3⟩ := v5 n6
          have cf := (i1.2.2.2.2.2.2.2.2.1 _ a1).2.2.2.2.2.2.2.1 u1
          have ntc : s_ P1 165 (s_ P1 200 t) - 1 ≠ t := fun q => by have := cf.1; rw [q] at this; exact this wt.2
          rw [e165, Y1_b, yh.2.1 36 _ (Or.inl rfl) (by omega), k6 85 _ (by decide)]
          exact ⟨u2, fun i hi => by rw [k6 86 _ (by decide)]; exact u3 i hi⟩
      · rw [e165, x122]
        by_cases hd' : d' < 6
        · exact ex_165 (exo_ex x1') hd'
        · rw [i1.1.2.2.2.2.2.2.2.2.2 d' (by omega)]; exact Nat.zero_le _
      · rintro v M4 ⟨rfl, R4, u1, u2, u3⟩
        refine bb_191_217 ⟨u1.1, ?_⟩
        refine nxt M4 R4 _ u1 ?_ (fun f j hf => u3 f j (by omega))
        rw [es]
        refine xr_xw.mpr ⟨?_, u2⟩
        rw [← es]
        exact xw_ho yX (exo_ex s3) s5 (fun f j hf => by rw [u3 f j (by omega), u2_r, if_neg (by omega)])
end IJ_
