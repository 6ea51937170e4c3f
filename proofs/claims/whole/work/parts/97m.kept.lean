/-! What always holds of the host, behind a transaction. -/
section HT_
variable {P P' Q X : pP} {d k t : Nat}
theorem wc_mk (h : WC P t) (hs : ∀ f, 200 ≤ f → f ≤ 208 → s_ X f t = s_ P f t) (hl : (b_ X 36 t).length = (b_ P 36 t).length) (hp : ∀ f, f = 160 ∨ f = 161 ∨ f = 162 ∨ f = 165 → s_ X f (s_ P 200 t) = s_ P f (s_ P 200 t)) (h9 : (b_ P 36 t).length = 0 → s_ X 209 t ≠ 1) (h0 : s_ X 209 t = 0 → s_ X 210 t = 0) (hm : s_ P 208 t = 1 → MN (s_ P 200 t) X) (h83 : s_ P 208 t = 2 → s_ X 83 (s_ P 200 t) = 1) (hc : s_ P 208 t = 5 → PFX X t ∧ KD X t) : WC X t := by
  obtain ⟨c1, c2, c3, c4, c5, c6, c7, c8, c9, c10, c11, c12⟩ := h
  unfold WC WS at *
  rw [hl, hs 200 (by decide) (by decide), hs 203 (by decide) (by decide), hs 205 (by decide) (by decide), hs 202 (by decide) (by decide), hs 208 (by decide) (by decide), hs 206 (by decide) (by decide), hs 207 (by decide) (by decide), hp 160 (by decide), hp 161 (by decide), hp 162 (by decide), hp 165 (by decide)]
  exact ⟨c1, c2, c3, c4, h9, h0, c7, c8, hm, h83, hc, c12⟩
theorem carry_83 (h6 : ∀ d, d < 6 → s_ P 86 d ≤ 6) (hd : d < 6) (h : s_ (p_carry P).1 83 d = 0) : s_ P 83 d = 0 := by
  obtain ⟨Q, q1, q2, q3, q4⟩ := carry_at h6 hd
  rw [so_s q4 (by decide)] at h
  rw [← so_s q1 (show 60 ≤ 83 ∧ 83 < 100 by decide)]
  split at h
  · exact h
  · exact hear_83 h
theorem yv_83 (hW : WX P) (hT : XT P t) (hS : s_ P 228 0 + 4 < 2 ^ 31) (h126 : s_ P 126 0 + 1 < 2 ^ 31) (h1 : s_ P 211 t = 0) (hd : d < 6) (h : s_ (Yv P t) 83 d = 0) : s_ P 83 d = 0 := by
  obtain ⟨w7, s7, -, f7, -⟩ := yv7 hW hT hS h126 h1
  obtain ⟨-, w2, -, w3, -, w5, -⟩ := exch hW hT hS
  have h6 : ∀ d, d < 6 → s_ P 86 d ≤ 6 := fun d hd => ex_86 hW.1.1 hd
  have k2 := (fh_sv3 (t := t) h6).1
  have a7 : s_ (sv7 P t).1 83 d = 0 := by
    unfold Yv sv8 at h
    split at h
    · have ep : p_rst (sv7 P t).1 (nk (sv7 P t).1) 0 2 = prD (sv7 P t).1 2 [] := prD_ack.symm
      rw [ep] at h
      have := carry_83 (fun d hd => by rw [prD_s (by omega)]; exact ex_86 w7.1.1 hd) hd h
      rw [prD_s (by omega)] at this
      exact this
    · exact h
  rw [f7.1 83 d (by omega)] at a7
  have a3 : s_ (sv3 P t) 83 d = 0 := by
    cases e : ansD (sv3 P t) with
    | none => rw [sv5_none e] at a7; exact a7
    | some d' =>
      rw [sv5_some e] at a7
      have := carry_83 (fun d hd => by rw [br_s (by omega)]; exact ex_86 w3.1.1 hd) hd a7
      rw [br_s (by omega)] at this
      exact this
  have a2 : s_ (sv2 P t) 83 d = 0 := by
    unfold sv3 at a3
    split at a3
    · exact a3
    · rw [svB_pr k2] at a3
      have := carry_83 (fun d hd => by rw [prD_s (by omega)]; exact ex_86 w2.1.1 hd) hd a3
      rw [prD_s (by omega)] at this
      exact this
  unfold sv2 at a2
  rw [sv1_pr] at a2
  have := carry_83 (fun d hd => by rw [prT_s (by omega)]; exact h6 d hd) hd a2
  rw [prT_s (by omega)] at this
  exact this
/-- behind a transaction; a transfer that ended counts no more -/
def Y1 (P : pP) (t : Nat) : pP := if s_ (Yv P t) 211 t = 0 then Yv P t else pS (Yv P t) 123 0 (s_ (Yv P t) 123 0 - 1)
theorem Y1_s {f i : Nat} (hf : f ≠ 123) : s_ (Y1 P t) f i = s_ (Yv P t) f i := by
  unfold Y1
  split
  · rfl
  · exact s_n hf
theorem Y1_b {c i : Nat} : b_ (Y1 P t) c i = b_ (Yv P t) c i := by
  unfold Y1
  split <;> rfl
theorem mn_cg (h : MN d P) (hs : ∀ f, f = 83 ∨ f = 60 ∨ f = 67 → s_ X f d = s_ P f d) : MN d X := by
  unfold MN
  rw [hs 83 (by decide), hs 60 (by decide), hs 67 (by decide)]
  exact h
theorem kd_mv (h : KD P t) (hs : ∀ f i, f ≠ 123 → s_ X f i = s_ P f i) (hb : ∀ c i, b_ X c i = b_ P c i) : KD X t := by
  have hc : ∀ d, p_conf X d = p_conf P d := fun d => conf_cg (hs _ _ (by decide)) (fun f k h1 h2 _ => hs _ _ (by omega))
  have hn : ∀ d, nfl X d = nfl P d := fun d => nfl_cg (hs _ _ (by decide)) (hs _ _ (by decide)) (hs _ _ (by decide))
  unfold KD at *
  rw [hs 209 _ (by decide), hs 200 _ (by decide), hs 60 _ (by decide), hs 61 _ (by decide), hs 64 _ (by decide), hs 185 _ (by decide), hs 210 _ (by decide), hb, hc, hn]
  exact h
theorem inv_Y (hI : INV P) (hW : WX P) (hT : XT P t) (hS : s_ P 228 0 + 4 < 2 ^ 31) (h126 : s_ P 126 0 + 1 < 2 ^ 31) (ht : wtg P t) (hc : s_ P 213 t = 0 → ∀ t', t' < t → ¬ wtc P t') : INV (Y1 P t) ∧ (s_ P 213 t = 0 → s_ P 208 t = 1 → MN (s_ P 200 t) (Yv P t)) ∧ (s_ P 213 t = 0 → s_ P 208 t = 5 → PFX (Yv P t) t) := by
  obtain ⟨iG, iT, iW, iU, iF, iN, iR, iQ, iD, iI⟩ := id hI
  obtain ⟨h1, h2⟩ := id ht
  obtain ⟨wy, -, yh, -⟩ := yv hW hT hS h126 h2
  obtain ⟨y1, y2, st, yl, yn, y186⟩ := yh
  obtain ⟨n1, n2, n3, n4, n5, n6, n7, n8, n9, n10⟩ := yn
  obtain ⟨a1, a2, a3, a4, a5, a6, a7, a8, a9, a10, a11, a12⟩ := iT t h1
  obtain ⟨g1, g2, g3, g4, g5, g6, g7, g8, g9, g10⟩ := id iG
  have h6 : ∀ d, d < 6 → s_ P 86 d ≤ 6 := fun d hd => ex_86 hW.1.1 hd
  have quiet : ∀ d, d < 6 → s_ P 83 d = 0 ∨ s_ P 84 d ≠ tNum P t % 128 → ZSa d P (Yv P t) := fun d hd hq => yv_quiet hW hT hS h126 h2 hd hq
  have q83 : ∀ d, d < 6 → s_ (Yv P t) 83 d = 0 → s_ P 83 d = 0 := fun d hd q => yv_83 hW hT hS h126 h2 hd q
  have w123 : s_ (Yv P t) 123 0 = s_ P 123 0 := y1 123 0 (by decide) (by omega) (by omega)
  have w122 : s_ (Yv P t) 122 0 = s_ P 122 0 := y1 122 0 (by decide) (by omega) (by omega)
  have cnf : ∀ d, d < 6 → p_conf (Yv P t) d = p_conf P d := fun d hd => conf_st st hd (h6 d hd)
  -- numbers of the token
  have tn : s_ P 213 t = 0 → tNum P t = if s_ P 208 t = 1 ∨ s_ P 208 t = 2 then 0 else s_ P 200 t + 1 := fun q => by unfold tNum; rw [q, g6]; rfl
  have tnp : s_ P 213 t ≠ 0 → tNum P t % 128 = s_ P 200 t + 1 := fun q => by
    have := ((iW t ht).2.2 q).1
    unfold tNum
    rw [if_neg (by omega)]
    omega
  -- a device without address that t does not mean
  have q1 : ∀ d, d < 6 → s_ P 83 d = 1 → (s_ P 213 t = 0 → s_ P 200 t ≠ d) → ZSa d P (Yv P t) := by
    intro d hd h83 hn
    refine quiet d hd (Or.inr ?_)
    have a84 := (hW.1.2.2.1 d hd).2.1 (by omega)
    rw [a84]
    by_cases q : s_ P 213 t = 0
    · rw [tn q]
      by_cases c : s_ P 208 t = 1 ∨ s_ P 208 t = 2
      · exfalso
        have wc := (iW t ht).2.1 q
        have o1 : s_ P 83 (s_ P 200 t) = 1 := by
          rcases c with c | c
          · exact (wc.2.2.2.2.2.2.2.2.1 c).1
          · exact wc.2.2.2.2.2.2.2.2.2.1 c
        exact hn q (hW.1.2.2.2.1 _ d a1 hd o1 h83)
      · rw [if_neg c]; omega
    · rw [tnp q]; omega
  -- t itself
  have mnt : s_ P 213 t = 0 → s_ P 208 t = 1 → MN (s_ P 200 t) (Yv P t) := by
    intro q c
    have wc := (iW t ht).2.1 q
    have m := wc.2.2.2.2.2.2.2.2.1 c
    have ws := wc.2.2.2.2.2.2.2.1 (by omega)
    refine yv_mn hW hT hS h126 h2 a1 m ?_ ?_
    · rw [tn q, if_pos (Or.inl c)]
      exact (hW.1.2.2.1 _ a1).2.1 (by rw [m.1]; decide)
    · intro na
      by_cases s0 : s_ P 209 t = 0
      · have ef : fillB P t = su P t := by unfold fillB; rw [if_pos s0]; rfl
        rw [ef, su_w a7, ws.1, c]; decide
      · have ef : fillB P t = ((b_ P 36 t).drop (s_ P 210 t)).take (chk P t) := by unfold fillB; rw [if_neg s0]
        by_cases s1 : s_ P 209 t = 1
        · exfalso
          refine na (Or.inr ⟨s1, ?_⟩)
          rw [wc.1, ws.1, c]; decide
        · have : chk P t = 0 := by unfold chk; rw [if_neg s1]
          rw [ef, this, List.take_zero]; decide
  have kdt : s_ P 213 t = 0 → s_ P 208 t = 5 → PFX (Yv P t) t ∧ (s_ (Yv P t) 211 t = 0 → KD (Yv P t) t) := by
    intro q c
    have wc := (iW t ht).2.1 q
    have ws := wc.2.2.2.2.2.2.2.1 (by omega)
    have kp := wc.2.2.2.2.2.2.2.2.2.2.1 c
    have n83 : s_ P 83 (s_ P 200 t) ≠ 0 := fun z => ((iD _ a1).1 z).2.2.2 t ht rfl
    have e205 : s_ P 205 t = 32774 := by rw [ws.1, c]; rfl
    refine yv_kd hW hT hS h126 h2 rfl a1 q g6 n83 (by rw [tn q, if_neg (by omega)]) ?_ ?_ ?_ ?_ wc.2.2.2.2.2.1 kp.1 kp.2
    · rw [wc.1, if_neg (by omega)]; decide
    · rw [su_w a7]; exact e205
    · rw [su_v a8, ws.2.1, c]; rfl
    · have := ws.2.2.2.2 c; omega
  refine ⟨?_, mnt, fun q c => (kdt q c).1⟩
  -- the fields of X
  have eX : ∀ f j, hoF f → f ≠ 123 → ¬ (209 ≤ f ∧ f ≤ 212 ∧ j = t) → ¬ ((f = 185 ∨ f = 186) ∧ j = s_ P 213 t) → s_ (Y1 P t) f j = s_ P f j := fun f j k1 k2 k3 k4 => by rw [Y1_s k2]; exact y1 f j k1 k3 k4
  have eB : ∀ j, j ≠ t → b_ (Y1 P t) 36 j = b_ P 36 j := fun j hj => by rw [Y1_b]; exact y2 36 j (Or.inl rfl) (by omega)
  have eT : ∀ t', t' ≠ t → ∀ f, 200 ≤ f → f ≤ 213 → s_ (Y1 P t) f t' = s_ P f t' := fun t' hn f k1 k2 => eX f t' (by omega) (by omega) (by omega) (by omega)
  have eT0 : ∀ f, (200 ≤ f ∧ f ≤ 208) ∨ f = 213 → s_ (Y1 P t) f t = s_ P f t := fun f k1 => eX f t (by omega) (by omega) (by omega) (by omega)
  have x122 : s_ (Y1 P t) 122 0 = s_ P 122 0 := eX 122 0 (by decide) (by decide) (by omega) (by omega)
  have eP : ∀ f, 160 ≤ f → f < 180 → ∀ j, s_ (Y1 P t) f j = s_ P f j := fun f k1 k2 j => eX f j (by omega) (by omega) (by omega) (by omega)
  have x130 : s_ (Y1 P t) 130 0 = s_ P 130 0 := eX 130 0 (by decide) (by decide) (by omega) (by omega)
  have wb : ∀ t', wtg (Y1 P t) t' → wtg P t' := fun t' hw => by
    obtain ⟨w1, w2⟩ := hw
    rw [x122] at w1
    by_cases q : t' = t
    · rw [q]; exact ht
    · rw [eT t' q 211 (by decide) (by decide)] at w2
      exact ⟨w1, w2⟩
  have wcb : ∀ t', wtc (Y1 P t) t' → wtc P t' := fun t' hw => by
    obtain ⟨w1, w2⟩ := wb t' ⟨hw.1, hw.2.1⟩
    refine ⟨w1, w2, ?_⟩
    have := hw.2.2
    by_cases q : t' = t
    · rw [q] at this ⊢; rw [eT0 213 (by decide)] at this; exact this
    · rw [eT t' q 213 (by decide) (by decide)] at this; exact this
  have xst : ∀ d, d < 6 → (∀ f, f = 80 ∨ f = 81 ∨ f = 82 ∨ f = 86 → s_ (Y1 P t) f d = s_ P f d) ∧ ∀ f k, 100 ≤ f → f ≤ 102 → k < 6 → s_ (Y1 P t) f (6 * d + k) = s_ P f (6 * d + k) := fun d hd => ⟨fun f hf => by rw [Y1_s (by omega)]; exact (st d hd).1 f hf, fun f k k1 k2 k3 => by rw [Y1_s (by omega)]; exact (st d hd).2 f k k1 k2 k3⟩
  have xcn : ∀ d, d < 6 → p_conf (Y1 P t) d = p_conf P d := fun d hd => conf_st xst hd (h6 d hd)
  have t1 : s_ (Y1 P t) 211 t = s_ (Yv P t) 211 t := Y1_s (by decide)
  refine ⟨?_, fun t' ht' => ?_, fun t' hw => ?_, fun t' t'' hw hw' => ?_, ⟨fun i => ?_, fun i t' k1 k2 k3 => ?_⟩, ?_, ?_, ?_, fun d hd => ?_, ?_⟩
  · -- IG
    refine ⟨?_, ?_, ?_, ?_, ?_, ?_, ?_, ?_, fun i => ?_, fun d hd => ?_⟩
    · rw [eX 0 0 (by decide) (by decide) (by omega) (by omega)]; exact g1
    · rw [eX 0 0 (by decide) (by decide) (by omega) (by omega)]; exact g2
    · rw [eX 125 0 (by decide) (by decide) (by omega) (by omega)]; exact g3
    · rw [eX 127 0 (by decide) (by decide) (by omega) (by omega)]; exact g4
    · rw [eX 128 0 (by decide) (by decide) (by omega) (by omega)]; exact g5
    · rw [eX 180 0 (by decide) (by decide) (by omega) (by omega)]; exact g6
    · rw [eX 184 0 (by decide) (by decide) (by omega) (by omega)]; exact g7
    · rw [x130]; exact g8
    · by_cases q : i = s_ P 213 t
      · rw [q, Y1_s (by decide)]; exact n2
      · rw [eX 185 i (by decide) (by decide) (by omega) (by omega)]; exact g9 i
    · rw [eP 165 (by decide) (by decide)]; exact g10 d hd
  · -- TT
    rw [x122] at ht'
    by_cases q : t' = t
    · subst q
      unfold TT
      rw [eT0 200 (by decide), eT0 202 (by decide), eT0 205 (by decide), eT0 206 (by decide), eT0 207 (by decide), eT0 208 (by decide), eT0 213 (by decide), x130, Y1_s (by decide), Y1_s (by decide), Y1_s (by decide), Y1_s (by decide), Y1_b, yl]
      exact ⟨a1, n1, n4, n3, a5, n10, a7, a8, a9, a10, a11, n5⟩
    · have := iT t' ht'
      unfold TT at *
      rw [eT t' q 200 (by decide) (by decide), eT t' q 202 (by decide) (by decide), eT t' q 205 (by decide) (by decide), eT t' q 206 (by decide) (by decide), eT t' q 207 (by decide) (by decide), eT t' q 208 (by decide) (by decide), eT t' q 213 (by decide) (by decide), eT t' q 209 (by decide) (by decide), eT t' q 210 (by decide) (by decide), eT t' q 211 (by decide) (by decide), eT t' q 212 (by decide) (by decide), eB t' q, x130]
      exact this
  · -- IWt
    have hp := wb t' hw
    obtain ⟨b1, b2, b3⟩ := iW t' hp
    obtain ⟨c1, c2, c3, c4, c5, c6, c7, c8, c9, c10, c11, c12⟩ := iT t' hp.1
    by_cases q : t' = t
    · subst q
      have hz : s_ (Yv P t') 211 t' = 0 := by rw [← t1]; exact hw.2
      rw [eT0 213 (by decide)]
      refine ⟨by rw [Y1_s (by decide)]; exact n6 hz, fun z => ?_, fun z => ?_⟩
      · have wc := b2 z
        refine wc_mk wc (fun f k1 k2 => eT0 f (by omega)) (by rw [Y1_b]; exact yl) (fun f hf => eP f (by omega) (by omega) _) (fun e => ?_) (fun e => ?_) (fun e => mn_cg (mnt z e) (fun f _ => Y1_s (by omega))) (fun e => ?_) (fun e => ?_)
        · rw [Y1_s (by decide)]; exact n9 e (wc.2.2.2.2.1 e)
        · rw [Y1_s (by decide)] at e ⊢
          rw [(n8 e).2]
          exact wc.2.2.2.2.2.1 (n8 e).1
        · rw [Y1_s (by decide)]
          have o1 := wc.2.2.2.2.2.2.2.2.2.1 e
          have ws := wc.2.2.2.2.2.2.2.1 (by omega)
          refine yv_m1 hW hT hS h126 h2 a1 o1 ?_ ?_ hz
          · rw [tn z, if_pos (Or.inr e)]
            exact (hW.1.2.2.1 _ a1).2.1 (by rw [o1]; decide)
          · refine wc.2.2.2.2.1 ?_
            rw [ws.2.2.2.1 (by omega), e]; rfl
        · have := kdt z e
          refine ⟨pfx_cg this.1 (Y1_s (by decide)) Y1_b (Y1_s (by decide)) ?_, kd_mv (this.2 hz) (fun f i hf => Y1_s hf) (fun c i => Y1_b)⟩
          exact conf_cg (Y1_s (by decide)) (fun f k k1 k2 _ => Y1_s (by omega))
      · obtain ⟨w1, w2, k, w3, w4, w5, w6⟩ := b3 z
        have n180 : s_ P 180 (s_ P 213 t') ≠ 0 := by
          have dd := iD _ c1
          have pr := (dd.2.2.2.2.2.2.1 k w3)
          rw [w4, pr.2.2.1]
          have := dd.2.2.2.2.2.2.2.2.1 k (by have := dd.2.2.2.2.2.1; omega)
          omega
        refine ⟨by rw [eT0 208 (by decide)]; exact w1, by rw [Y1_s (by decide)]; exact n7 n180 w2, k, ?_, ?_, ?_, ?_⟩
        · rw [eT0 200 (by decide), eP 164 (by decide) (by decide)]; exact w3
        · rw [eT0 213 (by decide), eT0 200 (by decide)]; unfold pid; rw [eP 166 (by decide) (by decide)]; exact w4
        · rw [eT0 203 (by decide), eT0 213 (by decide), eX 180 _ (by decide) (by decide) (by omega) (by omega)]; exact w5
        · rw [eT0 202 (by decide), eT0 213 (by decide), eX 182 _ (by decide) (by decide) (by omega) (by omega)]; exact w6
    · rw [eT t' q 212 (by decide) (by decide), eT t' q 213 (by decide) (by decide)]
      refine ⟨b1, fun z => ?_, fun z => ?_⟩
      · have wc := b2 z
        have un : s_ P 213 t = 0 → s_ P 208 t' ≠ 0 → s_ P 200 t ≠ s_ P 200 t' := fun z1 z2 z3 => q ((iU t' t ⟨hp.1, hp.2, z⟩ ⟨h1, h2, z1⟩).1 z3.symm z2)
        refine wc_mk wc (fun f k1 k2 => eT t' q f k1 (by omega)) (by rw [eB t' q]) (fun f hf => eP f (by omega) (by omega) _) (fun e => ?_) (fun e => ?_) (fun e => ?_) (fun e => ?_) (fun e => ?_)
        · rw [eT t' q 209 (by decide) (by decide)]; exact wc.2.2.2.2.1 e
        · rw [eT t' q 209 (by decide) (by decide)] at e
          rw [eT t' q 210 (by decide) (by decide)]; exact wc.2.2.2.2.2.1 e
        · have m := wc.2.2.2.2.2.2.2.2.1 e
          refine mn_cg (mn_zs m (q1 _ c1 m.1 (fun z1 => un z1 (by omega)))) (fun f _ => Y1_s (by omega))
        · have m := wc.2.2.2.2.2.2.2.2.2.1 e
          rw [Y1_s (by decide), (q1 _ c1 m (fun z1 => un z1 (by omega))).1 83 (by decide)]; exact m
        · have kp := wc.2.2.2.2.2.2.2.2.2.2.1 e
          refine ⟨pfx_cg kp.1 (eT t' q 210 (by decide) (by decide)) (eB t' q) (eT t' q 200 (by decide) (by decide)) (xcn _ c1), ?_⟩
          by_cases z1 : s_ P 213 t = 0
          · intro z2
            rw [eT t' q 209 (by decide) (by decide)] at z2
            exfalso
            rcases Nat.lt_or_ge t' t with lt | ge
            · exact hc z1 t' lt ⟨hp.1, hp.2, z⟩
            · have := (iU t t' ⟨h1, h2, z1⟩ ⟨hp.1, hp.2, z⟩).2 (by omega)
              omega
          · have no : s_ P 200 t ≠ s_ P 200 t' := by
              intro z3
              obtain ⟨-, -, kk, w3, -⟩ := (iW t ht).2.2 z1
              rw [z3, (iD _ c1).2.2.1 (wc.2.2.2.1.mp (by omega))] at w3
              omega
            have zs : ZSa (s_ P 200 t') P (Yv P t) := by
              refine quiet _ c1 ?_
              by_cases z4 : s_ P 83 (s_ P 200 t') = 0
              · exact Or.inl z4
              · right
                rw [tnp z1]
                intro z5
                exact no (own_ad hW c1 z4 z5).symm
            exact kd_cg kp.2 (fun z6 => by rw [eT t' q 209 (by decide) (by decide)] at z6; exact z6) (eX 185 0 (by decide) (by decide) (by omega) (by omega)) (eT t' q 210 (by decide) (by decide)) (eT t' q 200 (by decide) (by decide)) ⟨fun f hf => by rw [Y1_s (by omega)]; exact zs.1 f hf, by rw [Y1_b]; exact zs.2⟩ ((xst _ c1).1 80 (by decide)) (xcn _ c1)
      · obtain ⟨w1, w2, k, w3, w4, w5, w6⟩ := b3 z
        refine ⟨by rw [eT t' q 208 (by decide) (by decide)]; exact w1, by rw [eT t' q 209 (by decide) (by decide)]; exact w2, k, ?_, ?_, ?_, ?_⟩
        · rw [eT t' q 200 (by decide) (by decide), eP 164 (by decide) (by decide)]; exact w3
        · rw [eT t' q 213 (by decide) (by decide), eT t' q 200 (by decide) (by decide)]; unfold pid; rw [eP 166 (by decide) (by decide)]; exact w4
        · rw [eT t' q 203 (by decide) (by decide), eT t' q 213 (by decide) (by decide), eX 180 _ (by decide) (by decide) (by omega) (by omega)]; exact w5
        · rw [eT t' q 202 (by decide) (by decide), eT t' q 213 (by decide) (by decide), eX 182 _ (by decide) (by decide) (by omega) (by omega)]; exact w6
  · -- IU
    have w1 := wcb t' hw
    have w2 := wcb t'' hw'
    have g : ∀ x, s_ (Y1 P t) 200 x = s_ P 200 x ∧ s_ (Y1 P t) 208 x = s_ P 208 x := fun x => ⟨eX 200 x (by decide) (by decide) (by omega) (by omega), eX 208 x (by decide) (by decide) (by omega) (by omega)⟩
    rw [(g t').1, (g t'').1, (g t').2]
    refine ⟨(iU t' t'' w1 w2).1, fun lt => ?_⟩
    by_cases q : t'' = t
    · subst q
      exact absurd w1 (hc w2.2.2 t' lt)
    · rw [eT t'' q 209 (by decide) (by decide)]
      exact (iU t' t'' w1 w2).2 lt
  · rw [eX 187 i (by decide) (by decide) (by omega) (by omega), x122]; exact iF.1 i
  · -- IFr
    rw [eX 187 i (by decide) (by decide) (by omega) (by omega)] at k1
    rw [x122] at k2
    have e213 : s_ (Y1 P t) 213 t' = s_ P 213 t' := eX 213 t' (by decide) (by decide) (by omega) (by omega)
    rw [e213] at k3
    have := iF.2 i t' k1 k2 k3
    have q : t' ≠ t := fun q => by rw [q] at this; exact this h2
    rw [eT t' q 211 (by decide) (by decide)]
    exact this
  · -- the count
    rw [x122]
    by_cases q : s_ (Yv P t) 211 t = 0
    · have e : s_ (Y1 P t) 123 0 = s_ P 123 0 := by unfold Y1; rw [if_pos q]; exact w123
      rw [e, iN]
      refine (cnt_cg _ (fun t' ht' => ?_)).symm
      by_cases c : t' = t
      · rw [c, t1, q, h2]
      · rw [eT t' c 211 (by decide) (by decide)]
    · have e : s_ (Y1 P t) 123 0 = s_ P 123 0 - 1 := by unfold Y1; rw [if_neg q, s_S, if_pos ⟨rfl, rfl⟩, w123]
      have := cnt_dn (f := s_ P 211) (f' := s_ (Y1 P t) 211) (t := t) (s_ P 122 0) h1 h2 (by rw [t1]; exact q) (fun t' _ c => by rw [eT t' c 211 (by decide) (by decide)])
      rw [e, iN]
      omega
  · -- IR
    obtain ⟨r, r1, r2, r3⟩ := iR
    refine ⟨r, r1, fun t' hw n => ?_, by rw [x122]; exact r3⟩
    have g : s_ (Y1 P t) 200 t' = s_ P 200 t' ∧ s_ (Y1 P t) 208 t' = s_ P 208 t' := ⟨eX 200 t' (by decide) (by decide) (by omega) (by omega), eX 208 t' (by decide) (by decide) (by omega) (by omega)⟩
    rw [g.2] at n
    rw [g.1, g.2]
    exact r2 t' (wcb t' hw) n
  · rw [x122, x130]
    have : s_ (Y1 P t) 123 0 ≤ s_ P 123 0 := by
      unfold Y1
      split
      · rw [w123]; exact Nat.le_refl _
      · rw [s_S, if_pos ⟨rfl, rfl⟩, w123]; omega
    omega
  · -- DD
    obtain ⟨e1, e2, e3, e4, e5, e6, e7, e8, e9⟩ := iD d hd
    have f6 := (xst d hd).1 86 (by decide)
    have fe := (xst d hd).2
    have b6 := h6 d hd
    unfold DD PR EPs CFG pid
    rw [eP 160 (by decide) (by decide), eP 161 (by decide) (by decide), eP 162 (by decide) (by decide), eP 164 (by decide) (by decide), eP 165 (by decide) (by decide), f6, xcn d hd, x130]
    refine ⟨fun z => ?_, e2, e3, e4, e5, e6, fun k hk => ?_, fun z => ?_, fun k hk => ?_, fun k k' hk hk' => ?_⟩
    · rw [Y1_s (by decide)] at z
      obtain ⟨z1, z2, z3, z4⟩ := e1 (q83 d hd z)
      refine ⟨z1, z2, z3, fun t' hw => ?_⟩
      rw [eX 200 t' (by decide) (by decide) (by omega) (by omega)]
      exact z4 t' (wb t' hw)
    · rw [eP 166 (by decide) (by decide), eX 180 _ (by decide) (by decide) (by omega) (by omega), eX 181 _ (by decide) (by decide) (by omega) (by omega), eX 182 _ (by decide) (by decide) (by omega) (by omega), eX 183 _ (by decide) (by decide) (by omega) (by omega), fe 100 k (by decide) (by decide) (by omega), fe 101 k (by decide) (by decide) (by omega), fe 102 k (by decide) (by decide) (by omega)]
      exact e7 k hk
    · have cf := e8 z
      have q : s_ P 165 d - 1 ≠ t := fun q => by have := cf.1; rw [q] at this; exact this h2
      rw [eT _ q 211 (by decide) (by decide), eT _ q 203 (by decide) (by decide), eT _ q 210 (by decide) (by decide), eB _ q]
      exact cf
    · rw [fe 100 k (by decide) (by decide) (by omega), fe 101 k (by decide) (by decide) (by omega), fe 102 k (by decide) (by decide) (by omega)]
      exact e9.1 k hk
    · rw [fe 100 k (by decide) (by decide) (by omega), fe 100 k' (by decide) (by decide) (by omega)]
      exact e9.2 k k' hk hk'
  · intro d k d' k' k1 k2 k3 k4 k5
    unfold pid at k5
    rw [eP 164 (by decide) (by decide)] at k3 k4
    rw [eP 166 (by decide) (by decide), eP 166 (by decide) (by decide)] at k5
    exact iI d k d' k' k1 k2 k3 k4 k5
end HT_
