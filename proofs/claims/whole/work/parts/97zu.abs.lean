/-! Calls, both sides: an absent device is described anew. -/
section JD_
variable {a : Nat} {ra : Nat → Nat} {R R' : Nat → Nat → Int32} {M : sm_M} {D : Nat} {P P' Q X : pP} {d k t i n m e : Nat} {x x1 : Int32}
theorem inv_abs (hI : INV P) (h6 : ∀ d, d < 6 → s_ P 86 d ≤ 6) (hd : d < 6) (h83 : s_ P 83 d = 0) (hs : ∀ f j, ¬ ((f = 80 ∨ f = 81 ∨ f = 82 ∨ f = 86) ∧ j = d) → ¬ (100 ≤ f ∧ f ≤ 105 ∧ 6 * d ≤ j ∧ j < 6 * d + 6) → s_ X f j = s_ P f j) (hb : ∀ c j, c ≠ 1 → c ≠ 28 → b_ X c j = b_ P c j) (hE : EPs X d) : INV X := by
  obtain ⟨iG, iT, iW, iU, iF, iN, iR, iQ, iD, iI⟩ := id hI
  obtain ⟨g1, g2, g3, g4, g5, g6, g7, g8, g9, g10⟩ := id iG
  have s1 : ∀ f j, f < 80 ∨ (82 < f ∧ f < 86) ∨ (86 < f ∧ f < 100) ∨ 105 < f → s_ X f j = s_ P f j := fun f j h => hs f j (by omega) (by omega)
  have zs : ∀ e, ZSa e P X := fun e' => ⟨fun f hf => s1 f e' (by omega), hb 29 e' (by decide) (by decide)⟩
  have eo : ∀ f e', e' ≠ d → f = 80 ∨ f = 81 ∨ f = 82 ∨ f = 86 → s_ X f e' = s_ P f e' := fun f e' ne hf => hs f e' (by omega) (by omega)
  have er : ∀ f e' k, e' ≠ d → k < 6 → 100 ≤ f → f ≤ 105 → s_ X f (6 * e' + k) = s_ P f (6 * e' + k) := fun f e' k ne hk f1 f2 => hs f _ (by omega) (by omega)
  have ec : ∀ e', e' < 6 → e' ≠ d → p_conf X e' = p_conf P e' := fun e' he ne => conf_cg (eo 86 e' ne (by omega)) (fun f k h1 h2 h3 => er f e' k ne (by have := h6 e' he; omega) (by omega) (by omega))
  have dd := iD d hd
  obtain ⟨z1, z2, z3, z4⟩ := dd.1 h83
  have wg : ∀ t, wtg X t ↔ wtg P t := fun t => by unfold wtg; rw [s1 122 0 (by omega), s1 211 t (by omega)]
  have wc' : ∀ t, wtc X t ↔ wtc P t := fun t => by unfold wtc; rw [s1 122 0 (by omega), s1 211 t (by omega), s1 213 t (by omega)]
  refine ⟨?_, fun t ht => ?_, fun t hw => ?_, fun t t' hw hw' => ?_, ⟨fun i => ?_, fun i t k1 k2 k3 => ?_⟩, ?_, ?_, ?_, fun d' hd' => ?_, ?_⟩
  · have E : IG X = IG P := by unfold IG; simp (disch := omega) only [s1]
    rw [E]; exact iG
  · rw [s1 122 0 (by omega)] at ht
    have E : TT X t = TT P t := by unfold TT; rw [hb 36 t (by decide) (by decide)]; simp (disch := omega) only [s1]
    rw [E]; exact iT t ht
  · have hw' := (wg t).mp hw
    have nd := z4 t hw'
    obtain ⟨b1, b2, b3⟩ := iW t hw'
    have a1 := (iT t hw'.1).1
    rw [s1 212 t (by omega), s1 213 t (by omega)]
    refine ⟨b1, fun z => ?_, fun z => ?_⟩
    · have wc := b2 z
      refine wc_mk wc (fun f' k1 k2 => s1 f' t (by omega)) (by rw [hb 36 t (by decide) (by decide)]) (fun f' hf' => s1 f' _ (by omega)) (fun c => by rw [s1 209 t (by omega)]; exact wc.2.2.2.2.1 c) (fun c => ?_) (fun c => mn_zs (wc.2.2.2.2.2.2.2.2.1 c) (zs _)) (fun c => by rw [(zs _).1 83 (by decide)]; exact wc.2.2.2.2.2.2.2.2.2.1 c) (fun c => ?_)
      · rw [s1 209 t (by omega)] at c
        rw [s1 210 t (by omega)]; exact wc.2.2.2.2.2.1 c
      · have kp := wc.2.2.2.2.2.2.2.2.2.2.1 c
        exact ⟨pfx_cg kp.1 (s1 210 t (by omega)) (hb 36 t (by decide) (by decide)) (s1 200 t (by omega)) (ec _ a1 nd), kd_cg kp.2 (fun z6 => by rw [s1 209 t (by omega)] at z6; exact z6) (s1 185 0 (by omega)) (s1 210 t (by omega)) (s1 200 t (by omega)) (zs _) (eo 80 _ nd (by omega)) (ec _ a1 nd)⟩
    · have E : WP X t = WP P t := by unfold WP pid; simp (disch := omega) only [s1]
      rw [E]; exact b3 z
  · rw [s1 200 t (by omega), s1 200 t' (by omega), s1 208 t (by omega), s1 209 t' (by omega)]
    exact iU t t' ((wc' t).mp hw) ((wc' t').mp hw')
  · rw [s1 122 0 (by omega), s1 187 i (by omega)]; exact iF.1 i
  · rw [s1 122 0 (by omega)] at k2
    rw [s1 187 i (by omega)] at k1
    rw [s1 213 t (by omega)] at k3
    rw [s1 211 t (by omega)]
    exact iF.2 i t k1 k2 k3
  · rw [s1 123 0 (by omega), s1 122 0 (by omega), iN]
    exact (cnt_cg _ (fun t' _ => by rw [s1 211 t' (by omega)])).symm
  · obtain ⟨r, r1, r2, r3⟩ := iR
    refine ⟨r, r1, fun t' hw n => ?_, by rw [s1 122 0 (by omega)]; exact r3⟩
    rw [s1 208 t' (by omega)] at n
    rw [s1 200 t' (by omega), s1 208 t' (by omega)]
    exact r2 t' ((wc' t').mp hw) n
  · rw [s1 130 0 (by omega), s1 123 0 (by omega), s1 122 0 (by omega)]; exact iQ
  · obtain ⟨e1, e2, e3, e4, e5, e6, e7, e8, e9⟩ := iD d' hd'
    have c1 : s_ X 83 d' = 0 → s_ X 160 d' = 0 ∧ s_ X 164 d' = 0 ∧ s_ X 165 d' = 0 ∧ ∀ t, wtg X t → s_ X 200 t ≠ d' := fun z => by
      rw [s1 83 d' (by omega)] at z
      rw [s1 160 d' (by omega), s1 164 d' (by omega), s1 165 d' (by omega)]
      obtain ⟨y1, y2, y3, y4⟩ := e1 z
      exact ⟨y1, y2, y3, fun t hw => by rw [s1 200 t (by omega)]; exact y4 t ((wg t).mp hw)⟩
    by_cases z : d' = d
    · subst z
      have y164 : s_ X 164 d' = 0 := by rw [s1 164 d' (by omega)]; exact z2
      have y165 : s_ X 165 d' = 0 := by rw [s1 165 d' (by omega)]; exact z3
      have y160 : s_ X 160 d' = 0 := by rw [s1 160 d' (by omega)]; exact z1
      refine ⟨c1, by rw [s1 162 d' (by omega)]; exact e2, fun c => by omega, fun c => by omega, fun c => absurd y164 c, by omega, fun k hk => by omega, fun c => absurd y165 c, hE⟩
    · have b6 := h6 d' hd'
      unfold DD PR EPs CFG pid
      rw [s1 160 d' (by omega), s1 161 d' (by omega), s1 162 d' (by omega), s1 164 d' (by omega), s1 165 d' (by omega), eo 86 d' z (by omega), ec d' hd' z, s1 130 0 (by omega), hb 36 _ (by decide) (by decide)]
      refine ⟨?_, e2, e3, e4, e5, e6, fun k hk => ?_, fun z => ?_, fun k hk => ?_, fun k k' hk hk' => ?_⟩
      · have := c1
        rw [s1 160 d' (by omega), s1 164 d' (by omega), s1 165 d' (by omega)] at this
        exact this
      · rw [s1 166 _ (by omega), s1 180 _ (by omega), s1 181 _ (by omega), s1 182 _ (by omega), s1 183 _ (by omega), er 100 d' k z (by omega) (by decide) (by decide), er 101 d' k z (by omega) (by decide) (by decide), er 102 d' k z (by omega) (by decide) (by decide)]
        exact e7 k hk
      · rw [s1 211 _ (by omega), s1 203 _ (by omega), s1 210 _ (by omega)]
        exact e8 z
      · rw [er 100 d' k z (by omega) (by decide) (by decide), er 101 d' k z (by omega) (by decide) (by decide), er 102 d' k z (by omega) (by decide) (by decide)]
        exact e9.1 k hk
      · rw [er 100 d' k z (by omega) (by decide) (by decide), er 100 d' k' z (by omega) (by decide) (by decide)]
        exact e9.2 k k' hk hk'
  · have E : II X = II P := by unfold II pid; simp (disch := omega) only [s1]
    rw [E]; exact iI
end JD_
