/-! Calls, both sides: a device comes, the host's part. -/
section JE_
variable {a : Nat} {ra : Nat → Nat} {R R' : Nat → Nat → Int32} {M : sm_M} {D : Nat} {P P' Q X : pP} {d k t i n m e : Nat} {x x1 : Int32}
theorem inv_come (hI : INV P) (h6 : ∀ d, d < 6 → s_ P 86 d ≤ 6) (hd : d < 6) (h83 : s_ P 83 d = 0) (hs : ∀ f j, ¬ ((f = 83 ∨ f = 84 ∨ f = 89 ∨ f = 91 ∨ f = 60 ∨ f = 160 ∨ f = 161 ∨ f = 162 ∨ f = 164 ∨ f = 165) ∧ j = d) → ¬ (103 ≤ f ∧ f ≤ 105 ∧ 6 * d ≤ j ∧ j < 6 * d + 6) → s_ X f j = s_ P f j) (hb : ∀ c j, c ≠ 1 → b_ X c j = b_ P c j) (x83 : s_ X 83 d = 1) (x160 : s_ X 160 d = 1) (x162 : s_ X 162 d = 8) (x164 : s_ X 164 d = 0) (x165 : s_ X 165 d = 0) : INV X := by
  obtain ⟨iG, iT, iW, iU, iF, iN, iR, iQ, iD, iI⟩ := id hI
  obtain ⟨g1, g2, g3, g4, g5, g6, g7, g8, g9, g10⟩ := id iG
  have s1 : ∀ f j, f < 60 ∨ (84 < f ∧ f < 89) ∨ (91 < f ∧ f < 103) ∨ (105 < f ∧ f < 160) ∨ 165 < f → s_ X f j = s_ P f j := fun f j h => hs f j (by omega) (by omega)
  have eo : ∀ f e', e' ≠ d → f < 103 ∨ 105 < f → s_ X f e' = s_ P f e' := fun f e' ne hf => hs f e' (by omega) (by omega)
  have zs : ∀ e, e ≠ d → ZSa e P X := fun e' ne => ⟨fun f hf => eo f e' ne (by omega), hb 29 e' (by decide)⟩
  have sts : STs P X := fun d' _ => ⟨fun f hf => hs f d' (by omega) (by omega), fun f k h1 h2 h3 => s1 f _ (by omega)⟩
  have ec : ∀ e', e' < 6 → p_conf X e' = p_conf P e' := fun e' he => conf_st sts he (h6 e' he)
  have dd := iD d hd
  obtain ⟨z1, z2, z3, z4⟩ := dd.1 h83
  have wg : ∀ t, wtg X t ↔ wtg P t := fun t => by unfold wtg; rw [s1 122 0 (by omega), s1 211 t (by omega)]
  have wc' : ∀ t, wtc X t ↔ wtc P t := fun t => by unfold wtc; rw [s1 122 0 (by omega), s1 211 t (by omega), s1 213 t (by omega)]
  refine ⟨?_, fun t ht => ?_, fun t hw => ?_, fun t t' hw hw' => ?_, ⟨fun i => ?_, fun i t k1 k2 k3 => ?_⟩, ?_, ?_, ?_, fun d' hd' => ?_, ?_⟩
  · unfold IG
    rw [s1 0 0 (by omega), s1 125 0 (by omega), s1 127 0 (by omega), s1 128 0 (by omega), s1 180 0 (by omega), s1 184 0 (by omega), s1 130 0 (by omega)]
    exact ⟨g1, g2, g3, g4, g5, g6, g7, g8, fun i => by rw [s1 185 i (by omega)]; exact g9 i, fun d' hd' => by rw [eo 165 d' (by omega) (by omega)]; exact g10 d' hd'⟩
  · rw [s1 122 0 (by omega)] at ht
    have E : TT X t = TT P t := by unfold TT; rw [hb 36 t (by decide)]; simp (disch := omega) only [s1]
    rw [E]; exact iT t ht
  · have hw' := (wg t).mp hw
    have nd := z4 t hw'
    obtain ⟨b1, b2, b3⟩ := iW t hw'
    have a1 := (iT t hw'.1).1
    rw [s1 212 t (by omega), s1 213 t (by omega)]
    refine ⟨b1, fun z => ?_, fun z => ?_⟩
    · have wc := b2 z
      refine wc_mk wc (fun f' k1 k2 => s1 f' t (by omega)) (by rw [hb 36 t (by decide)]) (fun f' hf' => eo f' _ nd (by omega)) (fun c => by rw [s1 209 t (by omega)]; exact wc.2.2.2.2.1 c) (fun c => ?_) (fun c => mn_zs (wc.2.2.2.2.2.2.2.2.1 c) (zs _ nd)) (fun c => by rw [(zs _ nd).1 83 (by decide)]; exact wc.2.2.2.2.2.2.2.2.2.1 c) (fun c => ?_)
      · rw [s1 209 t (by omega)] at c
        rw [s1 210 t (by omega)]; exact wc.2.2.2.2.2.1 c
      · have kp := wc.2.2.2.2.2.2.2.2.2.2.1 c
        exact ⟨pfx_cg kp.1 (s1 210 t (by omega)) (hb 36 t (by decide)) (s1 200 t (by omega)) (ec _ a1), kd_cg kp.2 (fun z6 => by rw [s1 209 t (by omega)] at z6; exact z6) (s1 185 0 (by omega)) (s1 210 t (by omega)) (s1 200 t (by omega)) (zs _ nd) (eo 80 _ nd (by omega)) (ec _ a1)⟩
    · obtain ⟨c1, c2, k, c3, c4, c5, c6⟩ := b3 z
      unfold WP pid
      rw [s1 208 t (by omega), s1 209 t (by omega), s1 200 t (by omega), s1 213 t (by omega), s1 203 t (by omega), s1 202 t (by omega), s1 180 _ (by omega), s1 182 _ (by omega), eo 164 _ nd (by omega)]
      exact ⟨c1, c2, k, c3, by rw [s1 166 _ (by omega)]; exact c4, c5, c6⟩
  · rw [s1 200 t (by omega), s1 200 t' (by omega), s1 208 t (by omega), s1 209 t' (by omega)]
    exact iU t t' ((wc' t).mp hw) ((wc' t').mp hw')
  · rw [s1 122 0 (by omega), s1 187 i (by omega)]; exact iF.1 i
  · rw [s1 122 0 (by omega)] at k2
    rw [s1 187 i (by omega)] at k1
    rw [s1 213 t (by omega)] at k3
    rw [s1 211 t (by omega)]
    exact iF.2 i t k1 k2 k3
  · rw [s1 123 0 (by omega), s1 122 0 (by omega), iN]
    exact (cnt_cg _ (fun t' _ => by rw [s1 211 t' (by omega)])).symm
  · obtain ⟨r, r1, r2, r3⟩ := iR
    refine ⟨r, r1, fun t' hw n => ?_, by rw [s1 122 0 (by omega)]; exact r3⟩
    rw [s1 208 t' (by omega)] at n
    rw [s1 200 t' (by omega), s1 208 t' (by omega)]
    exact r2 t' ((wc' t').mp hw) n
  · rw [s1 130 0 (by omega), s1 123 0 (by omega), s1 122 0 (by omega)]; exact iQ
  · obtain ⟨e1, e2, e3, e4, e5, e6, e7, e8, e9⟩ := iD d' hd'
    have f6 := (sts d' hd').1 86 (by decide)
    have fe := (sts d' hd').2
    have b6 := h6 d' hd'
    have ep : EPs X d' := by
      unfold EPs
      rw [f6]
      refine ⟨fun k hk => ?_, fun k k' hk hk' => ?_⟩
      · rw [fe 100 k (by decide) (by decide) (by omega), fe 101 k (by decide) (by decide) (by omega), fe 102 k (by decide) (by decide) (by omega)]
        exact e9.1 k hk
      · rw [fe 100 k (by decide) (by decide) (by omega), fe 100 k' (by decide) (by decide) (by omega)]
        exact e9.2 k k' hk hk'
    by_cases z : d' = d
    · subst z
      unfold DD
      rw [x83, x160, x162, x164, x165]
      exact ⟨fun c => by omega, by decide, fun _ => rfl, fun c => by omega, fun c => absurd rfl c, Nat.zero_le _, fun k hk => absurd hk (Nat.not_lt_zero _), fun c => absurd rfl c, ep⟩
    · unfold DD PR CFG pid
      rw [eo 160 d' z (by omega), eo 161 d' z (by omega), eo 162 d' z (by omega), eo 164 d' z (by omega), eo 165 d' z (by omega), f6, ec d' hd', s1 130 0 (by omega), eo 83 d' z (by omega), hb 36 _ (by decide)]
      refine ⟨fun z => ?_, e2, e3, e4, e5, e6, fun k hk => ?_, fun z => ?_, ep⟩
      · obtain ⟨z1, z2, z3, z4⟩ := e1 z
        exact ⟨z1, z2, z3, fun t' hw => by rw [s1 200 t' (by omega)]; exact z4 t' ((wg t').mp hw)⟩
      · rw [s1 166 _ (by omega), s1 180 _ (by omega), s1 181 _ (by omega), s1 182 _ (by omega), s1 183 _ (by omega), fe 100 k (by decide) (by decide) (by omega), fe 101 k (by decide) (by decide) (by omega), fe 102 k (by decide) (by decide) (by omega)]
        exact e7 k hk
      · rw [s1 211 _ (by omega), s1 203 _ (by omega), s1 210 _ (by omega)]
        exact e8 z
  · intro a k b k' ha hb' hk hk' hp
    have na : a ≠ d := fun z => by rw [z, x164] at hk; omega
    have nb : b ≠ d := fun z => by rw [z, x164] at hk'; omega
    rw [eo 164 a na (by omega)] at hk
    rw [eo 164 b nb (by omega)] at hk'
    unfold pid at hp
    rw [s1 166 _ (by omega), s1 166 _ (by omega)] at hp
    exact iI a k b k' ha hb' hk hk' hp
end JE_
