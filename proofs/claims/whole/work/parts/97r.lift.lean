/-! What always holds of the host: changes that it does not see; a transaction as a whole. -/
section HW
variable {P P' Q X : pP} {d k t : Nat}
abbrev liF (f : Nat) : Prop := hoF f ∧ f ≠ 125 ∧ f ≠ 126 ∧ f ≠ 127 ∧ f ≠ 128 ∧ f ≠ 184 ∧ f ≠ 185 ∧ f ≠ 186 ∧ f ≠ 187
theorem inv_lift (hI : INV P) (h6 : ∀ d, d < 6 → s_ P 86 d ≤ 6) (hH : ∀ f j, liF f → s_ X f j = s_ P f j) (h125 : s_ X 125 0 < 2048) (h127 : s_ X 127 0 ≤ 36) (h128 : s_ X 128 0 < 36) (h184 : s_ X 184 0 ≠ 0) (h185 : s_ X 185 0 = s_ P 185 0) (h185' : ∀ i, s_ X 185 i ≤ 1) (h187 : ∀ i, s_ X 187 i ≤ s_ P 122 0) (h187' : ∀ i t, t < s_ X 187 i → t < s_ P 122 0 → s_ P 213 t = i → s_ P 211 t ≠ 0) (hB : ∀ t, b_ X 36 t = b_ P 36 t) (hSt : STs P X) (hZ : ∀ d, d < 6 → ZSa d P X) : INV X := by
  obtain ⟨iG, iT, iW, iU, iF, iN, iR, iQ, iD, iI⟩ := id hI
  obtain ⟨g1, g2, g3, g4, g5, g6, g7, g8, g9, g10⟩ := id iG
  have e : ∀ f j, 200 ≤ f → f ≤ 213 → s_ X f j = s_ P f j := fun f j k1 k2 => hH f j (by omega)
  have x122 : s_ X 122 0 = s_ P 122 0 := hH 122 0 (by decide)
  have x123 : s_ X 123 0 = s_ P 123 0 := hH 123 0 (by decide)
  have x130 : s_ X 130 0 = s_ P 130 0 := hH 130 0 (by decide)
  have eP : ∀ f j, 160 ≤ f → f ≤ 183 → s_ X f j = s_ P f j := fun f j k1 k2 => hH f j (by omega)
  have ec : ∀ d, d < 6 → p_conf X d = p_conf P d := fun d hd => conf_st hSt hd (h6 d hd)
  have wg : ∀ t, wtg X t ↔ wtg P t := fun t => by unfold wtg; rw [x122, e 211 t (by decide) (by decide)]
  have wc' : ∀ t, wtc X t ↔ wtc P t := fun t => by unfold wtc; rw [x122, e 211 t (by decide) (by decide), e 213 t (by decide) (by decide)]
  refine ⟨?_, fun t ht => ?_, fun t hw => ?_, fun t t' hw hw' => ?_, ⟨fun i => ?_, fun i t k1 k2 k3 => ?_⟩, ?_, ?_, ?_, fun d hd => ?_, ?_⟩
  · unfold IG
    rw [hH 0 0 (by decide), hH 180 0 (by decide), x130]
    exact ⟨g1, g2, h125, h127, h128, g6, h184, g8, h185', fun d' hd' => by rw [eP 165 d' (by decide) (by decide)]; exact g10 d' hd'⟩
  · rw [x122] at ht
    have E : TT X t = TT P t := by unfold TT; rw [hB t, x130]; simp (disch := decide) only [e]
    rw [E]; exact iT t ht
  · have hw := (wg t).mp hw
    obtain ⟨b1, b2, b3⟩ := iW t hw
    have a1 := (iT t hw.1).1
    rw [e 212 t (by decide) (by decide), e 213 t (by decide) (by decide)]
    refine ⟨b1, fun z => ?_, fun z => ?_⟩
    · have wc := b2 z
      refine wc_mk wc (fun f' k1 k2 => e f' t k1 (by omega)) (by rw [hB]) (fun f' hf' => eP f' _ (by omega) (by omega)) (fun c => by rw [e 209 t (by decide) (by decide)]; exact wc.2.2.2.2.1 c) (fun c => ?_) (fun c => mn_zs (wc.2.2.2.2.2.2.2.2.1 c) (hZ _ a1)) (fun c => by rw [(hZ _ a1).1 83 (by decide)]; exact wc.2.2.2.2.2.2.2.2.2.1 c) (fun c => ?_)
      · rw [e 209 t (by decide) (by decide)] at c
        rw [e 210 t (by decide) (by decide)]; exact wc.2.2.2.2.2.1 c
      · have kp := wc.2.2.2.2.2.2.2.2.2.2.1 c
        exact ⟨pfx_cg kp.1 (e 210 t (by decide) (by decide)) (hB t) (e 200 t (by decide) (by decide)) (ec _ a1), kd_cg kp.2 (fun z6 => by rw [e 209 t (by decide) (by decide)] at z6; exact z6) h185 (e 210 t (by decide) (by decide)) (e 200 t (by decide) (by decide)) (hZ _ a1) ((hSt _ a1).1 80 (by decide)) (ec _ a1)⟩
    · have E : WP X t = WP P t := by unfold WP pid; simp (disch := decide) only [e, eP]
      rw [E]; exact b3 z
  · rw [e 200 t (by decide) (by decide), e 200 t' (by decide) (by decide), e 208 t (by decide) (by decide), e 209 t' (by decide) (by decide)]
    exact iU t t' ((wc' t).mp hw) ((wc' t').mp hw')
  · rw [x122]; exact h187 i
  · rw [x122] at k2
    rw [e 213 t (by decide) (by decide)] at k3
    rw [e 211 t (by decide) (by decide)]
    exact h187' i t k1 k2 k3
  · rw [x123, x122, iN]
    exact (cnt_cg _ (fun t' _ => by rw [e 211 t' (by decide) (by decide)])).symm
  · obtain ⟨r, r1, r2, r3⟩ := iR
    refine ⟨r, r1, fun t' hw n => ?_, by rw [x122]; exact r3⟩
    rw [e 208 t' (by decide) (by decide)] at n
    rw [e 200 t' (by decide) (by decide), e 208 t' (by decide) (by decide)]
    exact r2 t' ((wc' t').mp hw) n
  · rw [x130, x123, x122]; exact iQ
  · obtain ⟨e1, e2, e3, e4, e5, e6, e7, e8, e9⟩ := iD d hd
    have f6 := (hSt d hd).1 86 (by decide)
    have fe := (hSt d hd).2
    have b6 := h6 d hd
    unfold DD PR EPs CFG pid
    rw [eP 160 d (by decide) (by decide), eP 161 d (by decide) (by decide), eP 162 d (by decide) (by decide), eP 164 d (by decide) (by decide), eP 165 d (by decide) (by decide), f6, ec d hd, x130, (hZ d hd).1 83 (by decide), hB]
    refine ⟨fun z => ?_, e2, e3, e4, e5, e6, fun k hk => ?_, fun z => ?_, fun k hk => ?_, fun k k' hk hk' => ?_⟩
    · obtain ⟨z1, z2, z3, z4⟩ := e1 z
      exact ⟨z1, z2, z3, fun t' hw => by rw [e 200 t' (by decide) (by decide)]; exact z4 t' ((wg t').mp hw)⟩
    · rw [eP 166 _ (by decide) (by decide), eP 180 _ (by decide) (by decide), eP 181 _ (by decide) (by decide), eP 182 _ (by decide) (by decide), eP 183 _ (by decide) (by decide), fe 100 k (by decide) (by decide) (by omega), fe 101 k (by decide) (by decide) (by omega), fe 102 k (by decide) (by decide) (by omega)]
      exact e7 k hk
    · rw [e 211 _ (by decide) (by decide), e 203 _ (by decide) (by decide), e 210 _ (by decide) (by decide)]
      exact e8 z
    · rw [fe 100 k (by decide) (by decide) (by omega), fe 101 k (by decide) (by decide) (by omega), fe 102 k (by decide) (by decide) (by omega)]
      exact e9.1 k hk
    · rw [fe 100 k (by decide) (by decide) (by omega), fe 100 k' (by decide) (by decide) (by omega)]
      exact e9.2 k k' hk hk'
  · have E : II X = II P := by unfold II pid; simp (disch := decide) only [eP]
    rw [E]; exact iI
/-- only the host's own changes that it does not see -/
theorem inv_ho (hI : INV P) (h6 : ∀ d, d < 6 → s_ P 86 d ≤ 6) (hs : ∀ f j, ¬ (f = 125 ∨ f = 126 ∨ f = 127 ∨ f = 128 ∨ (184 ≤ f ∧ f ≤ 187)) → s_ X f j = s_ P f j) (hb : ∀ c j, b_ X c j = b_ P c j) (h125 : s_ X 125 0 < 2048) (h127 : s_ X 127 0 ≤ 36) (h128 : s_ X 128 0 < 36) (h184 : s_ X 184 0 ≠ 0) (h185 : s_ X 185 0 = s_ P 185 0) (h185' : ∀ i, s_ X 185 i ≤ 1) (h187 : ∀ i, s_ X 187 i ≤ s_ P 122 0) (h187' : ∀ i t, t < s_ X 187 i → t < s_ P 122 0 → s_ P 213 t = i → s_ P 211 t ≠ 0) : INV X :=
  inv_lift hI h6 (fun f j hf => hs f j (by omega)) h125 h127 h128 h184 h185 h185' h187 h187' (fun t => hb 36 t) (fun d _ => ⟨fun f hf => hs f d (by omega), fun f k k1 k2 _ => hs f _ (by omega)⟩) (fun d _ => ⟨fun f hf => hs f d (by omega), hb 29 d⟩)
theorem reAll_s5 {n : Nat} (f i : Nat) (h : ¬ ((f = 184 ∨ f = 185) ∧ ∃ k, k < n ∧ i = pid P d k)) : s_ (p_reAll P d n) f i = s_ P f i := by
  induction n with
  | zero => rfl
  | succ n ih =>
    show s_ (p_reop (p_reAll P d n) (pid P d n)) f i = _
    unfold p_reop
    rw [s_S, if_neg (by rintro ⟨c1, c2⟩; exact h ⟨Or.inr c1, n, by omega, c2⟩), s_S, if_neg (by rintro ⟨c1, c2⟩; exact h ⟨Or.inl c1, n, by omega, c2⟩)]
    exact ih (fun ⟨c1, k, c2, c3⟩ => h ⟨c1, k, by omega, c3⟩)
theorem reAll_5 {n i : Nat} : s_ (p_reAll P d n) 185 i = 0 ∨ s_ (p_reAll P d n) 185 i = s_ P 185 i := by
  induction n with
  | zero => exact Or.inr rfl
  | succ n ih =>
    have e : s_ (p_reAll P d (n + 1)) 185 i = if i = pid P d n then 0 else s_ (p_reAll P d n) 185 i := by
      show s_ (p_reop (p_reAll P d n) (pid P d n)) 185 i = _
      unfold p_reop
      rw [s_S, s_n (by decide)]
      by_cases c : i = pid P d n
      · rw [if_pos ⟨rfl, c⟩, if_pos c]
      · rw [if_neg (fun q => c q.2), if_neg c]
    rw [e]
    split
    · exact Or.inl rfl
    · exact ih
theorem reAll_b {n c i : Nat} : b_ (p_reAll P d n) c i = b_ P c i := by
  induction n with
  | zero => rfl
  | succ n ih => exact ih
/-- pipes are cleared -/
theorem inv_clear (hI : INV P) (h6 : ∀ d, d < 6 → s_ P 86 d ≤ 6) (hd : d < 6) : INV (p_clear P d t) := by
  obtain ⟨iG, iT, iW, iU, iF, iN, iR, iQ, iD, iI⟩ := id hI
  obtain ⟨g1, g2, g3, g4, g5, g6, g7, g8, g9, g10⟩ := id iG
  have np : ∀ k, k < s_ P 164 d → pid P d k ≠ 0 := fun k hk => ((iD d hd).2.2.2.2.2.2.1 k hk).1
  unfold p_clear
  split
  · have e : ∀ f i, ¬ (f = 184 ∨ f = 185) ∨ i = 0 → s_ (p_reAll P d (s_ P 164 d)) f i = s_ P f i := fun f i h => reAll_s5 f i (by
      rintro ⟨c1, k, c2, c3⟩
      rcases h with h | h
      · exact h c1
      · exact np k c2 (by rw [← c3, h]))
    refine inv_ho hI h6 (fun f j hf => e f j (Or.inl (by omega))) (fun c j => reAll_b) ?_ ?_ ?_ ?_ (e 185 0 (Or.inr rfl)) (fun i => ?_) (fun i => ?_) (fun i t k1 => ?_)
    · rw [e 125 0 (Or.inr rfl)]; exact g3
    · rw [e 127 0 (Or.inr rfl)]; exact g4
    · rw [e 128 0 (Or.inr rfl)]; exact g5
    · rw [e 184 0 (Or.inr rfl)]; exact g7
    · rcases reAll_5 (P := P) (d := d) (n := s_ P 164 d) (i := i) with c | c
      · rw [c]; decide
      · rw [c]; exact g9 i
    · rw [e 187 i (Or.inl (by decide))]; exact iF.1 i
    · rw [e 187 i (Or.inl (by decide))] at k1; exact iF.2 i t k1
  · split
    · split
      · exact hI
      · rename_i k hk
        have n0 := np k (pfind_lt hk).1
        have e : ∀ f i, ¬ (f = 184 ∨ f = 185) ∨ i = 0 → s_ (p_reop P (pid P d k)) f i = s_ P f i := fun f i h => by
          unfold p_reop
          rw [s_S, if_neg (by omega), s_S, if_neg (by omega)]
        refine inv_ho hI h6 (fun f j hf => e f j (Or.inl (by omega))) (fun c j => rfl) ?_ ?_ ?_ ?_ (e 185 0 (Or.inr rfl)) (fun i => ?_) (fun i => ?_) (fun i t k1 => ?_)
        · rw [e 125 0 (Or.inr rfl)]; exact g3
        · rw [e 127 0 (Or.inr rfl)]; exact g4
        · rw [e 128 0 (Or.inr rfl)]; exact g5
        · rw [e 184 0 (Or.inr rfl)]; exact g7
        · unfold p_reop
          rw [s_S]
          split
          · decide
          · rw [s_n (by decide)]; exact g9 i
        · rw [e 187 i (Or.inl (by decide))]; exact iF.1 i
        · rw [e 187 i (Or.inl (by decide))] at k1; exact iF.2 i t k1
    · exact hI
/-- what a transaction's parts give as a whole -/
theorem inv_serve (hI : INV P) (hW : WX P) (hT : XT P t) (hS : s_ P 228 0 + 4 < 2 ^ 31) (h126 : s_ P 126 0 + 1 < 2 ^ 31) (ht : wtg P t) (hc : s_ P 213 t = 0 → ∀ t', t' < t → ¬ wtc P t') : INV (p_serve P t) ∧ SVok P t := by
  obtain ⟨iY, mnt, pft⟩ := inv_Y hI hW hT hS h126 ht hc
  obtain ⟨iG, iT, iW, iU, iF, iN, iR, iQ, iD, iI⟩ := id hI
  obtain ⟨h1, h2⟩ := id ht
  obtain ⟨wy, cy, yh, -⟩ := yv hW hT hS h126 h2
  obtain ⟨x1, -, x3, -, x5, x6, -⟩ := exch hW hT hS
  obtain ⟨-, -, k7, -, -⟩ := yv7 hW hT hS h126 h2
  have a1 := (iT t h1).1
  have e0 : ∀ f, (200 ≤ f ∧ f ≤ 208) ∨ f = 213 → s_ (Yv P t) f t = s_ P f t := fun f hf => yh.1 f t (by omega) (by omega) (by omega)
  have e0' : ∀ f, (200 ≤ f ∧ f ≤ 208) ∨ f = 213 → s_ (Y1 P t) f t = s_ P f t := fun f hf => by rw [Y1_s (by omega)]; exact e0 f hf
  have ey : s_ (Yv P t) 211 t ≠ 0 → pS (Yv P t) 123 0 (s_ (Yv P t) 123 0 - 1) = Y1 P t := fun q => by unfold Y1; rw [if_neg q]
  have s9 : p_serve P t = if s_ (Yv P t) 211 t = 0 then Yv P t else p_fin (pS (Yv P t) 123 0 (s_ (Yv P t) 123 0 - 1)) t := rfl
  have x6' : ∀ d, d < 6 → s_ (Y1 P t) 86 d ≤ 6 := fun d hd => by rw [Y1_s (by decide)]; exact ex_86 wy.1.1 hd
  have w122 : s_ (Y1 P t) 122 0 = s_ P 122 0 := by rw [Y1_s (by decide)]; exact yh.1 122 0 (by decide) (by omega) (by omega)
  have x165 : ∀ d, s_ (Y1 P t) 165 d ≤ s_ (Y1 P t) 122 0 := fun d => by
    rw [w122, Y1_s (by decide), yh.1 165 d (by decide) (by omega) (by omega)]
    by_cases hd : d < 6
    · exact ex_165 hW.1.1 hd
    · rw [iG.2.2.2.2.2.2.2.2.2 d (by omega)]; exact Nat.zero_le _
  refine ⟨?_, hT.1, hT.2.1, h126, x1, x3, x5, k7, cy, a1, fun q => ⟨?_, fun z0 z8 => ?_⟩⟩
  · rw [s9]
    by_cases q : s_ (Yv P t) 211 t = 0
    · rw [if_pos q]
      unfold Y1 at iY
      rw [if_pos q] at iY
      exact iY
    · rw [if_neg q, ey q]
      unfold p_fin
      rw [e0' 213 (by decide), e0' 208 (by decide), e0' 200 (by decide)]
      by_cases z : s_ P 213 t = 0
      · rw [if_neg (fun c => c z)]
        by_cases z8 : 0 < s_ P 208 t
        · rw [if_pos z8]
          exact inv_gof iY (fn_Y hI hW hT hS h126 ht hc z (by omega) q) x6' x165
        · rw [if_neg z8]
          split
          · exact inv_clear iY x6' a1
          · exact iY
      · rw [if_pos z]
        obtain ⟨jG, -, -, -, jF, -⟩ := id iY
        obtain ⟨g1, g2, g3, g4, g5, g6, g7, g8, g9, g10⟩ := jG
        have e : ∀ f i, f ≠ 184 ∨ i = 0 → s_ (pS (Y1 P t) 184 (s_ P 213 t) (if s_ (Y1 P t) 211 t = 1 then 1 else 0)) f i = s_ (Y1 P t) f i := fun f i h => by rw [s_S, if_neg (by omega)]
        refine inv_ho iY x6' (fun f j hf => e f j (Or.inl (by omega))) (fun c j => rfl) ?_ ?_ ?_ ?_ (e 185 0 (Or.inr rfl)) (fun i => ?_) (fun i => ?_) (fun i t' k1 => ?_)
        · rw [e 125 0 (Or.inr rfl)]; exact g3
        · rw [e 127 0 (Or.inr rfl)]; exact g4
        · rw [e 128 0 (Or.inr rfl)]; exact g5
        · rw [e 184 0 (Or.inr rfl)]; exact g7
        · rw [e 185 i (Or.inl (by decide))]; exact g9 i
        · rw [e 187 i (Or.inl (by decide))]; exact jF.1 i
        · rw [e 187 i (Or.inl (by decide))] at k1; exact jF.2 i t' k1
  · rw [iN]; exact cnt_pos _ h1 h2
  · have q' : s_ (Yv P t) 211 t ≠ 0 := q
    have fn := fn_Y hI hW hT hS h126 ht hc z0 (by omega) q'
    show GF (pS (Yv P t) 123 0 (s_ (Yv P t) 123 0 - 1)) t
    rw [ey q']
    obtain ⟨jG, jT, -, -, -, jN, -, jQ, jD, -⟩ := id iY
    obtain ⟨f1, f2, f3, f4, f5, f6, f7, f8, f9, f10, f11, f12, f13, f14, f15⟩ := fn
    obtain ⟨a1, a2, a3, a4, a5, a6, a7, a8, a9, a10, a11, a12⟩ := jT t f1
    obtain ⟨w1, w2, w3, w4, w5⟩ := f7
    have l122 := ex_122 hW.1.1
    obtain ⟨r, -, -, -, r4⟩ := f13
    have cl := cnt_le (f := s_ (Y1 P t) 211) (s_ (Y1 P t) 122 0)
    refine ⟨a1, by omega, a11, a2, fun c e => ?_, fun c e => ?_, a6, by omega, by omega, by omega, fun z => ?_⟩
    · have l : (b_ (Y1 P t) 36 t).length = 8 := by rw [w4 (by omega), e]; rfl
      have h3 : s_ (Y1 P t) 203 t ≠ 0 := by rw [f8, w1, e]; decide
      unfold hav
      rw [if_neg h3]
      rcases c.2 with c | c
      · exact absurd c h3
      · omega
    · have l : (b_ (Y1 P t) 36 t).length = 9 := by rw [w4 (by omega), e]; rfl
      have h3 : s_ (Y1 P t) 203 t ≠ 0 := by rw [f8, w1, e]; decide
      unfold hav
      rw [if_neg h3]
      rcases c.2 with c | c
      · exact absurd c h3
      · omega
    · have := x165 (s_ (Y1 P t) 200 t)
      obtain ⟨b1, b2, b3, b4, b5, b6, -⟩ := jT (s_ (Y1 P t) 165 (s_ (Y1 P t) 200 t) - 1) (by omega)
      exact ⟨b2, b6⟩
end HW
