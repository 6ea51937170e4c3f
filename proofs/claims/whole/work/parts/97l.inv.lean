/-! What always holds of the host. -/
section HS_
variable {P P' Q Y : pP} {d k t : Nat}
/-- how many of the first n are 0 -/
def cntN (f : Nat → Nat) : Nat → Nat
  | 0 => 0
  | n + 1 => cntN f n + if f n = 0 then 1 else 0
theorem cnt_cg {f f' : Nat → Nat} : ∀ n, (∀ t, t < n → (f' t = 0 ↔ f t = 0)) → cntN f' n = cntN f n
  | 0, _ => rfl
  | n + 1, h => by
    unfold cntN
    rw [cnt_cg n (fun t ht => h t (by omega))]
    by_cases q : f n = 0
    · rw [if_pos q, if_pos ((h n (by omega)).mpr q)]
    · rw [if_neg q, if_neg (fun c => q ((h n (by omega)).mp c))]
theorem cnt_dn {f f' : Nat → Nat} {t : Nat} : ∀ n, t < n → f t = 0 → f' t ≠ 0 → (∀ t', t' < n → t' ≠ t → (f' t' = 0 ↔ f t' = 0)) → cntN f n = cntN f' n + 1
  | 0, h, _, _, _ => absurd h (Nat.not_lt_zero _)
  | n + 1, h, h0, h1, hh => by
    unfold cntN
    by_cases q : t = n
    · subst q
      rw [if_pos h0, if_neg h1, cnt_cg t (fun t' ht' => hh t' (by omega) (by omega))]
    · have := cnt_dn (f := f) (f' := f') n (by omega) h0 h1 (fun t' ht' => hh t' (by omega))
      rw [this]
      by_cases c : f n = 0
      · rw [if_pos c, if_pos ((hh n (by omega) (by omega)).mpr c)]
      · rw [if_neg c, if_neg (fun c' => c ((hh n (by omega) (by omega)).mp c'))]
theorem cnt_pos {f : Nat → Nat} {t : Nat} : ∀ n, t < n → f t = 0 → 1 ≤ cntN f n
  | 0, h, _ => absurd h (Nat.not_lt_zero _)
  | n + 1, h, h0 => by
    unfold cntN
    by_cases q : t = n
    · subst q; rw [if_pos h0]; omega
    · have := cnt_pos (f := f) n (show t < n by omega) h0
      omega
theorem cnt_le {f : Nat → Nat} : ∀ n, cntN f n ≤ n
  | 0 => Nat.le_refl _
  | n + 1 => by
    unfold cntN
    have := cnt_le (f := f) n
    split <;> omega
theorem cnt_0 {f : Nat → Nat} : ∀ n, cntN f n = 0 → ∀ t, t < n → f t ≠ 0
  | 0, _, _, h => absurd h (Nat.not_lt_zero _)
  | n + 1, h, t, ht => fun h0 => by have := cnt_pos (f := f) (n + 1) ht h0; omega
abbrev wtg (P : pP) (t : Nat) : Prop := t < s_ P 122 0 ∧ s_ P 211 t = 0
abbrev wtc (P : pP) (t : Nat) : Prop := t < s_ P 122 0 ∧ s_ P 211 t = 0 ∧ s_ P 213 t = 0
def TT (P : pP) (t : Nat) : Prop := s_ P 200 t < 6 ∧ s_ P 210 t ≤ (b_ P 36 t).length ∧ s_ P 212 t ≤ 3 ∧ s_ P 209 t ≤ 2 ∧ s_ P 202 t ≤ 64 ∧ B8 (b_ P 36 t) ∧ s_ P 205 t < 65536 ∧ s_ P 206 t < 65536 ∧ s_ P 207 t < 65536 ∧ s_ P 213 t < s_ P 130 0 ∧ s_ P 208 t ≤ 6 ∧ s_ P 211 t ≤ 3
/-- FINDING's transfers are what they are -/
def WS (P : pP) (t : Nat) : Prop := s_ P 205 t = fdW (s_ P 208 t) ∧ s_ P 206 t = fdV (s_ P 200 t) (s_ P 208 t) ∧ s_ P 207 t = 0 ∧ (s_ P 208 t ≠ 5 → (b_ P 36 t).length = fdN (s_ P 208 t) 0) ∧ (s_ P 208 t = 5 → 18 ≤ (b_ P 36 t).length ∧ (b_ P 36 t).length ≤ 60)
def WC (P : pP) (t : Nat) : Prop := (s_ P 203 t = if s_ P 205 t < 32768 then 0 else 1) ∧ s_ P 202 t = s_ P 162 (s_ P 200 t) ∧ ((s_ P 208 t = 1 ∨ s_ P 208 t = 2) ↔ s_ P 161 (s_ P 200 t) = 0) ∧ (s_ P 208 t ≠ 0 ↔ s_ P 160 (s_ P 200 t) = 1) ∧ ((b_ P 36 t).length = 0 → s_ P 209 t ≠ 1) ∧ (s_ P 209 t = 0 → s_ P 210 t = 0) ∧ (s_ P 208 t = 0 → s_ P 205 t ≠ 5) ∧ (s_ P 208 t ≠ 0 → WS P t) ∧ (s_ P 208 t = 1 → MN (s_ P 200 t) P) ∧ (s_ P 208 t = 2 → s_ P 83 (s_ P 200 t) = 1) ∧ (s_ P 208 t = 5 → PFX P t ∧ KD P t) ∧ (s_ P 208 t = 6 → s_ P 165 (s_ P 200 t) ≠ 0)
def WP (P : pP) (t : Nat) : Prop := s_ P 208 t = 0 ∧ s_ P 209 t = 1 ∧ ∃ k, k < s_ P 164 (s_ P 200 t) ∧ s_ P 213 t = pid P (s_ P 200 t) k ∧ (s_ P 203 t = if s_ P 180 (s_ P 213 t) < 128 then 0 else 1) ∧ s_ P 202 t = s_ P 182 (s_ P 213 t)
/-- the configuration that was read is the device's -/
def CFG (P : pP) (d : Nat) : Prop := s_ P 211 (s_ P 165 d - 1) ≠ 0 ∧ s_ P 203 (s_ P 165 d - 1) ≠ 0 ∧ s_ P 210 (s_ P 165 d - 1) = (b_ P 36 (s_ P 165 d - 1)).length ∧ 18 ≤ (b_ P 36 (s_ P 165 d - 1)).length ∧ (b_ P 36 (s_ P 165 d - 1)).length ≤ 60 ∧ (b_ P 36 (s_ P 165 d - 1)).length ≤ (p_conf P d).length ∧ b_ P 36 (s_ P 165 d - 1) = (p_conf P d).take (b_ P 36 (s_ P 165 d - 1)).length
def PR (P : pP) (d k : Nat) : Prop := pid P d k ≠ 0 ∧ pid P d k < s_ P 130 0 ∧ s_ P 180 (pid P d k) = s_ P 100 (6 * d + k) ∧ (s_ P 181 (pid P d k) = if s_ P 102 (6 * d + k) = 0 then 1 else 0) ∧ s_ P 182 (pid P d k) = s_ P 101 (6 * d + k) ∧ s_ P 183 (pid P d k) = s_ P 102 (6 * d + k)
def EPs (P : pP) (d : Nat) : Prop := (∀ k, k < s_ P 86 d → ((1 ≤ s_ P 100 (6 * d + k) ∧ s_ P 100 (6 * d + k) ≤ 7) ∨ (129 ≤ s_ P 100 (6 * d + k) ∧ s_ P 100 (6 * d + k) ≤ 135)) ∧ 1 ≤ s_ P 101 (6 * d + k) ∧ s_ P 101 (6 * d + k) ≤ 64 ∧ s_ P 102 (6 * d + k) ≤ 255) ∧ ∀ k k', k < s_ P 86 d → k' < s_ P 86 d → s_ P 100 (6 * d + k) = s_ P 100 (6 * d + k') → k = k'
def DD (P : pP) (d : Nat) : Prop := (s_ P 83 d = 0 → s_ P 160 d = 0 ∧ s_ P 164 d = 0 ∧ s_ P 165 d = 0 ∧ ∀ t, wtg P t → s_ P 200 t ≠ d) ∧ s_ P 162 d ≤ 64 ∧ (s_ P 160 d = 1 → s_ P 164 d = 0) ∧ (s_ P 160 d = 2 → s_ P 161 d ≠ 0) ∧ (s_ P 164 d ≠ 0 → s_ P 161 d ≠ 0) ∧ s_ P 164 d ≤ s_ P 86 d ∧ (∀ k, k < s_ P 164 d → PR P d k) ∧ (s_ P 165 d ≠ 0 → CFG P d) ∧ EPs P d
def IG (P : pP) : Prop := 1 ≤ s_ P 0 0 ∧ s_ P 0 0 ≤ 40 ∧ s_ P 125 0 < 2048 ∧ s_ P 127 0 ≤ 36 ∧ s_ P 128 0 < 36 ∧ s_ P 180 0 = 0 ∧ s_ P 184 0 ≠ 0 ∧ 1 ≤ s_ P 130 0 ∧ (∀ i, s_ P 185 i ≤ 1) ∧ ∀ d, 6 ≤ d → s_ P 165 d = 0
def IWt (P : pP) : Prop := ∀ t, wtg P t → s_ P 212 t < 3 ∧ (s_ P 213 t = 0 → WC P t) ∧ (s_ P 213 t ≠ 0 → WP P t)
def IU (P : pP) : Prop := ∀ t t', wtc P t → wtc P t' → (s_ P 200 t = s_ P 200 t' → s_ P 208 t ≠ 0 → t = t') ∧ (t < t' → s_ P 209 t' = 0)
def IFr (P : pP) : Prop := (∀ i, s_ P 187 i ≤ s_ P 122 0) ∧ ∀ i t, t < s_ P 187 i → t < s_ P 122 0 → s_ P 213 t = i → s_ P 211 t ≠ 0
def IR (P : pP) : Prop := ∃ r : Nat → Nat, (∀ d, r d ≤ 5) ∧ (∀ t, wtc P t → s_ P 208 t ≠ 0 → 6 ≤ s_ P 208 t + r (s_ P 200 t)) ∧ s_ P 122 0 + (r 0 + r 1 + r 2 + r 3 + r 4 + r 5) ≤ 330
def II (P : pP) : Prop := ∀ d k d' k', d < 6 → d' < 6 → k < s_ P 164 d → k' < s_ P 164 d' → pid P d k = pid P d' k' → d = d' ∧ k = k'
def INV (P : pP) : Prop := IG P ∧ (∀ t, t < s_ P 122 0 → TT P t) ∧ IWt P ∧ IU P ∧ IFr P ∧ s_ P 123 0 = cntN (s_ P 211) (s_ P 122 0) ∧ IR P ∧ s_ P 130 0 + 6 * s_ P 123 0 ≤ 1 + 6 * s_ P 122 0 ∧ (∀ d, d < 6 → DD P d) ∧ II P
/-- the device that a token finds waiting -/
theorem sv2_meant (h6 : ∀ d, d < 6 → s_ P 86 d ≤ 6) (hd : d < 6) (h83 : s_ (sv2 P t) 83 d ≠ 0) (h89 : s_ (sv2 P t) 89 d ≠ 0) : s_ P 83 d ≠ 0 ∧ s_ P 84 d = tNum P t % 128 := by
  have e2 : sv2 P t = (p_carry (prT P (tKind P t) (tNum P t))).1 := by unfold sv2; rw [sv1_pr]
  obtain ⟨Q, q1, q2, q3, q4⟩ := carry_at (P := prT P (tKind P t) (tNum P t)) (d := d) (fun d hd => by rw [prT_s (by omega)]; exact h6 d hd) hd
  rw [← e2, nk_prT, prT_140, prT_s (by omega)] at q4
  rw [nk_prT] at q2 q3
  have so := so_tr (prT_so (P := P) (k := tKind P t) (n := tNum P t) d) q1
  have n83 : s_ P 83 d ≠ 0 := fun c => by
    rw [if_pos (Or.inr c)] at q4
    rw [so_s q4 (by decide), so_s so (by decide)] at h83
    exact h83 c
  refine ⟨n83, ?_⟩
  rw [if_neg (by omega)] at q4
  rw [so_s q4 (by decide)] at h89
  obtain ⟨j, ej, -, h2⟩ := hear_89 h89
  have e := c1_2 (P := prT P (tKind P t) (tNum P t))
  rw [nk_prT] at e
  have ej' : (p_carry1 (prT P (tKind P t) (tNum P t))).2 = some j := ej
  rcases e with e | e
  · rw [e] at ej'; cases ej'
  · rw [e] at ej'
    obtain rfl : nk P = j := Option.some.inj ej'
    rw [q2 142 (by decide), prT_142, so_s so (by decide)] at h2
    exact h2.symm
theorem su_w (h : s_ P 205 t < 65536) : lwh (su P t) = s_ P 205 t := by
  show s_ P 205 t / 256 * 256 + s_ P 205 t % 256 = _
  omega
theorem su_v (h : s_ P 206 t < 65536) : l16 (su P t) 2 = s_ P 206 t := by
  show s_ P 206 t % 256 + 256 * (s_ P 206 t / 256 % 256) = _
  omega
theorem fdW_5 {s : Nat} (h : fdW s = 5) : s = 2 := by
  unfold fdW at h
  split at h
  · assumption
  · split at h <;> omega
theorem tn_lt : tNum P t < 2048 ∨ 6 ≤ s_ P 200 t := by
  unfold tNum
  split <;> omega
/-- the parts of a transaction on endpoint 0 -/
theorem inv_ct (hI : INV P) (hW : WX P) (ht : wtc P t) (hf : ∀ t', t' < t → ¬ wtc P t') : CT P t ∧ XT P t ∧ SA P t := by
  obtain ⟨iG, iT, iW, iU, iF, iN, iR, iQ, iD, iI⟩ := id hI
  obtain ⟨h1, h2, h3⟩ := ht
  obtain ⟨a1, a2, a3, a4, a5, a6, a7, a8, a9, a10, a11, a12⟩ := iT t h1
  obtain ⟨b1, b2, -⟩ := iW t ⟨h1, h2⟩
  have wc := b2 h3
  obtain ⟨c1, c2, c3, c4, c5, c6, c7, c8, c9, c10, c11, c12⟩ := id wc
  obtain ⟨g1, g2, g3, g4, g5, g6, g7, g8, g9, g10⟩ := id iG
  have ti : TI P t := ⟨a2, by rw [h3]; exact g9 0, b1, a4, a5⟩
  have h6 : ∀ d, d < 6 → s_ P 86 d ≤ 6 := fun d hd => ex_86 hW.1.1 hd
  have sa : SA P t := by
    intro s0 d hd h83 h89 e5 e1 e127
    obtain ⟨m1, m2⟩ := sv2_meant (t := t) h6 hd h83 (by omega)
    rw [su_w a7] at e5
    rw [su_v a8] at e1 e127 ⊢
    have n8 : s_ P 208 t ≠ 0 := fun q => c7 q e5
    obtain ⟨w1, w2, -⟩ := c8 n8
    have s2 : s_ P 208 t = 2 := fdW_5 (by rw [← w1]; exact e5)
    have o1 := c10 s2
    have eN : tNum P t = 0 := by unfold tNum; rw [if_pos (Or.inr s2), h3, g6]
    rw [eN] at m2
    obtain ⟨y1, y2, y3, -⟩ := hW.1.2.2.1 d hd
    have d1 : s_ P 83 d = 1 := by
      rcases Nat.lt_or_ge (s_ P 83 d) 2 with q | q
      · omega
      · have := y3 q; omega
    have ed : d = s_ P 200 t := hW.1.2.2.2.1 d (s_ P 200 t) hd a1 d1 o1
    refine ⟨?_, ?_⟩
    · rw [w2, s2, ed]; rfl
    · unfold sv2
      rw [sv1_pr]
      have ek : tKind P t = 13 := by unfold tKind; rw [if_pos s0]
      refine carry_m1 (fun d hd => by rw [prT_s (by omega)]; exact h6 d hd) hd (by rw [prT_s (by omega)]; exact d1) ?_
      rw [nk_prT, prT_141, ek]; decide
  have hn : tNum P t < 2048 := by rcases tn_lt (P := P) (t := t) with q | q <;> omega
  refine ⟨⟨h1, h3, h2, a1, ti, a7, g6, c1, c2, ?_, a6, fun t' q1 q2 q3 q4 => ?_, fun d q => ?_, fun d k hd hk => ?_⟩, ⟨ti, a7, a6, h1, hn, sa⟩, sa⟩
  · by_cases q : s_ P 208 t = 1 ∨ s_ P 208 t = 2
    · rw [if_pos q, if_pos (c3.mp q)]
    · rw [if_neg q, if_neg (fun c => q (c3.mpr c))]
  · have : t < t' := by
      rcases Nat.lt_or_ge t' t with q | q
      · exact absurd ⟨q1, q4, q3⟩ (hf t' q)
      · omega
    exact (iU t t' ⟨h1, h2, h3⟩ ⟨q1, q4, q3⟩).2 this
  · by_cases hd : d < 6
    · have := ((iD d hd).2.2.2.2.2.2.2.1 (by omega)).1
      rw [q, show t + 1 - 1 = t by omega] at this
      exact this h2
    · rw [g10 d (by omega)] at q; omega
  · exact ((iD d hd).2.2.2.2.2.2.1 k hk).1
/-- the parts of a transaction on a pipe -/
theorem inv_pt (hI : INV P) (hW : WX P) (ht : wtg P t) (hd : d < 6) (hk : k < s_ P 164 d) (ei : s_ P 213 t = pid P d k) (ho : s_ P 184 (pid P d k) ≠ 0) : PT P t d k ∧ XT P t := by
  obtain ⟨iG, iT, iW, iU, iF, iN, iR, iQ, iD, iI⟩ := id hI
  obtain ⟨h1, h2⟩ := ht
  obtain ⟨a1, a2, a3, a4, a5, a6, a7, a8, a9, a10, a11, a12⟩ := iT t h1
  obtain ⟨g1, g2, g3, g4, g5, g6, g7, g8, g9, g10⟩ := id iG
  obtain ⟨e1, e2, e3, e4, e5, e6, e7, e8, e9⟩ := iD d hd
  have pr := e7 k hk
  have n0 : s_ P 213 t ≠ 0 := by rw [ei]; exact pr.1
  obtain ⟨b1, -, b2⟩ := iW t ⟨h1, h2⟩
  obtain ⟨c1, c2, k', c3, c4, c5, c6⟩ := b2 n0
  obtain ⟨q1, q2⟩ := iI d k (s_ P 200 t) k' hd a1 hk c3 (by rw [← ei, c4])
  have ti : TI P t := ⟨a2, g9 _, b1, a4, a5⟩
  have hn : tNum P t < 2048 := by rcases tn_lt (P := P) (t := t) with q | q <;> omega
  have sa : SA P t := fun s0 => by omega
  have ep := e9.1 k (by omega)
  have e180 := pr.2.2.1
  refine ⟨⟨h1, h2, q1.symm, hd, hk, ei, pr.1, ti, a7, c1, c2, by rw [← ei]; exact c5, by rw [← ei]; exact c6, e5 (by omega), by omega, by omega, ho, a6, fun d' q => ?_, fun d' k'' hd' hk' q => iI d' k'' d k hd' hd hk' hk q⟩, ⟨ti, a7, a6, h1, hn, sa⟩⟩
  by_cases hd' : d' < 6
  · have := ((iD d' hd').2.2.2.2.2.2.2.1 (by omega)).1
    rw [q, show t + 1 - 1 = t by omega] at this
    exact this h2
  · rw [g10 d' (by omega)] at q; omega
end HS_
