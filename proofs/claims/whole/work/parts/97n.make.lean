/-! What always holds of the host: a peer's numbers change; a transfer is made; a pipe is made. -/
section HU
variable {P P' Q X : pP} {d k t : Nat}
/-- a peer's number changes, and no control transfer of it waits -/
theorem inv_pS {f v : Nat} (hI : INV P) (hd : d < 6) (hf : f = 160 ∨ f = 161 ∨ f = 162 ∨ f = 165) (hn : ∀ t', wtc P t' → s_ P 200 t' ≠ d) (hD : DD (pS P f d v) d) : INV (pS P f d v) := by
  obtain ⟨iG, iT, iW, iU, iF, iN, iR, iQ, iD, iI⟩ := hI
  have e : ∀ f' j, ¬ (f' = f ∧ j = d) → s_ (pS P f d v) f' j = s_ P f' j := fun f' j n => by rw [s_S, if_neg n]
  have en : ∀ f' j, f' ≠ f → s_ (pS P f d v) f' j = s_ P f' j := fun f' j n => s_n n
  have eb : ∀ c j, b_ (pS P f d v) c j = b_ P c j := fun _ _ => rfl
  have ec : ∀ d', p_conf (pS P f d v) d' = p_conf P d' := fun d' => conf_cg (en 86 d' (by omega)) (fun f' k h1 h2 _ => en f' _ (by omega))
  have enf : ∀ d', nfl (pS P f d v) d' = nfl P d' := fun d' => nfl_cg (en 63 _ (by omega)) (en 64 _ (by omega)) (en 80 _ (by omega))
  refine ⟨?_, fun t ht => ?_, fun t hw => ?_, fun t t' hw hw' => ?_, ?_, ?_, ?_, ?_, fun d' hd' => ?_, ?_⟩
  · obtain ⟨g1, g2, g3, g4, g5, g6, g7, g8, g9, g10⟩ := iG
    unfold IG
    rw [en 0 0 (by omega), en 125 0 (by omega), en 127 0 (by omega), en 128 0 (by omega), en 180 0 (by omega), en 184 0 (by omega), en 130 0 (by omega)]
    refine ⟨g1, g2, g3, g4, g5, g6, g7, g8, fun i => by rw [en 185 i (by omega)]; exact g9 i, fun d' hd' => by rw [e 165 d' (by omega)]; exact g10 d' hd'⟩
  · rw [en 122 0 (by omega)] at ht
    have E : TT (pS P f d v) t = TT P t := by unfold TT; simp (disch := omega) only [en, eb]
    rw [E]; exact iT t ht
  · unfold wtg at hw
    rw [en 122 0 (by omega), en 211 t (by omega)] at hw
    obtain ⟨b1, b2, b3⟩ := iW t hw
    rw [en 212 t (by omega), en 213 t (by omega)]
    refine ⟨b1, fun z => ?_, fun z => ?_⟩
    · have nd := hn t ⟨hw.1, hw.2, z⟩
      have wc := b2 z
      refine wc_mk wc (fun f' k1 k2 => en f' t (by omega)) rfl (fun f' hf' => e f' _ (by omega)) (fun q => by rw [en 209 t (by omega)]; exact wc.2.2.2.2.1 q) (fun q => ?_) (fun q => mn_cg (wc.2.2.2.2.2.2.2.2.1 q) (fun f' hf' => en f' _ (by omega))) (fun q => by rw [en 83 _ (by omega)]; exact wc.2.2.2.2.2.2.2.2.2.1 q) (fun q => ?_)
      · rw [en 209 t (by omega)] at q
        rw [en 210 t (by omega)]; exact wc.2.2.2.2.2.1 q
      · have kp := wc.2.2.2.2.2.2.2.2.2.2.1 q
        refine ⟨pfx_cg kp.1 (en 210 t (by omega)) rfl (en 200 t (by omega)) (ec _), ?_⟩
        have := kp.2
        unfold KD at *
        rw [en 209 t (by omega), en 200 t (by omega), en 60 _ (by omega), en 61 _ (by omega), en 64 _ (by omega), en 185 0 (by omega), en 210 t (by omega), eb, ec, enf]
        exact this
    · have E : WP (pS P f d v) t = WP P t := by unfold WP pid; simp (disch := omega) only [en]
      rw [E]; exact b3 z
  · unfold wtc at hw hw'
    rw [en 122 0 (by omega), en 211 _ (by omega), en 213 _ (by omega)] at hw hw'
    rw [en 200 t (by omega), en 200 t' (by omega), en 208 t (by omega), en 209 t' (by omega)]
    exact iU t t' hw hw'
  · have E : IFr (pS P f d v) = IFr P := by unfold IFr; simp (disch := omega) only [en]
    rw [E]; exact iF
  · rw [en 123 0 (by omega), en 122 0 (by omega), iN]
    exact cnt_cg _ (fun t' _ => by rw [en 211 t' (by omega)])
  · obtain ⟨r, r1, r2, r3⟩ := iR
    refine ⟨r, r1, fun t' hw n => ?_, by rw [en 122 0 (by omega)]; exact r3⟩
    unfold wtc at hw
    rw [en 122 0 (by omega), en 211 _ (by omega), en 213 _ (by omega)] at hw
    rw [en 208 t' (by omega)] at n
    rw [en 200 t' (by omega), en 208 t' (by omega)]
    exact r2 t' hw n
  · rw [en 130 0 (by omega), en 123 0 (by omega), en 122 0 (by omega)]; exact iQ
  · by_cases q : d' = d
    · rw [q]; exact hD
    · have E2 : ∀ k, PR (pS P f d v) d' k = PR P d' k := fun k => by unfold PR pid; simp (disch := omega) only [en]
      have E3 : CFG (pS P f d v) d' = CFG P d' := by unfold CFG; rw [ec d', e 165 d' (by omega)]; simp (disch := omega) only [en, eb]
      have E4 : EPs (pS P f d v) d' = EPs P d' := by unfold EPs; simp (disch := omega) only [en]
      have E : DD (pS P f d v) d' = DD P d' := by
        unfold DD wtg
        rw [E3, E4, e 83 d' (by omega), e 160 d' (by omega), e 161 d' (by omega), e 162 d' (by omega), e 164 d' (by omega), e 165 d' (by omega), e 86 d' (by omega)]
        simp (disch := omega) only [E2, en]
      rw [E]; exact iD d' hd'
  · have E : II (pS P f d v) = II P := by unfold II pid; simp (disch := omega) only [en]
    rw [E]; exact iI
/-- a transfer is made -/
theorem inv_new (hI : INV P) (hs : ∀ f j, f ≠ 122 → f ≠ 123 → ¬ (200 ≤ f ∧ f ≤ 213 ∧ j = s_ P 122 0) → s_ X f j = s_ P f j) (hb : ∀ c j, ¬ (c = 36 ∧ j = s_ P 122 0) → b_ X c j = b_ P c j) (h122 : s_ X 122 0 = s_ P 122 0 + 1) (h123 : s_ X 123 0 = s_ P 123 0 + 1) (h211 : s_ X 211 (s_ P 122 0) = 0) (hT : TT X (s_ P 122 0)) (h212 : s_ X 212 (s_ P 122 0) < 3) (hC : s_ X 213 (s_ P 122 0) = 0 → WC X (s_ P 122 0)) (hP : s_ X 213 (s_ P 122 0) ≠ 0 → WP X (s_ P 122 0)) (hu : s_ X 213 (s_ P 122 0) = 0 → s_ X 209 (s_ P 122 0) = 0 ∧ ∀ t', wtc P t' → s_ P 200 t' = s_ X 200 (s_ P 122 0) → s_ P 208 t' = 0 ∧ s_ X 208 (s_ P 122 0) = 0) (h83 : s_ P 83 (s_ X 200 (s_ P 122 0)) ≠ 0) (hR : ∃ r : Nat → Nat, (∀ d, r d ≤ 5) ∧ (∀ t, wtc P t → s_ P 208 t ≠ 0 → 6 ≤ s_ P 208 t + r (s_ P 200 t)) ∧ (s_ X 213 (s_ P 122 0) = 0 → s_ X 208 (s_ P 122 0) ≠ 0 → 6 ≤ s_ X 208 (s_ P 122 0) + r (s_ X 200 (s_ P 122 0))) ∧ s_ P 122 0 + 1 + (r 0 + r 1 + r 2 + r 3 + r 4 + r 5) ≤ 330) (hx : ∀ d, s_ P 165 d ≤ s_ P 122 0 ∨ s_ P 165 d = 0) : INV X := by
  obtain ⟨iG, iT, iW, iU, iF, iN, iR, iQ, iD, iI⟩ := hI
  generalize hTT : s_ P 122 0 = T at *
  have en : ∀ f j, f ≠ 122 → f ≠ 123 → ¬ (200 ≤ f ∧ f ≤ 213) → s_ X f j = s_ P f j := fun f j n1 n2 n3 => hs f j n1 n2 (by omega)
  have et : ∀ f j, f ≠ 122 → f ≠ 123 → j ≠ T → s_ X f j = s_ P f j := fun f j n1 n2 n3 => hs f j n1 n2 (by omega)
  have eb : ∀ c j, j ≠ T → b_ X c j = b_ P c j := fun c j n => hb c j (by omega)
  have ec : ∀ d', p_conf X d' = p_conf P d' := fun d' => conf_cg (en 86 d' (by decide) (by decide) (by decide)) (fun f' k h1 h2 _ => en f' _ (by omega) (by omega) (by omega))
  have enf : ∀ d', nfl X d' = nfl P d' := fun d' => nfl_cg (en 63 _ (by decide) (by decide) (by decide)) (en 64 _ (by decide) (by decide) (by decide)) (en 80 _ (by decide) (by decide) (by decide))
  have b29 : ∀ d', b_ X 29 d' = b_ P 29 d' := fun d' => hb 29 d' (by omega)
  have wg : ∀ t, wtg X t → t ≠ T → wtg P t := fun t hw n => by
    unfold wtg at *
    rw [h122, et 211 t (by decide) (by decide) n] at hw
    rw [hTT]
    exact ⟨by omega, hw.2⟩
  have wc' : ∀ t, wtc X t → t ≠ T → wtc P t := fun t hw n => by
    unfold wtc at *
    rw [h122, et 211 t (by decide) (by decide) n, et 213 t (by decide) (by decide) n] at hw
    rw [hTT]
    exact ⟨by omega, hw.2.1, hw.2.2⟩
  refine ⟨?_, fun t ht => ?_, fun t hw => ?_, fun t t' hw hw' => ?_, ⟨fun i => ?_, fun i t k1 k2 k3 => ?_⟩, ?_, ?_, ?_, fun d' hd' => ?_, ?_⟩
  · obtain ⟨g1, g2, g3, g4, g5, g6, g7, g8, g9, g10⟩ := iG
    unfold IG
    rw [en 0 0 (by decide) (by decide) (by decide), en 125 0 (by decide) (by decide) (by decide), en 127 0 (by decide) (by decide) (by decide), en 128 0 (by decide) (by decide) (by decide), en 180 0 (by decide) (by decide) (by decide), en 184 0 (by decide) (by decide) (by decide), en 130 0 (by decide) (by decide) (by decide)]
    exact ⟨g1, g2, g3, g4, g5, g6, g7, g8, fun i => by rw [en 185 i (by decide) (by decide) (by decide)]; exact g9 i, fun d' hd' => by rw [en 165 d' (by decide) (by decide) (by decide)]; exact g10 d' hd'⟩
  · by_cases q : t = T
    · rw [q]; exact hT
    · have := iT t (by rw [h122] at ht; omega)
      unfold TT at *
      rw [eb 36 t q, en 130 0 (by decide) (by decide) (by decide)]
      simp (disch := omega) only [et]
      exact this
  · by_cases q : t = T
    · rw [q]; exact ⟨h212, hC, hP⟩
    · obtain ⟨b1, b2, b3⟩ := iW t (wg t hw q)
      rw [et 212 t (by decide) (by decide) q, et 213 t (by decide) (by decide) q]
      refine ⟨b1, fun z => ?_, fun z => ?_⟩
      · have wc := b2 z
        refine wc_mk wc (fun f' k1 k2 => et f' t (by omega) (by omega) q) (by rw [eb 36 t q]) (fun f' hf' => en f' _ (by omega) (by omega) (by omega)) (fun c => by rw [et 209 t (by decide) (by decide) q]; exact wc.2.2.2.2.1 c) (fun c => ?_) (fun c => mn_cg (wc.2.2.2.2.2.2.2.2.1 c) (fun f' hf' => en f' _ (by omega) (by omega) (by omega))) (fun c => by rw [en 83 _ (by decide) (by decide) (by decide)]; exact wc.2.2.2.2.2.2.2.2.2.1 c) (fun c => ?_)
        · rw [et 209 t (by decide) (by decide) q] at c
          rw [et 210 t (by decide) (by decide) q]; exact wc.2.2.2.2.2.1 c
        · have kp := wc.2.2.2.2.2.2.2.2.2.2.1 c
          refine ⟨pfx_cg kp.1 (et 210 t (by decide) (by decide) q) (eb 36 t q) (et 200 t (by decide) (by decide) q) (ec _), ?_⟩
          have := kp.2
          unfold KD at *
          rw [et 209 t (by decide) (by decide) q, et 200 t (by decide) (by decide) q, en 60 _ (by decide) (by decide) (by decide), en 61 _ (by decide) (by decide) (by decide), en 64 _ (by decide) (by decide) (by decide), en 185 0 (by decide) (by decide) (by decide), et 210 t (by decide) (by decide) q, b29, ec, enf]
          exact this
      · have := b3 z
        unfold WP pid at *
        rw [et 208 t (by decide) (by decide) q, et 209 t (by decide) (by decide) q, et 200 t (by decide) (by decide) q, et 213 t (by decide) (by decide) q, et 203 t (by decide) (by decide) q, et 202 t (by decide) (by decide) q, en 164 _ (by decide) (by decide) (by decide), en 180 _ (by decide) (by decide) (by decide), en 182 _ (by decide) (by decide) (by decide)]
        simp (disch := decide) only [en]
        exact this
  · by_cases q : t = T
    · by_cases q' : t' = T
      · exact ⟨fun _ _ => by omega, fun c => by omega⟩
      · have w := wc' t' hw' q'
        have z : s_ X 213 T = 0 := by rw [← q]; exact hw.2.2
        obtain ⟨u1, u2⟩ := hu z
        rw [q, et 200 t' (by decide) (by decide) q']
        refine ⟨fun c1 c2 => absurd (u2 t' w c1.symm).2 c2, fun c => ?_⟩
        have := w.1
        omega
    · have w := wc' t hw q
      by_cases q' : t' = T
      · have z : s_ X 213 T = 0 := by rw [← q']; exact hw'.2.2
        obtain ⟨u1, u2⟩ := hu z
        rw [q', et 200 t (by decide) (by decide) q, et 208 t (by decide) (by decide) q]
        exact ⟨fun c1 c2 => absurd (u2 t w c1).1 c2, fun _ => u1⟩
      · rw [et 200 t (by decide) (by decide) q, et 208 t (by decide) (by decide) q, et 200 t' (by decide) (by decide) q', et 209 t' (by decide) (by decide) q']
        exact iU t t' w (wc' t' hw' q')
  · rw [en 187 i (by decide) (by decide) (by decide), h122]
    have := iF.1 i
    omega
  · rw [en 187 i (by decide) (by decide) (by decide)] at k1
    have := iF.1 i
    have q : t ≠ T := by omega
    rw [et 213 t (by decide) (by decide) q] at k3
    rw [et 211 t (by decide) (by decide) q]
    exact iF.2 i t k1 (by omega) k3
  · rw [h122, h123, iN]
    show _ = cntN (s_ X 211) T + if s_ X 211 T = 0 then 1 else 0
    rw [if_pos h211]
    congr 1
    exact (cnt_cg _ (fun t' ht' => by rw [et 211 t' (by decide) (by decide) (by omega)])).symm
  · obtain ⟨r, r1, r2, r3, r4⟩ := hR
    refine ⟨r, r1, fun t' hw n => ?_, by rw [h122]; exact r4⟩
    by_cases q : t' = T
    · rw [q] at n ⊢
      exact r3 (by rw [← q]; exact hw.2.2) n
    · rw [et 208 t' (by decide) (by decide) q] at n
      rw [et 200 t' (by decide) (by decide) q, et 208 t' (by decide) (by decide) q]
      exact r2 t' (wc' t' hw q) n
  · rw [en 130 0 (by decide) (by decide) (by decide), h122, h123]; omega
  · obtain ⟨e1, e2, e3, e4, e5, e6, e7, e8, e9⟩ := iD d' hd'
    unfold DD
    rw [en 83 d' (by decide) (by decide) (by decide), en 160 d' (by decide) (by decide) (by decide), en 161 d' (by decide) (by decide) (by decide), en 162 d' (by decide) (by decide) (by decide), en 164 d' (by decide) (by decide) (by decide), en 165 d' (by decide) (by decide) (by decide), en 86 d' (by decide) (by decide) (by decide)]
    refine ⟨fun z => ?_, e2, e3, e4, e5, e6, fun k hk => ?_, fun z => ?_, ?_⟩
    · obtain ⟨z1, z2, z3, z4⟩ := e1 z
      refine ⟨z1, z2, z3, fun t' hw => ?_⟩
      by_cases q : t' = T
      · rw [q]; intro c; rw [c] at h83; exact h83 z
      · rw [et 200 t' (by decide) (by decide) q]; exact z4 t' (wg t' hw q)
    · have := e7 k hk
      unfold PR pid at *
      simp (disch := decide) only [en]
      exact this
    · have cf := e8 z
      have q : s_ P 165 d' - 1 ≠ T := by have := hx d'; omega
      unfold CFG at *
      rw [en 165 d' (by decide) (by decide) (by decide), et 211 _ (by decide) (by decide) q, et 203 _ (by decide) (by decide) q, et 210 _ (by decide) (by decide) q, eb 36 _ q, ec]
      exact cf
    · unfold EPs at *
      simp (disch := decide) only [en]
      exact e9
  · unfold II pid at *
    simp (disch := decide) only [en]
    exact iI
/-- a pipe is made -/
theorem inv_mkP {a bk sz iv : Nat} (hI : INV P) (hd : d < 6) (h6' : ∀ d, d < 6 → s_ P 86 d ≤ 6) (hm : s_ P 164 d < s_ P 86 d) (h83 : s_ P 83 d ≠ 0) (h160 : s_ P 160 d ≠ 1) (h161 : s_ P 161 d ≠ 0) (hq : s_ P 130 0 + 1 + 6 * s_ P 123 0 ≤ 1 + 6 * s_ P 122 0) (ea : a = s_ P 100 (6 * d + s_ P 164 d)) (eb : bk = if s_ P 102 (6 * d + s_ P 164 d) = 0 then 1 else 0) (es : sz = s_ P 101 (6 * d + s_ P 164 d)) (ei : iv = s_ P 102 (6 * d + s_ P 164 d)) : INV (p_mkP P d a bk sz iv) := by
  obtain ⟨iG, iT, iW, iU, iF, iN, iR, iQ, iD, iI⟩ := hI
  obtain ⟨g1, g2, g3, g4, g5, g6, g7, g8, g9, g10⟩ := id iG
  have h6 := h6' d hd
  have e : ∀ f j, ¬ (180 ≤ f ∧ f ≤ 187 ∧ j = s_ P 130 0) → ¬ (f = 166 ∧ j = 10 * d + s_ P 164 d) → ¬ (f = 164 ∧ j = d) → f ≠ 130 → s_ (p_mkP P d a bk sz iv) f j = s_ P f j := fun f j n1 n2 n3 n4 => by
    unfold p_mkP p_mkPf
    rw [s_n n4, s_S, if_neg n3, s_S, if_neg n2, s_S, if_neg (by omega), s_S, if_neg (by omega), s_S, if_neg (by omega), s_S, if_neg (by omega), s_S, if_neg (by omega), s_S, if_neg (by omega), s_S, if_neg (by omega), s_S, if_neg (by omega)]
  have e130 : s_ (p_mkP P d a bk sz iv) 130 0 = s_ P 130 0 + 1 := by unfold p_mkP; simp only [s_S, s_B, s_F, b_S, b_B, b_F, f_S, f_B, Nat.reduceEqDiff, false_and, and_false, true_and, and_true, and_self, if_true, if_false, reduceIte, ite_self]
  have e164 : s_ (p_mkP P d a bk sz iv) 164 d = s_ P 164 d + 1 := by unfold p_mkP; simp only [s_S, s_B, s_F, b_S, b_B, b_F, f_S, f_B, Nat.reduceEqDiff, false_and, and_false, true_and, and_true, and_self, if_true, if_false, reduceIte, ite_self]
  have e166 : s_ (p_mkP P d a bk sz iv) 166 (10 * d + s_ P 164 d) = s_ P 130 0 := by unfold p_mkP; simp only [s_S, s_B, s_F, b_S, b_B, b_F, f_S, f_B, Nat.reduceEqDiff, false_and, and_false, true_and, and_true, and_self, if_true, if_false, reduceIte, ite_self]
  have e180 : s_ (p_mkP P d a bk sz iv) 180 (s_ P 130 0) = a ∧ s_ (p_mkP P d a bk sz iv) 181 (s_ P 130 0) = bk ∧ s_ (p_mkP P d a bk sz iv) 182 (s_ P 130 0) = sz ∧ s_ (p_mkP P d a bk sz iv) 183 (s_ P 130 0) = iv ∧ s_ (p_mkP P d a bk sz iv) 185 (s_ P 130 0) = 0 ∧ s_ (p_mkP P d a bk sz iv) 187 (s_ P 130 0) = 0 := by unfold p_mkP p_mkPf; simp only [s_S, s_B, s_F, b_S, b_B, b_F, f_S, f_B, Nat.reduceEqDiff, false_and, and_false, true_and, and_true, and_self, if_true, if_false, reduceIte, ite_self]
  generalize hX : p_mkP P d a bk sz iv = X at *
  have xb : ∀ c j, b_ X c j = b_ P c j := fun c j => by rw [← hX]; rfl
  have en : ∀ f j, ¬ (180 ≤ f ∧ f ≤ 187) → f ≠ 166 → f ≠ 164 → f ≠ 130 → s_ X f j = s_ P f j := fun f j n1 n2 n3 n4 => e f j (by omega) (by omega) (by omega) n4
  have ec : ∀ d', p_conf X d' = p_conf P d' := fun d' => conf_cg (en 86 d' (by decide) (by decide) (by decide) (by decide)) (fun f' k h1 h2 _ => en f' _ (by omega) (by omega) (by omega) (by omega))
  have enf : ∀ d', nfl X d' = nfl P d' := fun d' => nfl_cg (en 63 _ (by decide) (by decide) (by decide) (by decide)) (en 64 _ (by decide) (by decide) (by decide) (by decide)) (en 80 _ (by decide) (by decide) (by decide) (by decide))
  have p0 : ∀ f, 180 ≤ f → f ≤ 187 → ∀ i, i ≠ s_ P 130 0 → s_ X f i = s_ P f i := fun f k1 k2 i hi => e f i (by omega) (by omega) (by omega) (by omega)
  have xp : ∀ d' k, d' < 6 → k < 6 → ¬ (d' = d ∧ k = s_ P 164 d) → pid X d' k = pid P d' k := fun d' k k1 k2 n => e 166 _ (by omega) (by omega) (by omega) (by omega)
  have x164 : ∀ d', d' ≠ d → s_ X 164 d' = s_ P 164 d' := fun d' n => e 164 d' (by omega) (by omega) (by omega) (by omega)
  have b164 : ∀ d', d' < 6 → s_ P 164 d' ≤ s_ P 86 d' := fun d' h => (iD d' h).2.2.2.2.2.1
  have wg : ∀ t, wtg X t ↔ wtg P t := fun t => by unfold wtg; rw [en 122 0 (by decide) (by decide) (by decide) (by decide), en 211 t (by decide) (by decide) (by decide) (by decide)]
  have wc' : ∀ t, wtc X t ↔ wtc P t := fun t => by unfold wtc; rw [en 122 0 (by decide) (by decide) (by decide) (by decide), en 211 t (by decide) (by decide) (by decide) (by decide), en 213 t (by decide) (by decide) (by decide) (by decide)]
  have u : ∀ f j, ¬ (160 ≤ f ∧ f < 200) → f ≠ 130 → s_ X f j = s_ P f j := fun f j n1 n2 => en f j (by omega) (by omega) (by omega) n2
  refine ⟨?_, fun t ht => ?_, fun t hw => ?_, fun t t' hw hw' => ?_, ⟨fun i => ?_, fun i t k1 k2 k3 => ?_⟩, ?_, ?_, ?_, fun d' hd' => ?_, ?_⟩
  · unfold IG
    rw [u 0 0 (by decide) (by decide), u 125 0 (by decide) (by decide), u 127 0 (by decide) (by decide), u 128 0 (by decide) (by decide), p0 180 (by decide) (by decide) 0 (by omega), p0 184 (by decide) (by decide) 0 (by omega), e130]
    refine ⟨g1, g2, g3, g4, g5, g6, g7, by omega, fun i => ?_, fun d' hd' => by rw [en 165 d' (by decide) (by decide) (by decide) (by decide)]; exact g10 d' hd'⟩
    by_cases q : i = s_ P 130 0
    · rw [q, e180.2.2.2.2.1]; decide
    · rw [p0 185 (by decide) (by decide) i q]; exact g9 i
  · rw [u 122 0 (by decide) (by decide)] at ht
    obtain ⟨a1, a2, a3, a4, a5, a6, a7, a8, a9, a10, a11, a12⟩ := iT t ht
    unfold TT
    rw [xb, e130, u 200 t (by decide) (by decide), u 210 t (by decide) (by decide), u 212 t (by decide) (by decide), u 209 t (by decide) (by decide), u 202 t (by decide) (by decide), u 205 t (by decide) (by decide), u 206 t (by decide) (by decide), u 207 t (by decide) (by decide), u 213 t (by decide) (by decide), u 208 t (by decide) (by decide), u 211 t (by decide) (by decide)]
    exact ⟨a1, a2, a3, a4, a5, a6, a7, a8, a9, by omega, a11, a12⟩
  · have hw := (wg t).mp hw
    obtain ⟨b1, b2, b3⟩ := iW t hw
    obtain ⟨a1, a2, a3, a4, a5, a6, a7, a8, a9, a10, a11, a12⟩ := iT t hw.1
    rw [u 212 t (by decide) (by decide), u 213 t (by decide) (by decide)]
    refine ⟨b1, fun z => ?_, fun z => ?_⟩
    · have wc := b2 z
      refine wc_mk wc (fun f' k1 k2 => u f' t (by omega) (by omega)) (by rw [xb]) (fun f' hf' => en f' _ (by omega) (by omega) (by omega) (by omega)) (fun c => by rw [u 209 t (by decide) (by decide)]; exact wc.2.2.2.2.1 c) (fun c => ?_) (fun c => mn_cg (wc.2.2.2.2.2.2.2.2.1 c) (fun f' hf' => u f' _ (by omega) (by omega))) (fun c => by rw [u 83 _ (by decide) (by decide)]; exact wc.2.2.2.2.2.2.2.2.2.1 c) (fun c => ?_)
      · rw [u 209 t (by decide) (by decide)] at c
        rw [u 210 t (by decide) (by decide)]; exact wc.2.2.2.2.2.1 c
      · have kp := wc.2.2.2.2.2.2.2.2.2.2.1 c
        refine ⟨pfx_cg kp.1 (u 210 t (by decide) (by decide)) (xb 36 t) (u 200 t (by decide) (by decide)) (ec _), ?_⟩
        have := kp.2
        unfold KD at *
        rw [u 209 t (by decide) (by decide), u 200 t (by decide) (by decide), u 60 _ (by decide) (by decide), u 61 _ (by decide) (by decide), u 64 _ (by decide) (by decide), p0 185 (by decide) (by decide) 0 (by omega), u 210 t (by decide) (by decide), xb, ec, enf]
        exact this
    · obtain ⟨w1, w2, k, w3, w4, w5, w6⟩ := b3 z
      have k6 : k < 6 := by
        have := b164 _ a1
        have := h6' _ a1
        omega
      refine ⟨by rw [u 208 t (by decide) (by decide)]; exact w1, by rw [u 209 t (by decide) (by decide)]; exact w2, k, ?_, ?_, ?_, ?_⟩
      · rw [u 200 t (by decide) (by decide)]
        by_cases q : s_ P 200 t = d
        · rw [q, e164]; rw [q] at w3; omega
        · rw [x164 _ q]; exact w3
      · rw [u 213 t (by decide) (by decide), u 200 t (by decide) (by decide), xp _ k a1 k6 (by rintro ⟨c1, c2⟩; rw [c1] at w3; omega)]; exact w4
      · rw [u 203 t (by decide) (by decide), u 213 t (by decide) (by decide), p0 180 (by decide) (by decide) _ (by omega)]; exact w5
      · rw [u 202 t (by decide) (by decide), u 213 t (by decide) (by decide), p0 182 (by decide) (by decide) _ (by omega)]; exact w6
  · rw [u 200 t (by decide) (by decide), u 200 t' (by decide) (by decide), u 208 t (by decide) (by decide), u 209 t' (by decide) (by decide)]
    exact iU t t' ((wc' t).mp hw) ((wc' t').mp hw')
  · rw [u 122 0 (by decide) (by decide)]
    by_cases q : i = s_ P 130 0
    · rw [q, e180.2.2.2.2.2]; exact Nat.zero_le _
    · rw [p0 187 (by decide) (by decide) i q]; exact iF.1 i
  · rw [u 122 0 (by decide) (by decide)] at k2
    rw [u 213 t (by decide) (by decide)] at k3
    rw [u 211 t (by decide) (by decide)]
    by_cases q : i = s_ P 130 0
    · rw [q, e180.2.2.2.2.2] at k1; omega
    · rw [p0 187 (by decide) (by decide) i q] at k1; exact iF.2 i t k1 k2 k3
  · rw [u 123 0 (by decide) (by decide), u 122 0 (by decide) (by decide), iN]
    exact (cnt_cg _ (fun t' _ => by rw [u 211 t' (by decide) (by decide)])).symm
  · obtain ⟨r, r1, r2, r3⟩ := iR
    refine ⟨r, r1, fun t' hw n => ?_, by rw [u 122 0 (by decide) (by decide)]; exact r3⟩
    rw [u 208 t' (by decide) (by decide)] at n
    rw [u 200 t' (by decide) (by decide), u 208 t' (by decide) (by decide)]
    exact r2 t' ((wc' t').mp hw) n
  · rw [e130, u 123 0 (by decide) (by decide), u 122 0 (by decide) (by decide)]; exact hq
  · obtain ⟨e1, e2, e3, e4, e5, e6, e7, e8, e9⟩ := iD d' hd'
    have E3 : CFG X d' = CFG P d' := by
      unfold CFG
      rw [ec d', en 165 d' (by decide) (by decide) (by decide) (by decide), xb]
      simp (disch := decide) only [u]
    have E4 : EPs X d' = EPs P d' := by
      unfold EPs
      simp (disch := decide) only [u]
    have pr : ∀ k, k < s_ P 164 d' → k < 6 → PR X d' k := by
      intro k hk k6
      have := e7 k hk
      unfold PR
      rw [xp d' k hd' k6 (by rintro ⟨c1, c2⟩; rw [c1] at hk; omega), e130, p0 180 (by decide) (by decide) _ (by have := this.2.1; omega), p0 181 (by decide) (by decide) _ (by have := this.2.1; omega), p0 182 (by decide) (by decide) _ (by have := this.2.1; omega), p0 183 (by decide) (by decide) _ (by have := this.2.1; omega), u 100 _ (by decide) (by decide), u 101 _ (by decide) (by decide), u 102 _ (by decide) (by decide)]
      exact ⟨this.1, by have := this.2.1; omega, this.2.2.1, this.2.2.2.1, this.2.2.2.2.1, this.2.2.2.2.2⟩
    unfold DD
    rw [E3, E4, u 83 d' (by decide) (by decide), en 160 d' (by decide) (by decide) (by decide) (by decide), en 161 d' (by decide) (by decide) (by decide) (by decide), en 162 d' (by decide) (by decide) (by decide) (by decide), en 165 d' (by decide) (by decide) (by decide) (by decide), u 86 d' (by decide) (by decide)]
    by_cases q : d' = d
    · subst q
      rw [e164]
      refine ⟨fun z => absurd z h83, e2, fun z => absurd z h160, e4, fun _ => h161, by omega, fun k hk => ?_, e8, e9⟩
      by_cases c : k = s_ P 164 d'
      · subst c
        unfold PR pid
        rw [e166, e130, e180.1, e180.2.1, e180.2.2.1, e180.2.2.2.1, u 100 _ (by decide) (by decide), u 101 _ (by decide) (by decide), u 102 _ (by decide) (by decide)]
        exact ⟨by omega, by omega, ea, eb, es, ei⟩
      · exact pr k (by omega) (by omega)
    · rw [x164 d' q]
      refine ⟨fun z => ?_, e2, e3, e4, e5, e6, fun k hk => pr k hk ?_, e8, e9⟩
      · obtain ⟨z1, z2, z3, z4⟩ := e1 z
        exact ⟨z1, z2, z3, fun t hw => by rw [u 200 t (by decide) (by decide)]; exact z4 t ((wg t).mp hw)⟩
      · have := h6' d' hd'; omega
  · intro d1 k1 d2 k2 hd1 hd2 hk1 hk2 hp
    have lk : ∀ dd kk, dd < 6 → kk < s_ X 164 dd → kk < 6 := fun dd kk h1 h2 => by
      have b := h6' dd h1
      by_cases q : dd = d
      · rw [q, e164] at h2; omega
      · rw [x164 dd q] at h2; have := b164 dd h1; omega
    have nw : ∀ dd kk, dd < 6 → kk < s_ X 164 dd → ¬ (dd = d ∧ kk = s_ P 164 d) → kk < s_ P 164 dd ∧ pid X dd kk = pid P dd kk := fun dd kk h1 h2 h3 => by
      refine ⟨?_, xp dd kk h1 (lk dd kk h1 h2) h3⟩
      by_cases q : dd = d
      · rw [q, e164] at h2
        by_cases c : kk = s_ P 164 d
        · exact absurd ⟨q, c⟩ h3
        · rw [q]; omega
      · rw [x164 dd q] at h2; exact h2
    by_cases q1 : d1 = d ∧ k1 = s_ P 164 d
    · by_cases q2 : d2 = d ∧ k2 = s_ P 164 d
      · exact ⟨by omega, by omega⟩
      · obtain ⟨n1, n2⟩ := nw d2 k2 hd2 hk2 q2
        have := ((iD d2 hd2).2.2.2.2.2.2.1 k2 n1).2.1
        rw [n2, q1.1, q1.2] at hp
        unfold pid at hp this
        rw [e166] at hp
        omega
    · obtain ⟨n1, n2⟩ := nw d1 k1 hd1 hk1 q1
      by_cases q2 : d2 = d ∧ k2 = s_ P 164 d
      · have := ((iD d1 hd1).2.2.2.2.2.2.1 k1 n1).2.1
        rw [n2, q2.1, q2.2] at hp
        unfold pid at hp this
        rw [e166] at hp
        omega
      · obtain ⟨n3, n4⟩ := nw d2 k2 hd2 hk2 q2
        rw [n2, n4] at hp
        exact iI d1 k1 d2 k2 hd1 hd2 n1 n3 hp
end HU
