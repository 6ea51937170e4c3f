/-! Calls, both sides: detach, the host's part. -/
section JB_
variable {a : Nat} {ra : Nat → Nat} {R R' : Nat → Nat → Int32} {M : sm_M} {D : Nat} {P P' Q X : pP} {d k t i n m e : Nat}
theorem fg_211 : ∀ n t, s_ (p_fg Q d n) 211 t = if t < n ∧ s_ Q 200 t = d ∧ s_ Q 211 t = 0 then 3 else s_ Q 211 t
  | 0, t => by rw [if_neg (by omega)]; rfl
  | n + 1, t => by
    have e0 : s_ (p_fg Q d n) 200 n = s_ Q 200 n := fg_s (by decide) n
    have e1 := fg_211 n n
    rw [if_neg (by omega)] at e1
    unfold p_fg
    rw [e0, e1]
    by_cases c : s_ Q 200 n = d ∧ s_ Q 211 n = 0
    · rw [if_pos c, s_n (by decide), s_S]
      by_cases z : t = n
      · subst z; rw [if_pos ⟨rfl, rfl⟩, if_pos ⟨by omega, c⟩]
      · rw [if_neg (fun q => z q.2), fg_211 n t]
        by_cases y : t < n ∧ s_ Q 200 t = d ∧ s_ Q 211 t = 0
        · rw [if_pos y, if_pos ⟨by omega, y.2⟩]
        · rw [if_neg y, if_neg (fun q => y ⟨by omega, q.2⟩)]
    · rw [if_neg c, fg_211 n t]
      by_cases y : t < n ∧ s_ Q 200 t = d ∧ s_ Q 211 t = 0
      · rw [if_pos y, if_pos ⟨by omega, y.2⟩]
      · rw [if_neg y, if_neg]
        rintro ⟨q1, q2⟩
        by_cases z : t = n
        · subst z; exact c q2
        · exact y ⟨by omega, q2⟩
theorem fg_f : ∀ n, f_ (p_fg Q d n) = f_ Q
  | 0 => rfl
  | n + 1 => by
    unfold p_fg
    split
    · exact fg_f n
    · exact fg_f n
theorem fg_cnt {T : Nat} (h : s_ Q 123 0 = cntN (s_ Q 211) T) : ∀ n, n ≤ T → s_ (p_fg Q d n) 123 0 = cntN (s_ (p_fg Q d n) 211) T
  | 0, _ => h
  | n + 1, hn => by
    have ih := fg_cnt h n (by omega)
    by_cases c : s_ (p_fg Q d n) 200 n = d ∧ s_ (p_fg Q d n) 211 n = 0
    · have e : p_fg Q d (n + 1) = pS (pS (p_fg Q d n) 211 n 3) 123 0 (s_ (p_fg Q d n) 123 0 - 1) := by
        show (if _ then _ else _) = _
        rw [if_pos c]
      have e3 : s_ (p_fg Q d (n + 1)) 123 0 = s_ (p_fg Q d n) 123 0 - 1 := by rw [e, s_S, if_pos ⟨rfl, rfl⟩]
      have e2 : ∀ t, s_ (p_fg Q d (n + 1)) 211 t = if t = n then 3 else s_ (p_fg Q d n) 211 t := fun t => by
        rw [e, s_n (by decide), s_S]
        by_cases z : t = n
        · rw [if_pos ⟨rfl, z⟩, if_pos z]
        · rw [if_neg (fun q => z q.2), if_neg z]
      have := cnt_dn (f := s_ (p_fg Q d n) 211) (f' := s_ (p_fg Q d (n + 1)) 211) (t := n) T (by omega) c.2 (by rw [e2, if_pos rfl]; decide) (fun t' _ hne => by rw [e2, if_neg hne])
      have p := cnt_pos (f := s_ (p_fg Q d n) 211) T (show n < T by omega) c.2
      omega
    · have e : p_fg Q d (n + 1) = p_fg Q d n := by
        show (if _ then _ else _) = _
        rw [if_neg c]
      rw [e]; exact ih
/-- c_detach's premise -/
theorem hW_of (hI : INV P) : ∀ d, d < 6 → ∀ n, n < s_ (p_leave P d) 122 0 → s_ (p_fg (p_prst (p_leave P d) d 0) d n) 200 n = d → s_ (p_fg (p_prst (p_leave P d) d 0) d n) 211 n = 0 → 1 ≤ s_ (p_fg (p_prst (p_leave P d) d 0) d n) 123 0 := by
  intro d hd n hn _ h2
  have l : ∀ f j, f ≠ 83 → f ≠ 84 → s_ (p_leave P d) f j = s_ P f j := fun f j n1 n2 => by unfold p_leave; rw [s_n n2, s_n n1]
  have q : ∀ f j, f ≠ 83 → f ≠ 84 → f < 160 ∨ 165 < f → s_ (p_prst (p_leave P d) d 0) f j = s_ P f j := fun f j n1 n2 n3 => by rw [prst_s (by omega), l f j n1 n2]
  rw [l 122 0 (by decide) (by decide)] at hn
  have c0 : s_ (p_prst (p_leave P d) d 0) 123 0 = cntN (s_ (p_prst (p_leave P d) d 0) 211) (s_ P 122 0) := by
    rw [q 123 0 (by decide) (by decide) (by decide), hI.2.2.2.2.2.1]
    exact (cnt_cg _ (fun t _ => by rw [q 211 t (by decide) (by decide) (by decide)])).symm
  have := fg_cnt (d := d) c0 n (by omega)
  rw [this]
  exact cnt_pos _ hn h2
/-- a device is gone -/
theorem inv_gone (hI : INV P) (h6 : ∀ d, d < 6 → s_ P 86 d ≤ 6) (hd : d < 6) (hs : ∀ f j, f ≠ 123 → f ≠ 211 → ¬ ((f = 83 ∨ f = 84 ∨ f = 160 ∨ f = 161 ∨ f = 162 ∨ f = 164 ∨ f = 165) ∧ j = d) → s_ X f j = s_ P f j) (hb : ∀ c j, b_ X c j = b_ P c j) (h160 : s_ X 160 d = 0) (h162 : s_ X 162 d = 8) (h164 : s_ X 164 d = 0) (h165 : s_ X 165 d = 0) (h211 : ∀ t, s_ X 211 t = if t < s_ P 122 0 ∧ s_ P 200 t = d ∧ s_ P 211 t = 0 then 3 else s_ P 211 t) (h123 : s_ X 123 0 = cntN (s_ X 211) (s_ P 122 0)) : INV X := by
  obtain ⟨iG, iT, iW, iU, iF, iN, iR, iQ, iD, iI⟩ := id hI
  obtain ⟨g1, g2, g3, g4, g5, g6, g7, g8, g9, g10⟩ := id iG
  have e : ∀ f j, 200 ≤ f → f ≤ 213 → f ≠ 211 → s_ X f j = s_ P f j := fun f j k1 k2 k3 => hs f j (by omega) k3 (by omega)
  have x122 : s_ X 122 0 = s_ P 122 0 := hs 122 0 (by decide) (by decide) (by omega)
  have x130 : s_ X 130 0 = s_ P 130 0 := hs 130 0 (by decide) (by decide) (by omega)
  have eD : ∀ f j, j ≠ d → f < 120 ∨ (160 ≤ f ∧ f ≤ 187) → s_ X f j = s_ P f j := fun f j n1 n2 => hs f j (by omega) (by omega) (by omega)
  have eQ : ∀ f j, 166 ≤ f → f ≤ 187 → s_ X f j = s_ P f j := fun f j n1 n2 => hs f j (by omega) (by omega) (by omega)
  have sts : STs P X := fun d' _ => ⟨fun f hf => hs f d' (by omega) (by omega) (by omega), fun f k h1 h2 h3 => hs f _ (by omega) (by omega) (by omega)⟩
  have zs : ∀ e, e ≠ d → ZSa e P X := fun e' ne => ⟨fun f hf => hs f e' (by omega) (by omega) (by omega), hb 29 e'⟩
  have ec : ∀ e, e < 6 → p_conf X e = p_conf P e := fun e' he => conf_st sts he (h6 e' he)
  have wg : ∀ t, wtg X t → wtg P t ∧ s_ P 200 t ≠ d := fun t hw => by
    unfold wtg at hw
    rw [x122, h211] at hw
    obtain ⟨a1, a2⟩ := hw
    split at a2
    · omega
    · rename_i c
      exact ⟨⟨a1, a2⟩, fun z => c ⟨a1, z, a2⟩⟩
  have wc' : ∀ t, wtc X t → wtc P t ∧ s_ P 200 t ≠ d := fun t hw => by
    obtain ⟨a1, a2⟩ := wg t ⟨hw.1, hw.2.1⟩
    exact ⟨⟨a1.1, a1.2, by rw [← e 213 t (by decide) (by decide) (by decide)]; exact hw.2.2⟩, a2⟩
  have n211 : ∀ t, s_ P 211 t ≠ 0 → s_ X 211 t ≠ 0 := fun t c => by
    rw [h211]
    split
    · decide
    · exact c
  have x123 : s_ X 123 0 ≤ s_ P 123 0 := by
    rw [h123, iN]
    have key : ∀ n, cntN (s_ X 211) n ≤ cntN (s_ P 211) n := by
      intro n
      induction n with
      | zero => exact Nat.le_refl _
      | succ n ih =>
        show cntN (s_ X 211) n + _ ≤ cntN (s_ P 211) n + _
        by_cases c : s_ P 211 n = 0
        · rw [if_pos c]; split <;> omega
        · rw [if_neg c, if_neg (n211 n c)]; omega
    exact key _
  refine ⟨?_, fun t ht => ?_, fun t hw => ?_, fun t t' hw hw' => ?_, ⟨fun i => ?_, fun i t k1 k2 k3 => ?_⟩, ?_, ?_, ?_, fun d' hd' => ?_, ?_⟩
  · unfold IG
    rw [hs 0 0 (by decide) (by decide) (by omega), eQ 180 0 (by decide) (by decide), x130, hs 125 0 (by decide) (by decide) (by omega), hs 127 0 (by decide) (by decide) (by omega), hs 128 0 (by decide) (by decide) (by omega), eQ 184 0 (by decide) (by decide)]
    exact ⟨g1, g2, g3, g4, g5, g6, g7, g8, fun i => by rw [eQ 185 i (by decide) (by decide)]; exact g9 i, fun d' hd' => by rw [eD 165 d' (by omega) (by omega)]; exact g10 d' hd'⟩
  · rw [x122] at ht
    obtain ⟨a1, a2, a3, a4, a5, a6, a7, a8, a9, a10, a11, a12⟩ := iT t ht
    unfold TT
    rw [hb 36 t, x130, e 200 t (by decide) (by decide) (by decide), e 210 t (by decide) (by decide) (by decide), e 212 t (by decide) (by decide) (by decide), e 209 t (by decide) (by decide) (by decide), e 202 t (by decide) (by decide) (by decide), e 205 t (by decide) (by decide) (by decide), e 206 t (by decide) (by decide) (by decide), e 207 t (by decide) (by decide) (by decide), e 213 t (by decide) (by decide) (by decide), e 208 t (by decide) (by decide) (by decide)]
    refine ⟨a1, a2, a3, a4, a5, a6, a7, a8, a9, a10, a11, ?_⟩
    rw [h211]
    split
    · decide
    · exact a12
  · obtain ⟨hw', nd⟩ := wg t hw
    obtain ⟨b1, b2, b3⟩ := iW t hw'
    have a1 := (iT t hw'.1).1
    have s11 : s_ X 211 t = s_ P 211 t := by rw [h211, if_neg (fun q => nd q.2.1)]
    have eT : ∀ f, 200 ≤ f → f ≤ 213 → s_ X f t = s_ P f t := fun f k1 k2 => by
      by_cases z : f = 211
      · rw [z]; exact s11
      · exact e f t k1 k2 z
    rw [e 212 t (by decide) (by decide) (by decide), e 213 t (by decide) (by decide) (by decide)]
    refine ⟨b1, fun z => ?_, fun z => ?_⟩
    · have wc := b2 z
      refine wc_mk wc (fun f' k1 k2 => eT f' k1 (by omega)) (by rw [hb]) (fun f' hf' => eD f' _ nd (by omega)) (fun c => by rw [eT 209 (by decide) (by decide)]; exact wc.2.2.2.2.1 c) (fun c => ?_) (fun c => mn_zs (wc.2.2.2.2.2.2.2.2.1 c) (zs _ nd)) (fun c => by rw [(zs _ nd).1 83 (by decide)]; exact wc.2.2.2.2.2.2.2.2.2.1 c) (fun c => ?_)
      · rw [eT 209 (by decide) (by decide)] at c
        rw [eT 210 (by decide) (by decide)]; exact wc.2.2.2.2.2.1 c
      · have kp := wc.2.2.2.2.2.2.2.2.2.2.1 c
        exact ⟨pfx_cg kp.1 (eT 210 (by decide) (by decide)) (hb 36 t) (eT 200 (by decide) (by decide)) (ec _ a1), kd_cg kp.2 (fun z6 => by rw [eT 209 (by decide) (by decide)] at z6; exact z6) (eQ 185 0 (by decide) (by decide)) (eT 210 (by decide) (by decide)) (eT 200 (by decide) (by decide)) (zs _ nd) ((sts _ a1).1 80 (by decide)) (ec _ a1)⟩
    · obtain ⟨c1, c2, k, c3, c4, c5, c6⟩ := b3 z
      unfold WP pid
      rw [eT 208 (by decide) (by decide), eT 209 (by decide) (by decide), eT 200 (by decide) (by decide), eT 213 (by decide) (by decide), eT 203 (by decide) (by decide), eT 202 (by decide) (by decide), eQ 180 _ (by decide) (by decide), eQ 182 _ (by decide) (by decide), eD 164 _ nd (by omega)]
      exact ⟨c1, c2, k, c3, by rw [eQ 166 _ (by decide) (by decide)]; exact c4, c5, c6⟩
  · rw [e 200 t (by decide) (by decide) (by decide), e 200 t' (by decide) (by decide) (by decide), e 208 t (by decide) (by decide) (by decide), e 209 t' (by decide) (by decide) (by decide)]
    exact iU t t' (wc' t hw).1 (wc' t' hw').1
  · rw [x122, eQ 187 i (by decide) (by decide)]; exact iF.1 i
  · rw [x122] at k2
    rw [eQ 187 i (by decide) (by decide)] at k1
    rw [e 213 t (by decide) (by decide) (by decide)] at k3
    exact n211 t (iF.2 i t k1 k2 k3)
  · rw [x122]; exact h123
  · obtain ⟨r, r1, r2, r3⟩ := iR
    refine ⟨r, r1, fun t' hw n => ?_, by rw [x122]; exact r3⟩
    rw [e 208 t' (by decide) (by decide) (by decide)] at n
    rw [e 200 t' (by decide) (by decide) (by decide), e 208 t' (by decide) (by decide) (by decide)]
    exact r2 t' (wc' t' hw).1 n
  · rw [x130, x122]; omega
  · obtain ⟨e1, e2, e3, e4, e5, e6, e7, e8, e9⟩ := iD d' hd'
    have f6 := (sts d' hd').1 86 (by decide)
    have fe := (sts d' hd').2
    have b6 := h6 d' hd'
    have ep : EPs X d' := by
      unfold EPs
      rw [f6]
      refine ⟨fun k hk => ?_, fun k k' hk hk' => ?_⟩
      · rw [fe 100 k (by decide) (by decide) (by omega), fe 101 k (by decide) (by decide) (by omega), fe 102 k (by decide) (by decide) (by omega)]
        exact e9.1 k hk
      · rw [fe 100 k (by decide) (by decide) (by omega), fe 100 k' (by decide) (by decide) (by omega)]
        exact e9.2 k k' hk hk'
    by_cases z : d' = d
    · subst z
      unfold DD
      rw [h160, h162, h164, h165]
      exact ⟨fun _ => ⟨rfl, rfl, rfl, fun t' hw => by rw [e 200 t' (by decide) (by decide) (by decide)]; exact (wg t' hw).2⟩, by decide, fun c => by omega, fun c => by omega, fun c => absurd rfl c, Nat.zero_le _, fun k hk => absurd hk (Nat.not_lt_zero _), fun c => absurd rfl c, ep⟩
    · unfold DD PR CFG pid
      rw [eD 160 d' z (by omega), eD 161 d' z (by omega), eD 162 d' z (by omega), eD 164 d' z (by omega), eD 165 d' z (by omega), f6, ec d' hd', x130, (zs d' z).1 83 (by decide), hb]
      refine ⟨fun z => ?_, e2, e3, e4, e5, e6, fun k hk => ?_, fun z => ?_, ep⟩
      · obtain ⟨z1, z2, z3, z4⟩ := e1 z
        exact ⟨z1, z2, z3, fun t' hw => by rw [e 200 t' (by decide) (by decide) (by decide)]; exact z4 t' (wg t' hw).1⟩
      · rw [eQ 166 _ (by decide) (by decide), eQ 180 _ (by decide) (by decide), eQ 181 _ (by decide) (by decide), eQ 182 _ (by decide) (by decide), eQ 183 _ (by decide) (by decide), fe 100 k (by decide) (by decide) (by omega), fe 101 k (by decide) (by decide) (by omega), fe 102 k (by decide) (by decide) (by omega)]
        exact e7 k hk
      · rw [e 203 _ (by decide) (by decide) (by decide), e 210 _ (by decide) (by decide) (by decide)]
        obtain ⟨y1, y2⟩ := e8 z
        exact ⟨n211 _ y1, y2⟩
  · intro a k b k' ha hb' hk hk' hp
    have na : a ≠ d := fun z => by rw [z, h164] at hk; omega
    have nb : b ≠ d := fun z => by rw [z, h164] at hk'; omega
    rw [eD 164 a na (by omega)] at hk
    rw [eD 164 b nb (by omega)] at hk'
    unfold pid at hp
    rw [eQ 166 _ (by decide) (by decide), eQ 166 _ (by decide) (by decide)] at hp
    exact iI a k b k' ha hb' hk hk' hp
end JB_
