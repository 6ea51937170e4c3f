/-! New objects: the naming grows -/
section NW
variable {g g' : pG} {P P' : pP} {M M' : sm_M} {D : Nat}
/-- g' has all that g has, where it was -/
def gx (g g' : pG) : Prop := ∀ c i, g.2.1 c i = true → g'.2.1 c i = true ∧ g'.1 c i = g.1 c i
theorem gx_rf : gx g g := fun _ _ h => ⟨h, rfl⟩
theorem gx_tr {g1 g2 g3 : pG} (h : gx g1 g2) (k : gx g2 g3) : gx g1 g3 := fun c i hl => ⟨(k c i (h c i hl).1).1, ((k c i (h c i hl).1).2).trans (h c i hl).2⟩
/-- counts that may be written while something is made -/
abbrev tE : Nat → Nat → Prop := fun c k => (c = 6 ∧ (k = 2 ∨ k = 3)) ∨ (c = 4 ∧ k = 6) ∨ (c = 8 ∧ k = 4)
theorem rc_gen (h : RC g P M) (hN : sm_N M' = g'.2.2.1) (hU : sm_U M' = g'.2.2.2) (hle : g.2.2.1 ≤ g'.2.2.1) (hx : gx g g')
    (hK : ∀ b, b < g.2.2.1 → sm_K M' b = sm_K M b ∧ sm_L M' b = sm_L M b) (hS : sm_S M' = sm_S M)
    (hnew : ∀ c i, g'.2.1 c i = true → g.2.1 c i = false → sm_K M' (g'.1 c i) = kd c ∧ c < 37 ∧ g.2.2.1 ≤ g'.1 c i ∧ g'.1 c i < g'.2.2.1 ∧ (0 < ln c → sm_L M' (g'.1 c i) = ln c))
    (hinj : ∀ c i i', g'.2.1 c i = true → g.2.1 c i = false → g'.2.1 c i' = true → g.2.1 c i' = false → i = i')
    (hI : ∀ c i k, g.2.1 c i = true → ¬ tE c k → sm_I M' (g.1 c i) k = sm_I M (g.1 c i) k)
    (hT : ∀ t, sm_K M t = 1 → t < g.2.2.1 → sm_I M' t = sm_I M t)
    (hR : ∀ c i k, g.2.1 c i = true → c ≠ 34 → c ≠ 26 → c ≠ 35 → sm_R M' (g.1 c i) k = sm_R M (g.1 c i) k)
    (hc : rf_c g' P' M')
    (hP : ∀ c i k, g.2.1 c i = true → fi c k = true → ¬ tE c k → s_ P' (20 * c + k) i = s_ P (20 * c + k) i)
    (hE : ∀ c i k, g.2.1 c i = true → fi c k = true → tE c k → sm_I M' (g.1 c i) k = enc c k (s_ P' (20 * c + k) i))
    (hA : ∀ c i k, g'.2.1 c i = true → g.2.1 c i = false → fi c k = true → sm_I M' (g'.1 c i) k = enc c k (s_ P' (20 * c + k) i))
    (hB : ∀ c i, ((c = 1 ∨ c = 7 ∨ c = 20 ∨ c = 24 ∨ c = 28 ∨ c = 29) ∧ g.2.1 c i = true) ∨ (c = 36 ∧ i < s_ P 122 0) → b_ P' c i = b_ P c i)
    (hF : f_ P' = f_ P) (h227 : s_ P' 227 0 = s_ P 227 0) (hbn : bnd P')
    (hr : ∀ j, g'.2.1 1 j = true → g.2.1 1 j = false → by_Q M' (g'.1 1 j) (g'.1 21 j) (if j = 0 then 200 else 256) ((b_ P' 1 j).map nI))
    (h36 : ∀ t, t < s_ P' 122 0 → ¬ t < s_ P 122 0 → sm_L M' (g'.1 36 t) = (b_ P' 36 t).length ∧ (b_ P' 36 t).length ≤ 100 ∧ arr M' (g'.1 36 t) (b_ P' 36 t)) : RC g' P' M' := by
  obtain ⟨⟨ha, hb, hc0⟩, i1, i2, i3, i4, i5, i6, i7, i8⟩ := h
  have lt : ∀ {c i}, g.2.1 c i = true → g.1 c i < g.2.2.1 := fun hl => (ha.2.2.2.1 _ _ hl).2.2
  have st : ∀ {c i}, i < stn c → g.2.1 c i = true := fun hi => ha.2.2.1 _ _ hi
  have nE_ : ∀ {c k : Nat}, c ≠ 6 → c ≠ 4 → c ≠ 8 → ¬ tE c k := by intro c k h1 h2 h3; unfold tE; omega
  have ad : ∀ {c i}, g.2.1 c i = true → g'.1 c i = g.1 c i := fun hl => (hx _ _ hl).2
  have cA : ∀ {c i : Nat} {l : List Nat}, g.2.1 c i = true → c ≠ 6 → c ≠ 4 → c ≠ 8 → arr M (g.1 c i) l → arr M' (g'.1 c i) l := by
    intro c i l hl h1 h2 h3 hA j hj
    rw [ad hl, hI c i j hl (nE_ h1 h2 h3)]
    exact hA j hj
  have dec : ∀ c i, g.2.1 c i = true ∨ g.2.1 c i = false := fun c i => by cases g.2.1 c i <;> simp
  refine ⟨⟨⟨hN, hU, fun c i hi => (hx c i (st hi)).1, fun c i hl => ?_, fun c i i' hl hl' he => ?_, fun c i hl h0 => ?_⟩, ?_, hc⟩, ?_, ?_, ?_, ?_, ?_, ?_, ?_, hbn⟩
  · rcases dec c i with q | q
    · rw [ad q, (hK _ (lt q)).1]
      exact ⟨(ha.2.2.2.1 c i q).1, (ha.2.2.2.1 c i q).2.1, Nat.lt_of_lt_of_le (lt q) hle⟩
    · obtain ⟨a1, a2, a3, a4, a5⟩ := hnew c i hl q
      exact ⟨a1, a2, a4⟩
  · rcases dec c i with q | q
    · rcases dec c i' with q' | q'
      · rw [ad q, ad q'] at he
        exact ha.2.2.2.2.1 c i i' q q' he
      · have := (hnew c i' hl' q').2.2.1
        rw [← he, ad q] at this
        have := lt q
        omega
    · rcases dec c i' with q' | q'
      · have := (hnew c i hl q).2.2.1
        rw [he, ad q'] at this
        have := lt q'
        omega
      · exact hinj c i i' hl q hl' q'
  · rcases dec c i with q | q
    · rw [ad q, (hK _ (lt q)).2]
      exact ha.2.2.2.2.2 c i q h0
    · exact (hnew c i hl q).2.2.2.2 h0
  · have R : ∀ {c i k}, g.2.1 c i = true → c ≠ 34 → c ≠ 26 → c ≠ 35 → sm_R M' (g'.1 c i) k = sm_R M (g.1 c i) k := by
      intro c i k hl h1 h2 h3
      rw [ad hl]; exact hR c i k hl h1 h2 h3
    obtain ⟨⟨b0, b0'⟩, ⟨b1, b2, b3, b4⟩, ⟨b5, b6, b7, b8, b9, b10, b11⟩, ⟨b12, b13⟩, ⟨b14, b15, b16⟩, b17, b18, b19⟩ := hb
    have l0 := st (c := 0) (i := 0) (by decide)
    have l11 := st (c := 11) (i := 0) (by decide)
    have l2 := st (c := 2) (i := 0) (by decide)
    have l6 := st (c := 6) (i := 0) (by decide)
    refine ⟨⟨(hx _ _ b0).1, (hx _ _ b0').1⟩, ⟨?_, ?_, ?_, ?_⟩, ⟨?_, ?_, ?_, ?_, ?_, ?_, ?_⟩, ⟨?_, ?_⟩, ⟨?_, ?_, ?_⟩, fun i hi => ?_, fun j hj => ?_, fun d hd => ⟨?_, ?_, ?_, ?_, ?_, ?_, ?_, ?_⟩⟩
    · rw [R l0 (by decide) (by decide) (by decide), b1, ad (st (c := 20) (by decide))]
    · rw [R l0 (by decide) (by decide) (by decide), b2, ad (st (c := 1) (by decide))]
    · rw [R l0 (by decide) (by decide) (by decide), b3, ad (st (c := 11) (by decide))]
    · rw [R l0 (by decide) (by decide) (by decide), b4, ad (st (c := 6) (by decide))]
    · rw [R l11 (by decide) (by decide) (by decide), b5, ad (st (c := 22) (by decide))]
    · rw [R l11 (by decide) (by decide) (by decide), b6, ad b0]
    · rw [R l11 (by decide) (by decide) (by decide), b7, ad (st (c := 2) (by decide))]
    · rw [R l11 (by decide) (by decide) (by decide), b8, ad (st (c := 25) (by decide))]
    · rw [R l11 (by decide) (by decide) (by decide), b9, ad (st (c := 30) (by decide))]
    · rw [R l11 (by decide) (by decide) (by decide), b10, ad (st (c := 31) (by decide))]
    · rw [R l11 (by decide) (by decide) (by decide), b11, ad (st (c := 32) (by decide))]
    · rw [R l2 (by decide) (by decide) (by decide), b12, ad (st (c := 23) (by decide))]
    · rw [R l2 (by decide) (by decide) (by decide), b13, ad (st (c := 24) (by decide))]
    · rw [R l6 (by decide) (by decide) (by decide), b14, ad (st (c := 33) (by decide))]
    · rw [R l6 (by decide) (by decide) (by decide), b15, ad (st (c := 34) (by decide))]
    · rw [R l6 (by decide) (by decide) (by decide), b16, ad (st (c := 9) (by decide))]
    · rw [R (st (c := 22) (by decide)) (by decide) (by decide) (by decide), b17 i hi, ad (st (c := 7) (Nat.lt_of_lt_of_le hi (by decide)))]
    · by_cases hj6 : j = 66
      · subst hj6
        rw [R b0 (by decide) (by decide) (by decide), b18 66 hj, ad b0']
      · have hj' : j < 66 := by omega
        rw [R (st (c := 7) hj') (by decide) (by decide) (by decide), b18 j hj, ad (st (c := 27) hj')]
    · rw [R (st (c := 25) (by decide)) (by decide) (by decide) (by decide), (b19 d hd).1, ad (st (c := 4) hd)]
    · rw [R (st (c := 4) hd) (by decide) (by decide) (by decide), (b19 d hd).2.1, ad (st (c := 26) hd)]
    · rw [R (st (c := 4) hd) (by decide) (by decide) (by decide), (b19 d hd).2.2.1, ad (st (c := 28) hd)]
    · rw [R (st (c := 4) hd) (by decide) (by decide) (by decide), (b19 d hd).2.2.2.1, ad (st (c := 3) hd)]
    · rw [R (st (c := 4) hd) (by decide) (by decide) (by decide), (b19 d hd).2.2.2.2.1, ad (st (c := 7) (show 60 + d < 66 by omega))]
    · rw [R (st (c := 3) hd) (by decide) (by decide) (by decide), (b19 d hd).2.2.2.2.2.1, ad (st (c := 29) hd)]
    · rw [R (st (c := 33) (by decide)) (by decide) (by decide) (by decide), (b19 d hd).2.2.2.2.2.2.1, ad (st (c := 8) hd)]
    · rw [R (st (c := 8) hd) (by decide) (by decide) (by decide), (b19 d hd).2.2.2.2.2.2.2, ad (st (c := 35) hd)]
  · intro c i k hl hf h7
    refine ⟨?_, hbn _ _⟩
    rcases dec c i with q | q
    · by_cases hq : tE c k
      · rw [ad q]; exact hE c i k q hf hq
      · rw [ad q, hI c i k q hq, hP c i k q hf hq]
        exact (i1 c i k q hf h7).1
    · exact hA c i k hl q hf
  · intro j hj
    obtain ⟨e1, e2, e3⟩ := i2 j hj
    rw [hB 7 j (Or.inl ⟨by decide, st (c := 7) hj⟩), ad (st (c := 7) hj), hI 7 j 4 (st (c := 7) hj) (nE_ (by decide) (by decide) (by decide))]
    exact ⟨e1, e2, cA (st (c := 27) hj) (by decide) (by decide) (by decide) e3⟩
  · intro j hj
    rcases dec 1 j with q | q
    · have l21 := (hc0.1 j q).2
      obtain ⟨h1, h2, h3, h4, h5, h6, h7, f, h8, h9, h10⟩ := i3 j q
      rw [hB 1 j (Or.inl ⟨by decide, q⟩), ad q, ad l21]
      have n1 : ∀ {k}, ¬ tE 1 k := nE_ (by decide) (by decide) (by decide)
      have n21 : ∀ {k}, ¬ tE 21 k := nE_ (by decide) (by decide) (by decide)
      exact ⟨by rw [(hK _ (lt q)).1]; exact h1, by rw [hR 1 j 0 q (by decide) (by decide) (by decide)]; exact h2, by rw [(hK _ (lt l21)).1]; exact h3, by rw [(hK _ (lt l21)).2]; exact h4, h5, h6, by rw [hI 1 j 2 q n1]; exact h7, f, h8, by rw [hI 1 j 1 q n1]; exact h9, fun i hi => by rw [hI 21 j _ l21 n21]; exact h10 i hi⟩
    · exact hr j hj q
  · obtain ⟨e1, e2, e3, e4⟩ := i4
    refine ⟨?_, ?_, fun d hd => ⟨?_, ?_, ?_, ?_⟩, fun t ht => ?_⟩
    · rw [hB 20 0 (Or.inl ⟨by decide, st (by decide)⟩)]; exact e1
    · rw [hB 20 0 (Or.inl ⟨by decide, st (by decide)⟩)]; exact cA (st (c := 20) (by decide)) (by decide) (by decide) (by decide) e2
    · rw [hB 28 d (Or.inl ⟨by decide, st (c := 28) hd⟩)]; exact (e3 d hd).1
    · rw [hB 28 d (Or.inl ⟨by decide, st (c := 28) hd⟩)]; exact cA (st (c := 28) hd) (by decide) (by decide) (by decide) (e3 d hd).2.1
    · rw [hB 29 d (Or.inl ⟨by decide, st (c := 29) hd⟩)]; exact (e3 d hd).2.2.1
    · rw [hB 29 d (Or.inl ⟨by decide, st (c := 29) hd⟩)]; exact cA (st (c := 29) hd) (by decide) (by decide) (by decide) (e3 d hd).2.2.2
    · by_cases q : t < s_ P 122 0
      · have l36 := (hc0.2.2.2.1.2 t q).2.1
        rw [hB 36 t (Or.inr ⟨rfl, q⟩)]
        exact ⟨by rw [ad l36, (hK _ (lt l36)).2]; exact (e4 t q).1, (e4 t q).2.1, cA l36 (by decide) (by decide) (by decide) (e4 t q).2.2⟩
      · exact h36 t ht q
  · have x : ∀ {c i}, c = 30 ∨ c = 31 ∨ c = 32 → i = 0 → ∀ k, sm_I M' (g'.1 c i) k = sm_I M (g.1 c i) k := by
      rintro c i hcc rfl k
      have hl : g.2.1 c 0 = true := by rcases hcc with rfl | rfl | rfl <;> exact st (by decide)
      rw [ad hl, hI c 0 k hl (nE_ (by omega) (by omega) (by omega))]
    unfold iv_e ft at i5 ⊢
    rw [h227, hF, ad (st (c := 11) (i := 0) (by decide)), hI 11 0 7 (st (by decide)) (nE_ (by decide) (by decide) (by decide))]
    simp only [x (Or.inl rfl) rfl, x (Or.inr (Or.inl rfl)) rfl, x (Or.inr (Or.inr rfl)) rfl]
    exact i5
  · have l2 := st (c := 2) (i := 0) (by decide)
    have l24 := st (c := 24) (i := 0) (by decide)
    unfold iv_f co_L at i6 ⊢
    rw [hB 24 0 (Or.inl ⟨by decide, l24⟩), ad l2, ad l24, hI 2 0 3 l2 (nE_ (by decide) (by decide) (by decide))]
    exact ⟨i6.1, i6.2.1, fun i hi => by rw [hI 24 0 i l24 (nE_ (by decide) (by decide) (by decide))]; exact i6.2.2 i hi⟩
  · intro k hk
    obtain ⟨t, e1, ⟨e2, e2'⟩, e3, e4⟩ := i7 k hk
    rw [ha.1] at e2'
    refine ⟨t, by rw [hS]; exact e1, ⟨by rw [(hK t e2').1]; exact e2, by rw [hN]; omega⟩, by rw [(hK t e2').2]; exact e3, fun j hj => ?_⟩
    rw [hT t e2 e2']
    exact e4 j hj
/-- cells that were there stay as they were -/
def old_ (n : Nat) (M M' : sm_M) : Prop := (∀ b, b < n → sm_K M' b = sm_K M b ∧ sm_L M' b = sm_L M b ∧ sm_I M' b = sm_I M b ∧ sm_R M' b = sm_R M b) ∧ sm_S M' = sm_S M
theorem old_rf {n : Nat} : old_ n M M := ⟨fun _ _ => ⟨rfl, rfl, rfl, rfl⟩, rfl⟩
theorem old_tr {n : Nat} {M1 M2 M3 : sm_M} (h : old_ n M1 M2) (k : old_ n M2 M3) : old_ n M1 M3 := by
  refine ⟨fun b hb => ?_, k.2.trans h.2⟩
  obtain ⟨a1, a2, a3, a4⟩ := h.1 b hb
  obtain ⟨b1, b2, b3, b4⟩ := k.1 b hb
  exact ⟨b1.trans a1, b2.trans a2, b3.trans a3, b4.trans a4⟩
theorem old_new {n K L u : Nat} (hn : n ≤ sm_N M) : old_ n M (sm_new M K L u) := by
  refine ⟨fun b hb => ?_, rfl⟩
  have hne : b ≠ sm_N M := by omega
  refine ⟨?_, ?_, ?_, ?_⟩ <;> (show sm_u1 _ _ _ _ = _; unfold sm_u1; rw [if_neg hne]; try rfl)
theorem old_putI {n a k : Nat} {v : Int32} (ha : n ≤ a) : old_ n M (sm_putI M a k v) := by
  refine ⟨fun b hb => ⟨rfl, rfl, ?_, rfl⟩, rfl⟩
  funext j
  exact I_put_a (by omega)
theorem old_putR {n a k : Nat} {v : Option Nat} (ha : n ≤ a) : old_ n M (sm_putR M a k v) := by
  refine ⟨fun b hb => ⟨rfl, rfl, rfl, ?_⟩, rfl⟩
  funext j
  show sm_u2 _ _ _ _ _ _ = _
  unfold sm_u2
  rw [if_neg (by omega)]
/-- more cells that nothing names -/
theorem rc_old {n u : Nat} (h : RC g P M) (ho : old_ g.2.2.1 M M') (hN : sm_N M' = n) (hU : sm_U M' = u) (hle : g.2.2.1 ≤ n) : RC (g.1, g.2.1, n, u) P M' := by
  have lt : ∀ {c i}, g.2.1 c i = true → g.1 c i < g.2.2.1 := fun hl => (h.1.1.2.2.2.1 _ _ hl).2.2
  obtain ⟨c1, c2, c3, c4, c5, c6⟩ := h.1.2.2
  have st : ∀ {c i}, i < stn c → g.2.1 c i = true := fun hi => rc_st h hi
  have R : ∀ {c i k}, g.2.1 c i = true → sm_R M' (g.1 c i) k = sm_R M (g.1 c i) k := fun hl => by rw [(ho.1 _ (lt hl)).2.2.2]
  refine rc_gen (g' := (g.1, g.2.1, n, u)) h hN hU hle (fun c i hl => ⟨hl, rfl⟩) (fun b hb => ⟨(ho.1 b hb).1, (ho.1 b hb).2.1⟩) ho.2 (fun c i h1 h2 => by rw [show g.2.1 c i = true from h1] at h2; cases h2) (fun c i i' h1 h2 => by rw [show g.2.1 c i = true from h1] at h2; cases h2) (fun c i k hl _ => by rw [(ho.1 _ (lt hl)).2.2.1]) (fun t _ ht => (ho.1 t ht).2.2.1) (fun c i k hl _ _ _ => R hl) ?_ (fun _ _ _ _ _ _ => rfl) (fun c i k hl hf hE => ?_) (fun c i k h1 h2 => by rw [show g.2.1 c i = true from h1] at h2; cases h2) (fun _ _ _ => rfl) rfl rfl (rc_B h) (fun j h1 h2 => by rw [show g.2.1 1 j = true from h1] at h2; cases h2) (fun t h1 h2 => absurd h1 h2)
  · refine ⟨fun j hj => ?_, fun d hd => ⟨(c2 d hd).1, (c2 d hd).2.1, fun k hk => ?_⟩, fun e he => ?_, ⟨c4.1, fun t ht => ?_⟩, fun d hd => ⟨(c5 d hd).1, fun k hk => ?_⟩, fun d hd => ⟨(c6 d hd).1, ?_⟩⟩
    · show sm_R M' (g.1 1 j) 0 = _ ∧ _
      rw [R hj]; exact c1 j hj
    · show sm_R M' (g.1 26 d) k = _
      rw [R (st (c := 26) hd)]; exact (c2 d hd).2.2 k hk
    · show sm_R M' (g.1 5 e) 6 = _ ∧ _
      rw [R he]; exact c3 e he
    · obtain ⟨a1, a2, a3, a4, a5, a6⟩ := c4.2 t ht
      refine ⟨a1, a2, a3, ?_, ?_, ?_⟩
      · show sm_R M' (g.1 34 0) t = _; rw [R (st (c := 34) (by decide))]; exact a4
      · show sm_R M' (g.1 10 t) 4 = _; rw [R a1]; exact a5
      · show sm_R M' (g.1 10 t) 1 = _; rw [R a1]; exact a6
    · refine ⟨((c5 d hd).2 k hk).1, ?_⟩
      show sm_R M' (g.1 35 d) k = _
      rw [R (st (c := 35) hd)]; exact ((c5 d hd).2 k hk).2
    · show sm_R M' (g.1 8 d) 5 = _
      rw [R (st (c := 8) hd)]; exact (c6 d hd).2
  · rw [(ho.1 _ (lt hl)).2.2.1]
    exact rc_I h hl hf (fun q => by subst q; unfold tE at hE; omega)
end NW
