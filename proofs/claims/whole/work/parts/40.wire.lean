/-! Counts, faults; Wire: hasDefault, faultOf, planFault, dropFault, blank -/
section WA
variable {g : pG} {P P' : pP} {M M' : sm_M} {D : Nat}
/-- a count is written -/
theorem rc_wG {c i k n : Nat} {v : Int32} (h : RC g P M) (hl : g.2.1 c i = true) (hfi : fi c k = true) (hn : n < 2 ^ 31) (hv : v = enc c k n) (hcc : rf_c g (pS P (20 * c + k) i n) M) (hdd : iv_d g (pS P (20 * c + k) i n) M) : RC g (pS P (20 * c + k) i n) (sm_putI M (g.1 c i) k v) := by
  subst hv
  obtain ⟨⟨ha, hb, hc⟩, i1, i2, i3, i4, i5, i6, i7, i8⟩ := h
  have hc12 := fi_c hfi
  have st : ∀ {c i}, i < stn c → g.2.1 c i = true := fun hi => ha.2.2.1 _ _ hi
  have neC : ∀ {c' i'}, g.2.1 c' i' = true → 12 ≤ c' → g.1 c' i' ≠ g.1 c i := fun hl' h12 => rf_ne ha hl' hl (fun q => by omega)
  have k20 : ∀ c, c < 12 → ∀ k, fi c k = true → k < 20 := by
    intro c hc k hk
    match c, hc with
    | 0, _ | 1, _ | 2, _ | 3, _ | 4, _ | 5, _ | 6, _ | 7, _ | 8, _ | 9, _ | 10, _ | 11, _ => simp [fi] at hk <;> omega
  have n227 : s_ (pS P (20 * c + k) i n) 227 0 = s_ P 227 0 := by
    rw [s_S, if_neg]
    rintro ⟨q, -⟩
    have := k20 c hc12 k hfi
    have h3 : c = 11 := by omega
    have h4 : k = 7 := by omega
    subst h3; subst h4
    exact absurd hfi (by decide)
  have neK : ∀ {c' i' k'}, g.2.1 c' i' = true → fi c' k' = false → ¬ (g.1 c' i' = g.1 c i ∧ k' = k) := by
    rintro c' i' k' hl' hf' ⟨q1, rfl⟩
    by_cases hcc : c' = c
    · subst hcc; rw [hfi] at hf'; cases hf'
    · exact rf_ne ha hl' hl (fun q => hcc q.1) q1
  refine ⟨⟨ha, hb, hcc⟩, ?_, ?_, ?_, ?_, ?_, ?_, ?_, bn_S i8 hn⟩
  · intro c' i' k' hl' hf' h7'
    by_cases hh : g.1 c' i' = g.1 c i ∧ k' = k
    · obtain ⟨q1, rfl⟩ := hh
      by_cases hq : c' = c ∧ i' = i
      · obtain ⟨rfl, rfl⟩ := hq
        rw [I_put_s, s_S, if_pos ⟨rfl, rfl⟩]
        exact ⟨rfl, hn⟩
      · exact absurd q1 (rf_ne ha hl' hl hq)
    · rw [I_ne hh, s_S, if_neg]
      · exact i1 c' i' k' hl' hf' h7'
      · rintro ⟨q, rfl⟩
        have h12 := fi_c hf'
        have a1 := k20 c' h12 k' hf'
        have a2 := k20 c hc12 k hfi
        have h3 : c' = c := by omega
        subst h3
        exact hh ⟨rfl, by omega⟩
  · exact iv_b_ne i2 (fun j hj => neK (st (c := 7) hj) (by decide)) (fun j hj => neC (st (c := 27) hj) (by decide))
  · refine iv_c_ne i3 (fun j hj => ?_) (fun j hj => neC (hc.1 j hj).2 (by decide))
    refine rf_ne ha hj hl ?_
    rintro ⟨rfl, -⟩
    simp [fi] at hfi
  · exact iv_d_ne hdd (neC (st (c := 20) (by decide)) (by decide)) (fun d hd => ⟨neC (st (c := 28) hd) (by decide), neC (st (c := 29) hd) (by decide)⟩) (fun t ht => neC (hcc.2.2.2.1.2 t ht).2.1 (by decide))
  · have := iv_e_ne (a := g.1 c i) (k := k) (x := enc c k n) i5 (neK (st (c := 11) (by decide)) (by decide)) (neC (st (c := 30) (by decide)) (by decide)) (neC (st (c := 31) (by decide)) (by decide)) (neC (st (c := 32) (by decide)) (by decide))
    unfold iv_e at this ⊢
    rw [n227]
    exact this
  · exact iv_f_ne i6 (neK (st (c := 2) (by decide)) (by decide)) (neC (st (c := 24) (by decide)) (by decide))
  · exact tbl_ne i7 (by rw [rf_K ha hl]; have : ∀ c, c < 12 → kd c ≠ 1 := by decide
                        exact this c hc12)
/-- Device.count -/
theorem rc_w86 {d n : Nat} {v : Int32} (h : RC g P M) (hd : d < 6) (hn : n ≤ 6) (hk : ∀ k, k < n → g.2.1 5 (6 * d + k) = true) (hv : v = nI n) : RC g (pS P 86 d n) (sm_putI M (g.1 4 d) 6 v) := by
  obtain ⟨c1, c2, c3, c4, c5, c6⟩ := h.1.2.2
  refine rc_wG (c := 4) (k := 6) h (rc_st h (c := 4) hd) rfl (by omega) hv ⟨c1, fun d' hd' => ?_, c3, ?_, ?_, ?_⟩ ?_
  · rw [s_S]
    obtain ⟨e1, e2, e3⟩ := c2 d' hd'
    by_cases q : 86 = 20 * 4 + 6 ∧ d' = d
    · rw [if_pos q]
      obtain ⟨-, rfl⟩ := q
      exact ⟨hn, hk, e3⟩
    · rw [if_neg q]
      exact ⟨e1, e2, e3⟩
  · simp only [s_S, Nat.reduceEqDiff]; exact c4
  · simp only [s_S, Nat.reduceEqDiff]; exact c5
  · simp only [s_S, Nat.reduceEqDiff]; exact c6
  · have := h.2.2.2.2.1
    unfold iv_d at this ⊢
    simp only [s_S, b_S, Nat.reduceEqDiff]; exact this
/-- faults -/
abbrev tF : Nat → Nat → Nat → Prop := fun c i k => (c = 11 ∧ i = 0 ∧ k = 7) ∨ ((c = 30 ∨ c = 31 ∨ c = 32) ∧ i = 0)
theorem rc_fault (h : RC g P M) (hC : sm_Ch (tT g tF) M M') (hs : ∀ f i, f ≠ 227 → s_ P' f i = s_ P f i) (hb : ∀ c i, b_ P' c i = b_ P c i) (hn : ∀ i, s_ P' 227 i < 2 ^ 31) (he : iv_e g P' M') : RC g P' M' := by
  obtain ⟨⟨ha, hb0, hc⟩, i1, i2, i3, i4, i5, i6, i7, i8⟩ := h
  have hc0 := hC
  obtain ⟨c1, c2, c3, c4, c5, c6, c7⟩ := hC
  have st : ∀ {c i}, i < stn c → g.2.1 c i = true := fun hi => ha.2.2.1 _ _ hi
  have cI : ∀ {c i k}, g.2.1 c i = true → ¬ tF c i k → sm_I M' (g.1 c i) k = sm_I M (g.1 c i) k := fun hl hn => c7 _ _ (tT_ne ha hl hn)
  have cA : ∀ {c i : Nat} {l : List Nat}, g.2.1 c i = true → (∀ k, ¬ tF c i k) → arr M (g.1 c i) l → arr M' (g.1 c i) l := fun hl hT hA => arr_ch hA hc0 (fun k => tT_ne ha hl (hT k))
  refine ⟨⟨?_, ?_, ?_⟩, ?_, ?_, ?_, ?_, he, ?_, ?_, ?_⟩
  · unfold rf_a; rw [c1, c2, c5, c6]; exact ha
  · unfold rf_b; rw [c3]; exact hb0
  · unfold rf_c; rw [c3]
    simp only [hs 86 _ (by decide), hs 122 _ (by decide), hs 213 _ (by decide), hs 164 _ (by decide), hs 166 _ (by decide), hs 165 _ (by decide)]
    exact hc
  · intro c i k hl hfi h7
    have hnT : ¬ tF c i k := by
      rintro (⟨rfl, rfl, rfl⟩ | ⟨q, -⟩)
      · exact absurd hfi (by decide)
      · have := fi_c hfi; omega
    rw [cI hl hnT, hs]
    · exact i1 c i k hl hfi h7
    · intro q
      have : ∀ c, c < 12 → ∀ k, fi c k = true → 20 * c + k ≠ 227 := by
        intro c hc k hk
        match c, hc with
        | 0, _ | 1, _ | 2, _ | 3, _ | 4, _ | 5, _ | 6, _ | 7, _ | 8, _ | 9, _ | 10, _ | 11, _ => simp [fi] at hk <;> omega
      exact this c (fi_c hfi) k hfi q
  · intro j hj
    obtain ⟨e1, e2, e3⟩ := i2 j hj
    rw [hb, cI (st (c := 7) hj) (by omega)]
    exact ⟨e1, e2, cA (st (c := 27) hj) (fun k => by omega) e3⟩
  · intro j hj
    rw [hb]
    have hl21 := (hc.1 j hj).2
    obtain ⟨h1, h2, h3, h4, h5, h6, h7, f, h8, h9, h10⟩ := i3 j hj
    refine ⟨by rw [c1]; exact h1, by rw [c3]; exact h2, by rw [c1]; exact h3, by rw [c2]; exact h4, h5, h6, by rw [cI hj (by omega)]; exact h7, f, h8, by rw [cI hj (by omega)]; exact h9, fun i hi => by rw [cI hl21 (by omega)]; exact h10 i hi⟩
  · obtain ⟨e1, e2, e3, e4⟩ := i4
    unfold iv_d
    rw [hs 122 _ (by decide), c2]
    simp only [hb]
    exact ⟨e1, cA (st (c := 20) (by decide)) (fun k => by omega) e2, fun d hd => ⟨(e3 d hd).1, cA (st (c := 28) hd) (fun k => by omega) (e3 d hd).2.1, (e3 d hd).2.2.1, cA (st (c := 29) hd) (fun k => by omega) (e3 d hd).2.2.2⟩, fun t ht => ⟨(e4 t ht).1, (e4 t ht).2.1, cA (hc.2.2.2.1.2 t ht).2.1 (fun k => by omega) (e4 t ht).2.2⟩⟩
  · unfold iv_f co_L at i6 ⊢
    rw [hb, cI (st (c := 2) (by decide)) (by omega)]
    exact ⟨i6.1, i6.2.1, fun i hi => by rw [cI (st (c := 24) (by decide)) (by omega)]; exact i6.2.2 i hi⟩
  · intro k hk
    obtain ⟨t, e1, e2, e3, e4⟩ := i7 k hk
    refine ⟨t, by rw [c4]; exact e1, by rw [c1, c5]; exact e2, by rw [c2]; exact e3, fun j hj => ?_⟩
    rw [c7 t j]
    · exact e4 j hj
    · rintro ⟨c, i, -, h2, h3⟩
      exact rf_ne1 ha h2 e2.1 h3
  · intro f i
    by_cases q : f = 227
    · subst q; exact hn i
    · rw [hs f i q]; exact i8 f i
theorem rc_e (h : RC g P M) : iv_e g P M := h.2.2.2.2.2.1
theorem f_F {p q : Nat} {w : Option (Nat × Nat)} : f_ (pF P p w) q = if q = p then w else f_ P q := rfl
/-- Wire.faultOf -/
theorem c_faultOf {p : Nat} (h : RC g P M) (hp : p < 2 ^ 31) : sm_Run D 139 0 (sm_ent 139 [.inr (some (g.1 11 0)), .inl (nI p)]) [] M (fun v M' => M = M' ∧ ((v = some (.inl (nE 0)) ∧ f_ P p = none) ∨ ∃ i, i < s_ P 227 0 ∧ v = some (.inl (nI i)) ∧ sm_I M (g.1 30 0) i = nI p)) := by
  obtain ⟨e1, e2, e3, e4, e5⟩ := rc_e h
  have l11 := rc_st h (c := 11) (i := 0) (by decide)
  have l30 := rc_st h (c := 30) (i := 0) (by decide)
  have key : ∀ (m i : Nat), i + m = s_ P 227 0 → (∀ k, k < i → sm_I M (g.1 30 0) k ≠ nI p) → sm_Run D 139 2 [some (.inr (some (g.1 11 0))), some (.inl (nI p)), some (.inl (nI i))] [] M (fun v M' => M = M' ∧ ((v = some (.inl (nE 0)) ∧ f_ P p = none) ∨ ∃ i, i < s_ P 227 0 ∧ v = some (.inl (nI i)) ∧ sm_I M (g.1 30 0) i = nI p)) := by
    intro m
    induction m with
    | zero =>
      intro i hi hn
      refine bb_139_2 ⟨rc_K h l11, fun _ => ⟨rfl, Or.inl ⟨rfl, ?_⟩⟩, fun q => ?_⟩
      · cases hf : f_ P p with
        | none => rfl
        | some w =>
          obtain ⟨-, k, hk, hk2⟩ := e5 p w hf
          exact absurd hk2 (hn k (by omega))
      · rw [e1] at q
        exact absurd (nI_le (by omega) (by omega)) q
    | succ m ih =>
      intro i hi hn
      refine bb_139_2 ⟨rc_K h l11, fun q => ?_, fun _ => ⟨_, rd_11_4 h, rc_iA h l30 (by decide), rc_in h l30 (by decide) (show i < 50 by omega) (by decide), fun q => ?_, fun q => ⟨rfl, Or.inr ⟨i, by omega, rfl, ?_⟩⟩⟩⟩
      · rw [e1, nI_leI (by omega) (by omega)] at q; omega
      · rw [nI_clamp (by omega)] at q
        rw [nI_1]
        refine ih (i + 1) (by omega) (fun k hk => ?_)
        rcases Nat.lt_or_ge k i with h1 | h1
        · exact hn k h1
        · obtain rfl : k = i := by omega
          exact q
      · rw [nI_clamp (by omega), Decidable.not_not] at q
        exact q
  exact bb_139_0 (key (s_ P 227 0) 0 (by omega) (fun k hk => absurd hk (Nat.not_lt_zero _)))
/-- Wire.dropFault -/
def p_drop (P : pP) (p : Nat) : pP := pS (pF P p none) 227 0 (s_ P 227 0 - 1)
theorem c_drop {i p : Nat} (h : RC g P M) (hi : i < s_ P 227 0) (hp : p < 2 ^ 31) (hip : sm_I M (g.1 30 0) i = nI p) : sm_Run D 141 0 (sm_ent 141 [.inr (some (g.1 11 0)), .inl (nI i)]) [] M (fun v M' => v = none ∧ RC g (p_drop P p) M') := by
  obtain ⟨e1, e2, e3, e4, e5⟩ := rc_e h
  have l11 := rc_st h (c := 11) (i := 0) (by decide)
  have l30 := rc_st h (c := 30) (i := 0) (by decide)
  have l31 := rc_st h (c := 31) (i := 0) (by decide)
  have l32 := rc_st h (c := 32) (i := 0) (by decide)
  have n1 : g.1 30 0 ≠ g.1 11 0 := rf_ne h.1.1 l30 l11 (by decide)
  have n2 : g.1 31 0 ≠ g.1 11 0 := rf_ne h.1.1 l31 l11 (by decide)
  have n3 : g.1 32 0 ≠ g.1 11 0 := rf_ne h.1.1 l32 l11 (by decide)
  have n4 : g.1 31 0 ≠ g.1 30 0 := rf_ne h.1.1 l31 l30 (by decide)
  have n5 : g.1 32 0 ≠ g.1 30 0 := rf_ne h.1.1 l32 l30 (by decide)
  have n6 : g.1 32 0 ≠ g.1 31 0 := rf_ne h.1.1 l32 l31 (by decide)
  have hm : nI (s_ P 227 0) - 1 = nI (s_ P 227 0 - 1) := by rw [li_1, pk_sub (by omega)]
  have hci : (nI i).toNatClampNeg = i := nI_clamp (by omega)
  have hcn : (nI (s_ P 227 0 - 1)).toNatClampNeg = s_ P 227 0 - 1 := nI_clamp (by omega)
  have in_ : ∀ {c q : Nat} {M : sm_M}, (c = 30 ∨ c = 31 ∨ c = 32) → q < 50 → sm_L M (g.1 c 0) = 50 → sm_in_ M (g.1 c 0) (nI q) := by
    intro c q M _ hq hL
    unfold sm_in_
    rw [nI_toInt (by omega), hL]
    omega
  have L30 : sm_L M (g.1 30 0) = 50 := kL_30 h l30
  have L31 : sm_L M (g.1 31 0) = 50 := kL_31 h l31
  have L32 : sm_L M (g.1 32 0) = 50 := kL_32 h l32
  refine bb_141_0 ⟨rc_K h l11, _, (rd_11_4 h :), rc_iA h l30 (by decide), ?_, rc_wA h l30 (by decide), in_ (Or.inl rfl) (by omega) L30, _, (rd_11_5 h :), rc_iA h l31 (by decide), ?_, rc_wA h l31 (by decide), in_ (Or.inr (Or.inl rfl)) (by omega) L31, ?_⟩
  · rw [I_put_s, e1, hm]; exact in_ (Or.inl rfl) (by omega) L30
  · rw [I_put_a n1.symm, I_put_s, e1, hm]; exact in_ (Or.inr (Or.inl rfl)) (by omega) L31
  rw [I_put_s, I_put_a n1.symm (x := sm_I _ _ _), I_put_s, e1, hm, hci, hcn, I_put_a n1, I_put_a n4 (x := sm_I M (g.1 30 0) _), I_put_a n2]
  refine bb_141_40 ⟨rc_K h l11, _, (rd_11_6 h :), rc_iA h l32 (by decide), ?_, rc_wA h l32 (by decide), in_ (Or.inr (Or.inr rfl)) (by omega) L32, rfl, ?_⟩
  · rw [I_put_a n2.symm, I_put_a n1.symm, I_put_s]; exact in_ (Or.inr (Or.inr rfl)) (by omega) L32
  rw [I_put_a n2.symm (x := sm_I M (g.1 31 0) _), I_put_a n1.symm (x := sm_I M (g.1 30 0) _), I_put_s, hci, hcn, I_put_a n6 (x := sm_I M (g.1 31 0) _), I_put_a n5 (x := sm_I M (g.1 30 0) _), I_put_a n3]
  have x30 : ∀ j, sm_I (sm_putI (sm_putI (sm_putI (sm_putI M (g.1 11 0) 7 (nI (s_ P 227 0 - 1))) (g.1 30 0) i (sm_I M (g.1 30 0) (s_ P 227 0 - 1))) (g.1 31 0) i (sm_I M (g.1 31 0) (s_ P 227 0 - 1))) (g.1 32 0) i (sm_I M (g.1 32 0) (s_ P 227 0 - 1))) (g.1 30 0) j = sm_I M (g.1 30 0) (if j = i then s_ P 227 0 - 1 else j) := by
    intro j
    rw [I_put_a n5.symm, I_put_a n4.symm]
    by_cases q : j = i
    · subst q; rw [I_put_s, if_pos rfl]
    · rw [I_put_k q, I_put_a n1, if_neg q]
  have x31 : ∀ j, sm_I (sm_putI (sm_putI (sm_putI (sm_putI M (g.1 11 0) 7 (nI (s_ P 227 0 - 1))) (g.1 30 0) i (sm_I M (g.1 30 0) (s_ P 227 0 - 1))) (g.1 31 0) i (sm_I M (g.1 31 0) (s_ P 227 0 - 1))) (g.1 32 0) i (sm_I M (g.1 32 0) (s_ P 227 0 - 1))) (g.1 31 0) j = sm_I M (g.1 31 0) (if j = i then s_ P 227 0 - 1 else j) := by
    intro j
    rw [I_put_a n6.symm]
    by_cases q : j = i
    · subst q; rw [I_put_s, if_pos rfl]
    · rw [I_put_k q, I_put_a n4, I_put_a n2, if_neg q]
  have x32 : ∀ j, sm_I (sm_putI (sm_putI (sm_putI (sm_putI M (g.1 11 0) 7 (nI (s_ P 227 0 - 1))) (g.1 30 0) i (sm_I M (g.1 30 0) (s_ P 227 0 - 1))) (g.1 31 0) i (sm_I M (g.1 31 0) (s_ P 227 0 - 1))) (g.1 32 0) i (sm_I M (g.1 32 0) (s_ P 227 0 - 1))) (g.1 32 0) j = sm_I M (g.1 32 0) (if j = i then s_ P 227 0 - 1 else j) := by
    intro j
    by_cases q : j = i
    · subst q; rw [I_put_s, if_pos rfl]
    · rw [I_put_k q, I_put_a n6, I_put_a n5, I_put_a n3, if_neg q]
  have hne : ∀ k, k < s_ P 227 0 → k ≠ i → sm_I M (g.1 30 0) k ≠ nI p := fun k hk hki q => hki (e4 k i hk hi (q.trans hip.symm))
  refine rc_fault h ?_ ?_ (fun _ _ => rfl) ?_ ?_
  · exact ch_tr (ch_tr (ch_tr (ch_tp l11 (Or.inl ⟨rfl, rfl, rfl⟩)) (ch_tp l30 (Or.inr ⟨Or.inl rfl, rfl⟩))) (ch_tp l31 (Or.inr ⟨Or.inr (Or.inl rfl), rfl⟩))) (ch_tp l32 (Or.inr ⟨Or.inr (Or.inr rfl), rfl⟩))
  · intro f j hf
    unfold p_drop
    rw [s_S, if_neg (fun q => hf q.1)]
    rfl
  · intro j
    unfold p_drop
    rw [s_S]
    split
    · omega
    · exact rc_B h _ _
  · unfold iv_e p_drop
    rw [s_Ss]
    refine ⟨by rw [I_put_a n3.symm, I_put_a n2.symm, I_put_a n1.symm, I_put_s], by omega, ?_⟩
    unfold ft
    simp only [x30, x31, x32]
    refine ⟨fun j hj => ?_, fun j k hj hk hjk => ?_, fun q w hq => ?_⟩
    · have hs : (if j = i then s_ P 227 0 - 1 else j) < s_ P 227 0 := by split <;> omega
      have hs2 : (if j = i then s_ P 227 0 - 1 else j) ≠ i := by split <;> omega
      obtain ⟨p', w, x, a1, a2, a3, a4, a5, a6, a7⟩ := e3 _ hs
      refine ⟨p', w, x, a1, a2, a3, a4, a5, a6, ?_⟩
      rw [f_S, f_F, if_neg]
      · exact a7
      · rintro rfl
        exact hne _ hs hs2 a4
    · have := e4 _ _ (by split <;> omega) (by split <;> omega) hjk
      split at this <;> split at this <;> omega
    · rw [f_S, f_F] at hq
      split at hq
      · cases hq
      rename_i hqp
      obtain ⟨q1, k, hk, hk2⟩ := e5 q w hq
      refine ⟨q1, ?_⟩
      have hki : k ≠ i := by
        rintro rfl
        rw [hip, nI_eq hp q1] at hk2
        exact hqp hk2.symm
      by_cases hlast : k = s_ P 227 0 - 1
      · exact ⟨i, by omega, by rw [if_pos rfl, ← hlast]; exact hk2⟩
      · exact ⟨k, by omega, by rw [if_neg hki]; exact hk2⟩
/-- Wire.planFault -/
def p_plan (P : pP) (p w x : Nat) : pP × Nat := if p < s_ P 228 0 ∨ 50 ≤ s_ P 227 0 ∨ f_ P p ≠ none then (P, 0) else (pS (pF P p (some (w, x))) 227 0 (s_ P 227 0 + 1), 1)
theorem c_plan {p w x : Nat} {xx : Int32} (h : RC g P M) (hp : p < 2 ^ 31) (hw : w < 4) (hx : x < 2 ^ 31) (hxx : w ≠ 0 → xx = nI x) : sm_Run (D + 1) 140 0 (sm_ent 140 [.inr (some (g.1 11 0)), .inl (nI p), .inl (nI w), .inl xx]) [] M (fun v M' => v = some (.inl (nI (p_plan P p w x).2)) ∧ RC g (p_plan P p w x).1 M') := by
  obtain ⟨e1, e2, e3, e4, e5⟩ := rc_e h
  have l11 := rc_st h (c := 11) (i := 0) (by decide)
  have l30 := rc_st h (c := 30) (i := 0) (by decide)
  have l31 := rc_st h (c := 31) (i := 0) (by decide)
  have l32 := rc_st h (c := 32) (i := 0) (by decide)
  have n1 : g.1 30 0 ≠ g.1 11 0 := rf_ne h.1.1 l30 l11 (by decide)
  have n2 : g.1 31 0 ≠ g.1 11 0 := rf_ne h.1.1 l31 l11 (by decide)
  have n3 : g.1 32 0 ≠ g.1 11 0 := rf_ne h.1.1 l32 l11 (by decide)
  have n4 : g.1 31 0 ≠ g.1 30 0 := rf_ne h.1.1 l31 l30 (by decide)
  have n5 : g.1 32 0 ≠ g.1 30 0 := rf_ne h.1.1 l32 l30 (by decide)
  have n6 : g.1 32 0 ≠ g.1 31 0 := rf_ne h.1.1 l32 l31 (by decide)
  have b8 := rc_B h 228 0
  have e8 := rI_228 h
  refine bb_140_0 ⟨rc_K h l11, fun q => ?_, fun q => ⟨fun q1 => ?_, fun q1 => ru_mono (c_faultOf h hp) ?_⟩⟩
  · rw [e8, nI_ltI hp b8] at q
    unfold p_plan
    rw [if_pos (Or.inl q)]
    exact ⟨rfl, h⟩
  · rw [e1, li_50, nI_leI (by decide) (by omega)] at q1
    unfold p_plan
    rw [if_pos (Or.inr (Or.inl q1))]
    exact ⟨rfl, h⟩
  rw [e8, nI_ltI hp b8] at q
  rw [e1, li_50, nI_leI (by decide) (by omega)] at q1
  rintro v M1 ⟨rfl, ⟨rfl, hf⟩ | ⟨i, hi, rfl, hip⟩⟩
  · have hcn : (nI (s_ P 227 0)).toNatClampNeg = s_ P 227 0 := nI_clamp (by omega)
    have in30 : sm_in_ M (g.1 30 0) (nI (s_ P 227 0)) := rc_in h l30 (by decide) (show s_ P 227 0 < 50 by omega) (by decide)
    have in31 : sm_in_ M (g.1 31 0) (nI (s_ P 227 0)) := rc_in h l31 (by decide) (show s_ P 227 0 < 50 by omega) (by decide)
    have in32 : sm_in_ M (g.1 32 0) (nI (s_ P 227 0)) := rc_in h l32 (by decide) (show s_ P 227 0 < 50 by omega) (by decide)
    have hp' : p_plan P p w x = (pS (pF P p (some (w, x))) 227 0 (s_ P 227 0 + 1), 1) := by
      unfold p_plan
      rw [if_neg]
      rintro (c | c | c)
      · exact q c
      · exact q1 c
      · exact c hf
    rw [hp']
    refine bb_140_22 ⟨fun _ => ⟨rc_K h l11, _, (rd_11_4 h :), rc_wA h l30 (by decide), by rw [e1]; exact in30, _, (rd_11_5 h :), rc_wA h l31 (by decide), ?_, _, (rd_11_6 h :), rc_wA h l32 (by decide), ?_, ?_⟩, fun q2 => absurd rfl q2⟩
    · rw [I_put_a n1.symm, e1]; exact in31
    · rw [I_put_a n2.symm, I_put_a n1.symm, e1]; exact in32
    rw [I_put_a n3.symm, I_put_a n2.symm (x := nI w), I_put_a n1.symm (x := nI p), e1, hcn, nI_1]
    refine bb_140_68 ⟨rfl, ?_⟩
    refine rc_fault h ?_ ?_ (fun _ _ => rfl) ?_ ?_
    · exact ch_tr (ch_tr (ch_tr (ch_tp l30 (Or.inr ⟨Or.inl rfl, rfl⟩)) (ch_tp l31 (Or.inr ⟨Or.inr (Or.inl rfl), rfl⟩))) (ch_tp l32 (Or.inr ⟨Or.inr (Or.inr rfl), rfl⟩))) (ch_tp l11 (Or.inl ⟨rfl, rfl, rfl⟩))
    · intro f j hf
      rw [s_S, if_neg (fun q => hf q.1)]
      rfl
    · intro j
      rw [s_S]
      split
      · omega
      · exact rc_B h _ _
    · have x30 : ∀ j, sm_I (sm_putI (sm_putI (sm_putI (sm_putI M (g.1 30 0) (s_ P 227 0) (nI p)) (g.1 31 0) (s_ P 227 0) (nI w)) (g.1 32 0) (s_ P 227 0) xx) (g.1 11 0) 7 (nI (s_ P 227 0 + 1))) (g.1 30 0) j = if j = s_ P 227 0 then nI p else sm_I M (g.1 30 0) j := by
        intro j
        rw [I_put_a n1, I_put_a n5.symm, I_put_a n4.symm]
        split
        · rename_i q; rw [q, I_put_s]
        · rename_i q; rw [I_put_k q]
      have x31 : ∀ j, sm_I (sm_putI (sm_putI (sm_putI (sm_putI M (g.1 30 0) (s_ P 227 0) (nI p)) (g.1 31 0) (s_ P 227 0) (nI w)) (g.1 32 0) (s_ P 227 0) xx) (g.1 11 0) 7 (nI (s_ P 227 0 + 1))) (g.1 31 0) j = if j = s_ P 227 0 then nI w else sm_I M (g.1 31 0) j := by
        intro j
        rw [I_put_a n2, I_put_a n6.symm]
        split
        · rename_i q; rw [q, I_put_s]
        · rename_i q; rw [I_put_k q, I_put_a n4]
      have x32 : ∀ j, sm_I (sm_putI (sm_putI (sm_putI (sm_putI M (g.1 30 0) (s_ P 227 0) (nI p)) (g.1 31 0) (s_ P 227 0) (nI w)) (g.1 32 0) (s_ P 227 0) xx) (g.1 11 0) 7 (nI (s_ P 227 0 + 1))) (g.1 32 0) j = if j = s_ P 227 0 then xx else sm_I M (g.1 32 0) j := by
        intro j
        rw [I_put_a n3]
        split
        · rename_i q; rw [q, I_put_s]
        · rename_i q; rw [I_put_k q, I_put_a n6, I_put_a n5]
      have hfresh : ∀ k, k < s_ P 227 0 → sm_I M (g.1 30 0) k ≠ nI p := by
        intro k hk q2
        obtain ⟨p', w', x', a1, a2, a3, a4, a5, a6, a7⟩ := e3 k hk
        rw [a4, nI_eq a1 hp] at q2
        rw [q2, hf] at a7
        cases a7
      unfold iv_e
      rw [s_Ss]
      refine ⟨by rw [I_put_s], by omega, ?_⟩
      unfold ft
      simp only [x30, x31, x32]
      refine ⟨fun j hj => ?_, fun j k hj hk hjk => ?_, fun q2 w2 hq2 => ?_⟩
      · by_cases hjn : j = s_ P 227 0
        · rw [if_pos hjn, if_pos hjn, if_pos hjn]
          exact ⟨p, w, x, hp, hw, hx, rfl, rfl, hxx, by rw [f_S, f_F, if_pos rfl]⟩
        · rw [if_neg hjn, if_neg hjn, if_neg hjn]
          obtain ⟨p', w', x', a1, a2, a3, a4, a5, a6, a7⟩ := e3 j (by omega)
          refine ⟨p', w', x', a1, a2, a3, a4, a5, a6, ?_⟩
          rw [f_S, f_F, if_neg]
          · exact a7
          · rintro rfl
            exact hfresh j (by omega) a4
      · by_cases hjn : j = s_ P 227 0
        · by_cases hkn : k = s_ P 227 0
          · omega
          · rw [if_pos hjn, if_neg hkn] at hjk
            exact absurd hjk.symm (hfresh k (by omega))
        · by_cases hkn : k = s_ P 227 0
          · rw [if_neg hjn, if_pos hkn] at hjk
            exact absurd hjk (hfresh j (by omega))
          · rw [if_neg hjn, if_neg hkn] at hjk
            exact e4 j k (by omega) (by omega) hjk
      · rw [f_S, f_F] at hq2
        by_cases hqp : q2 = p
        · subst hqp
          exact ⟨hp, s_ P 227 0, by omega, by rw [if_pos rfl]⟩
        · rw [if_neg hqp] at hq2
          obtain ⟨a1, k, hk, hk2⟩ := e5 q2 w2 hq2
          exact ⟨a1, k, by omega, by rw [if_neg (by omega)]; exact hk2⟩
  · have hp' : p_plan P p w x = (P, 0) := by
      unfold p_plan
      rw [if_pos]
      refine Or.inr (Or.inr ?_)
      obtain ⟨p', w', x', a1, a2, a3, a4, a5, a6, a7⟩ := e3 i hi
      rw [a4, nI_eq a1 hp] at hip
      rw [← hip, a7]
      exact Option.some_ne_none _
    rw [hp']
    refine bb_140_22 ⟨fun q2 => ?_, fun _ => ⟨rfl, h⟩⟩
    rw [li_m1, nI_E (by omega) (by decide)] at q2
    omega
/-- Wire.hasDefault -/
def p_hasDef (P : pP) : Bool := (List.range 6).any (fun d => s_ P 83 d == 1)
theorem c_hasDef (h : RC g P M) : sm_Run D 138 0 (sm_ent 138 [.inr (some (g.1 11 0))]) [] M (fun v M' => v = some (.inl (bI (p_hasDef P))) ∧ M = M') := by
  have l11 := rc_st h (c := 11) (i := 0) (by decide)
  have l25 := rc_st h (c := 25) (i := 0) (by decide)
  have key : ∀ (m i : Nat), i + m = 6 → (∀ k, k < i → s_ P 83 k ≠ 1) → sm_Run D 138 2 [some (.inr (some (g.1 11 0))), some (.inl (nI i))] [] M (fun v M' => v = some (.inl (bI (p_hasDef P))) ∧ M = M') := by
    intro m
    induction m with
    | zero =>
      intro i hi hn
      obtain rfl : i = 6 := by omega
      have e : p_hasDef P = false := by
        unfold p_hasDef
        rw [List.any_eq_false]
        intro x hx
        simpa using hn x (List.mem_range.mp hx)
      rw [e]
      exact bb_138_2 ⟨fun _ => ⟨rfl, rfl⟩, fun q => absurd (by decide) q⟩
    | succ m ih =>
      intro i hi hn
      have hi6 : i < 6 := by omega
      have l4 := (lq_s h hi6).1
      refine bb_138_2 ?_
      simp (disch := first | assumption | exact rc_B (by assumption) _ _ | omega | decide) only [kK_4 h, kK_11 h, kK_25 h, rd_11_3 h, rd_25_i h, kN_25 h, rI_83 h, li_0, li_1, li_6, nI_add, nI_eq, nI_leI, nI_clamp, eK_16, Decidable.not_not, Option.some.injEq, exists_eq_left', true_and, and_true]
      refine ⟨fun q => by omega, fun _ => ⟨fun q => ?_, fun q => ?_⟩⟩
      · exact ih (i + 1) (by omega) (fun k hk => by
          rcases Nat.lt_or_ge k i with h1 | h1
          · exact hn k h1
          · obtain rfl : k = i := by omega
            exact q)
      · have e : p_hasDef P = true := by
          unfold p_hasDef
          rw [List.any_eq_true]
          exact ⟨i, List.mem_range.mpr hi6, by simpa using q⟩
        rw [e]; rfl
  exact bb_138_0 (key 6 0 rfl (fun k hk => absurd hk (Nat.not_lt_zero _)))
/-- Packet.restart, Wire.blank -/
def p_rst (P : pP) (j s k : Nat) : pP := pS (pB (pS (pS (pS P 140 j s) 141 j k) 142 j 0) 7 j []) 145 j 0
theorem c_restart {j s k : Nat} (h : RC g P M) (hj : j < 66) (hs : s < 2 ^ 31) (hk : k < 2 ^ 31) : sm_Run D 105 0 (sm_ent 105 [.inr (some (g.1 7 j)), .inl (nE s), .inl (nI k)]) [] M (fun v M' => v = none ∧ RC g (p_rst P j s k) M') := by
  have l7 := (lq_p h hj).1
  exact bb_105_0 ⟨rc_K h l7, rfl, rc_w' (rc_pk0 (rc_w' (rc_w' (rc_w' h l7 hs) l7 hk) l7 (show 0 < 2 ^ 31 by decide)) hj) l7 (show 0 < 2 ^ 31 by decide)⟩
def nk (P : pP) : Nat := s_ P 228 0 % 60
theorem c_blank {s k : Nat} (h : RC g P M) (hs : s < 2 ^ 31) (hk : k < 2 ^ 31) : sm_Run (D + 1) 142 0 (sm_ent 142 [.inr (some (g.1 11 0)), .inl (nE s), .inl (nI k)]) [] M (fun v M' => v = some (.inr (some (g.1 7 (nk P)))) ∧ RC g (p_rst P (nk P) s k) M') := by
  have l11 := rc_st h (c := 11) (i := 0) (by decide)
  have l22 := rc_st h (c := 22) (i := 0) (by decide)
  have hn : nk P < 60 := Nat.mod_lt _ (by decide)
  have l7 := (lq_p h (show nk P < 66 by omega)).1
  have hn' : s_ P 228 0 % 60 < 60 := hn
  have l7' : g.2.1 7 (s_ P 228 0 % 60) = true := l7
  refine bb_142_0 ?_
  simp (disch := first | assumption | exact rc_B (by assumption) _ _ | omega | decide) only [kK_7 h, kK_11 h, kK_22 h, rd_11_0 h, rd_22_i h, kN_22 h, rI_228 h, pk_rem, li_60, nI_clamp, eK_25, Option.some.injEq, exists_eq_left', true_and]
  refine ru_mono (c_restart h (show nk P < 66 by omega) hs hk) ?_
  rintro v M1 ⟨rfl, h1⟩
  exact bb_142_19 ⟨rfl, h1⟩
end WA
