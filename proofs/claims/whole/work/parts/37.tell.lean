/-! Device.obey, tell; ControlPoint.begin -/
section TL
variable {g : pG} {P : pP} {M : sm_M} {D : Nat}
def p_rsAll (P : pP) (d : Nat) : Nat → pP
  | 0 => P
  | n + 1 => p_eRs (p_rsAll P d n) (6 * d + n)
theorem s_eRs {e f i : Nat} : s_ (p_eRs P e) f i = if (f = 103 ∨ f = 104 ∨ f = 105) ∧ i = e then 0 else s_ P f i := by
  unfold p_eRs
  rw [s_S, s_S, s_S]
  by_cases h1 : i = e
  · by_cases h2 : f = 103 ∨ f = 104 ∨ f = 105
    · rcases h2 with rfl | rfl | rfl <;> simp [h1]
    · rw [if_neg (by omega), if_neg (by omega), if_neg (by omega), if_neg (by omega)]
  · rw [if_neg (by omega), if_neg (by omega), if_neg (by omega), if_neg (by omega)]
theorem s_rsAll {d f i : Nat} (hf : f ≠ 103 ∧ f ≠ 104 ∧ f ≠ 105) : ∀ n, s_ (p_rsAll P d n) f i = s_ P f i
  | 0 => rfl
  | n + 1 => by
    show s_ (p_eRs (p_rsAll P d n) (6 * d + n)) f i = _
    rw [s_eRs, if_neg (by omega), s_rsAll hf n]
theorem b_rsAll {d c i : Nat} : ∀ n, b_ (p_rsAll P d n) c i = b_ P c i
  | 0 => rfl
  | n + 1 => b_rsAll (d := d) n
/-- Device.obey -/
def p_obey (P : pP) (d w v ix : Nat) : pP × Nat :=
  if w = 9 then (if s_ P 83 d = 1 ∨ 1 < v then (P, 0) else (p_rsAll (pS P 83 d (2 + v)) d (s_ P 86 d), 1))
  else match p_find P d ix with
    | none => (P, 0)
    | some k => if v ≠ 0 ∨ s_ P 83 d ≠ 3 then (P, 0) else if w = 513 then (p_eRs P (6 * d + k), 1) else if w = 515 then (pS P 104 (6 * d + k) 1, 1) else (P, 0)
theorem c_obey_loop {d n : Nat} {x1 x2 x3 : Int32} (hd : d < 6) (hn : s_ P 86 d = n) (h6 : n ≤ 6) : ∀ (m i : Nat) (M : sm_M), i + m = n → RC g (p_rsAll P d i) M →
    sm_Run (D + 1) 76 38 [some (.inr (some (g.1 4 d))), some (.inl x1), some (.inl x2), some (.inl x3), some (.inl (nI i))] [] M (fun v' M' => v' = some (.inl 1) ∧ RC g (p_rsAll P d n) M') := by
  intro m
  induction m with
  | zero =>
    intro i M hi h
    obtain rfl : i = n := by omega
    obtain ⟨l4, -⟩ := lq_s h hd
    have e86 : s_ (p_rsAll P d i) 86 d = i := by rw [s_rsAll (by decide)]; exact hn
    refine bb_76_38 ?_
    simp (disch := first | assumption | exact rc_B (by assumption) _ _ | omega | decide) only [kK_4 h, rd_4_5 h, rI_86 h, e86, li_1, nI_leI, nI_clamp, Option.some.injEq, exists_eq_left', true_and]
    exact ⟨fun _ => h, fun q => absurd (Nat.le_refl _) q⟩
  | succ m ih =>
    intro i M hi h
    obtain ⟨l4, l3, l8, l7, l26, l28, l29, l35, l67⟩ := lq_s h hd
    have e86 : s_ (p_rsAll P d i) 86 d = n := by rw [s_rsAll (by decide)]; exact hn
    have hi6 : i < s_ (p_rsAll P d i) 86 d := by omega
    have l5 := lq_5 h hd hi6
    have r5 := rd_26_i h hd hi6
    refine bb_76_38 ⟨rc_K h l4, fun q => ?_, fun _ => ⟨_, rd_4_5 h hd, ⟨5, rc_K h l26⟩, rc_in h l26 (by decide) (show i < 6 by omega) (by decide), _, by rw [nI_clamp (by omega)]; exact r5, rc_K h l5, ru_mono (c_eRestart h l5) ?_⟩⟩
    · rw [rI_86 h hd, e86, nI_leI (by omega) (by omega)] at q; omega
    rintro v M1 ⟨rfl, h1⟩
    refine bb_76_57 ?_
    rw [nI_1]
    exact ih (i + 1) M1 (by omega) h1
theorem c_obey {d w v ix : Nat} (h : RC g P M) (hd : d < 6) (hw : w < 2 ^ 31) (hv : v < 2 ^ 31) (hix : ix < 2 ^ 31) : sm_Run (D + 1) 76 0 (sm_ent 76 [.inr (some (g.1 4 d)), .inl (nI w), .inl (nI v), .inl (nI ix)]) [] M (fun v' M' => v' = some (.inl (nI (p_obey P d w v ix).2)) ∧ RC g (p_obey P d w v ix).1 M') := by
  obtain ⟨l4, l3, l8, l7, l26, l28, l29, l35, l67⟩ := lq_s h hd
  have h6 := (rc_E h hd).1
  refine bb_76_0 ?_
  simp (disch := first | assumption | exact rc_B (by assumption) _ _ | omega | decide) only [kK_4 h, rI_83 h, li_0, li_1, li_2, li_3, li_9, nI_eq, nI_leI, Decidable.not_not, Option.some.injEq, true_and]
  refine ⟨fun q => ru_mono (c_find h hd hix) ?_, fun q => ⟨fun q1 => ?_, fun q1 => ⟨fun q2 => ⟨fun q3 => ?_, fun q3 => ?_⟩, fun q2 => ?_⟩⟩⟩
  · rintro v' M1 ⟨rfl, rfl⟩
    unfold p_obey
    rw [if_neg q]
    cases hf : p_find P d ix with
    | none =>
      refine bb_76_70 ⟨fun _ => ⟨rfl, h⟩, fun b hb => ?_⟩
      cases hb
    | some k =>
      have l5 := lq_5 h hd (find_lt hf).1
      have ef : Option.map (fun k => g.1 5 (6 * d + k)) (some k) = some (g.1 5 (6 * d + k)) := rfl
      rw [ef]
      dsimp only
      refine bb_76_70 ?_
      simp (disch := first | assumption | exact rc_B (by assumption) _ _ | omega | decide) only [kK_4 h, kK_5 h, rI_83 h, li_0, li_1, li_3, li_513, li_515, nI_eq, Decidable.not_not, Option.some.injEq, forall_eq', reduceCtorEq, false_implies, true_and]
      refine ⟨fun q1 => ?_, fun q1 => ⟨fun q2 => ⟨fun q3 => ⟨fun q4 => ?_, fun q4 => ?_⟩, fun q3 => ?_⟩, fun q2 => ?_⟩⟩
      · rw [if_pos (Or.inl q1)]; exact ⟨rfl, h⟩
      · rw [if_neg (by omega), if_neg q3, if_neg q4]; exact ⟨rfl, h⟩
      · rw [if_neg (by omega), if_neg q3, if_pos q4]; exact ⟨rfl, rc_w' h l5 (show 1 < 2 ^ 31 by decide)⟩
      · rw [if_neg (by omega), if_pos q3]
        refine ru_mono (c_eRestart h l5) ?_
        rintro v' M1 ⟨rfl, h1⟩
        exact bb_76_103 ⟨rfl, h1⟩
      · rw [if_pos (Or.inr q2)]; exact ⟨rfl, h⟩
  · unfold p_obey
    rw [if_pos q, if_pos (Or.inl q1)]; exact ⟨rfl, h⟩
  · unfold p_obey
    rw [if_pos q, if_neg (by omega)]
    obtain rfl : v = 0 := by omega
    exact c_obey_loop (P := pS P 83 d (2 + 0)) hd (by simp only [s_S, Nat.reduceEqDiff, and_true, if_false]) h6 (s_ P 86 d) 0 _ (by omega) (rc_w' h l4 (by decide))
  · unfold p_obey
    rw [if_pos q, if_neg (by omega)]
    obtain rfl : v = 1 := by omega
    exact c_obey_loop (P := pS P 83 d (2 + 1)) hd (by simp only [s_S, Nat.reduceEqDiff, and_true, if_false]) h6 (s_ P 86 d) 0 _ (by omega) (rc_w' h l4 (by decide))
  · unfold p_obey
    rw [if_pos q, if_pos (Or.inr (by omega))]; exact ⟨rfl, h⟩
/-- rows of a ControlPoint -/
theorem rw_29 {d j x : Nat} {jj v : Int32} {l : List Nat} (h : RC g (pB P 29 d l) M) (hd : d < 6) (hjj : jj = nI j) (hv : v = nI x) (hj : j < l.length) : RC g (pB P 29 d (l.set j x)) (sm_putI M (g.1 29 d) jj.toNatClampNeg v) := by
  subst hjj; subst hv
  have ha := ar_29 h hd
  rw [b_Bs] at ha
  rw [nI_clamp (by omega)]
  have := rc_row (c := 29) (i := d) h (Or.inr (Or.inr (Or.inl ⟨rfl, hd, by rw [List.length_set]; exact ha.1⟩))) (ch_put rfl) (ar_set (j := j) (x := x) ha.2)
  rw [pBB] at this
  exact this
theorem rn_29 {d : Nat} (h : RC g P M) (hd : d < 6) : RC g (pB P 29 d []) M := rc_row h (Or.inr (Or.inr (Or.inl ⟨rfl, hd, Nat.zero_le _⟩))) ch_rf (fun j hj => absurd hj (Nat.not_lt_zero _))
/-- a row whose first places are known, written at the next -/
theorem ra_29 {d x : Nat} {jj v : Int32} {l : List Nat} (h : RC g (pB P 29 d l) M) (hd : d < 6) (hjj : jj = nI l.length) (hv : v = nI x) (hj : l.length < 64) : RC g (pB P 29 d (l ++ [x])) (sm_putI M (g.1 29 d) jj.toNatClampNeg v) := by
  subst hjj; subst hv
  have ha := ar_29 h hd
  rw [b_Bs] at ha
  rw [nI_clamp (by omega)]
  have := rc_row (c := 29) (i := d) h (Or.inr (Or.inr (Or.inl ⟨rfl, hd, by rw [List.length_append]; exact hj⟩))) (ch_put rfl) (arr_app (x := x) ha.2)
  rw [pBB] at this
  exact this
/-- a row copied behind the known places -/
theorem rp_29 {d n s : Nat} {l m : List Nat} {f : Nat → Int32} {cp : Nat → Int32} (h : RC g (pB P 29 d l) M) (hd : d < 6) (hc : cp = va_cpy f (sm_I M (g.1 29 d)) s l.length n) (hm : m.length = n) (hf : ∀ j, j < n → f (s + j) = nI (m.getD j 0)) (hl : l.length + n ≤ 64) : RC g (pB P 29 d (l ++ m)) (sm_rowI M (g.1 29 d) cp) := by
  subst hc
  have ha := ar_29 h hd
  rw [b_Bs] at ha
  have := rc_row (c := 29) (i := d) (l := l ++ m) (M' := sm_rowI M (g.1 29 d) (va_cpy f (sm_I M (g.1 29 d)) s l.length n)) h (Or.inr (Or.inr (Or.inl ⟨rfl, hd, by rw [List.length_append, hm]; exact hl⟩))) ch_row ?_
  · rw [pBB] at this
    exact this
  intro j hj
  rw [List.length_append, hm] at hj
  rw [I_row]
  unfold va_cpy
  by_cases hq : j < l.length
  · rw [if_neg (by omega), getD_appL hq]
    exact ha.2 j hq
  · rw [if_pos (by omega), getD_appR (by omega)]
    exact hf _ (by omega)
theorem rc_t (h : RC g P M) {k : Nat} (hk : k < 3) : ∃ t, sm_S M k = some t ∧ sm_K M t = 1 ∧ sm_L M t = (sm_Dk k).length ∧ ∀ j, j < (sm_Dk k).length → sm_I M t j = (sm_Dk k).getD j 0 := by
  obtain ⟨t, e1, e2, e3, e4⟩ := h.2.2.2.2.2.2.2.1 k hk
  exact ⟨t, e1, e2.1, e3, e4⟩
def dl0 : List Nat := [18, 1, 0, 2, 255, 0, 0, 8, 0, 0, 0, 0, 0, 1, 0, 0, 0, 1]
def dl1 : List Nat := [9, 2, 18, 0, 1, 1, 0, 128, 50, 9, 4, 0, 0, 0, 255, 0, 0, 0]
def dl2 : List Nat := [7, 5, 0, 0, 0, 0, 0]
theorem dk_0 : ∀ j, j < 18 → (sm_Dk 0).getD j 0 = nI (dl0.getD j 0) := by decide
theorem dk_1 : ∀ j, j < 18 → (sm_Dk 1).getD j 0 = nI (dl1.getD j 0) := by decide
theorem dk_2 : ∀ j, j < 7 → (sm_Dk 2).getD j 0 = nI (dl2.getD j 0) := by decide
/-- Device.describe -/
def p_desc (P : pP) (d : Nat) : List Nat := [18, 1, 0, 2, 255, 0, 0, s_ P 80 d, s_ P 81 d % 256, s_ P 81 d / 256, s_ P 82 d % 256, s_ P 82 d / 256, 0, 1, 0, 0, 0, 1]
theorem c_describe {d : Nat} (h : RC g P M) (hd : d < 6) : sm_Run (D + 1) 74 0 (sm_ent 74 [.inr (some (g.1 4 d)), .inr (some (g.1 29 d))]) [] M (fun v' M' => v' = some (.inl (nI 18)) ∧ RC g (pB P 29 d (p_desc P d)) M') := by
  obtain ⟨l4, l3, l8, l7, l26, l28, l29, l35, l67⟩ := lq_s h hd
  obtain ⟨t, t1, t2, t3, t4⟩ := rc_t h (k := 0) (by decide)
  have t3' : sm_L M t = 18 := t3
  have L29 : sm_L M (g.1 29 d) = 64 := kL_29 h l29
  have b1 := rc_B h 81 d
  have b2 := rc_B h 82 d
  have h0 := rp_29 (f := sm_I M t) (s := 0) (n := 18) (m := dl0) (cp := va_cpy (sm_I M t) (sm_I M (g.1 29 d)) 0 0 18) (rn_29 h hd) hd rfl rfl (fun j hj => by rw [Nat.zero_add, t4 j hj]; exact dk_0 j hj) (by decide)
  rw [List.nil_append] at h0
  refine bb_74_0 ⟨t, t1, by rw [t2]; decide, _, rfl, Or.inl t2, rc_wA h l29 (by decide), by rw [t3']; decide, by rw [t3', L29]; decide, rc_K h l4, rc_in h l29 (by decide) (show 7 < 64 by decide) (by decide), ?_⟩
  rw [t3', show (0 : Int32).toNatClampNeg = 0 from rfl, show (Int32.ofNat 18).toNatClampNeg = 18 from rfl]
  have e0 : sm_I (sm_rowI M (g.1 29 d) (va_cpy (sm_I M t) (sm_I M (g.1 29 d)) 0 0 18)) (g.1 4 d) 0 = nI (s_ P 80 d) := rI_80 h0 hd
  rw [e0]
  have h1 := rw_29 (j := 7) (jj := 7) (x := s_ P 80 d) h0 hd rfl rfl (by decide)
  refine bb_74_21 ⟨rc_K h1 l4, _, rfl, rc_wA h1 l29 (by decide), rc_in h1 l29 (by decide) (show 8 < 64 by decide) (by decide), rc_in h1 l29 (by decide) (show 9 < 64 by decide) (by decide), rc_in h1 l29 (by decide) (show 10 < 64 by decide) (by decide), ?_⟩
  have e1 := rI_81 h1 hd
  rw [s_B] at e1
  rw [e1, pk_andN (by omega) 8 (by decide)]
  have h2 := rw_29 (j := 8) (jj := 8) (x := s_ P 81 d % 256) h1 hd rfl rfl (show 8 < 18 by decide)
  have e2 := rI_81 h2 hd
  rw [s_B] at e2
  rw [e2, pk_shrN b1 _ 8 (by decide)]
  have h3 := rw_29 (j := 9) (jj := 9) (x := s_ P 81 d / 256) h2 hd rfl rfl (show 9 < 18 by decide)
  have e3 := rI_82 h3 hd
  rw [s_B] at e3
  rw [show nI (s_ P 81 d / 2 ^ 8) = nI (s_ P 81 d / 256) from rfl, show nI (s_ P 81 d % 2 ^ 8) = nI (s_ P 81 d % 256) from rfl, e3, pk_andN (by omega) 8 (by decide)]
  have h4 := rw_29 (j := 10) (jj := 10) (x := s_ P 82 d % 256) h3 hd rfl rfl (show 10 < 18 by decide)
  obtain ⟨t', u1, u2, u3, u4⟩ := rc_t h4 (k := 0) (by decide)
  refine bb_74_56 ⟨rc_K h4 l4, _, rfl, rc_wA h4 l29 (by decide), rc_in h4 l29 (by decide) (show 11 < 64 by decide) (by decide), t', u1, ⟨Nat.le_of_eq u2.symm, by show sm_K _ t' % 3 ≠ 0; rw [show sm_K _ t' = 1 from u2]; decide⟩, ?_, ?_⟩
  · rw [show sm_L _ t' = 18 from u3]; rfl
  · have e4 := rI_82 h4 hd
    rw [s_B] at e4
    rw [show nI (s_ P 82 d % 2 ^ 8) = nI (s_ P 82 d % 256) from rfl, e4, pk_shrN b2 _ 8 (by decide)]
    exact rw_29 (j := 11) (jj := 11) (x := s_ P 82 d / 256) h4 hd rfl rfl (show 11 < 18 by decide)
/-- Device.describeConfiguration -/
def p_row (P : pP) (e : Nat) : List Nat := [7, 5, s_ P 100 e, if s_ P 102 e = 0 then 2 else 3, s_ P 101 e, 0, s_ P 102 e]
def p_rows (P : pP) (d : Nat) : Nat → List Nat
  | 0 => []
  | n + 1 => p_rows P d n ++ p_row P (6 * d + n)
theorem rows_len (P : pP) (d : Nat) : ∀ n, (p_rows P d n).length = 7 * n
  | 0 => rfl
  | n + 1 => by
    show (p_rows P d n ++ p_row P (6 * d + n)).length = _
    rw [List.length_append, rows_len P d n]
    show 7 * n + 7 = _
    omega
def p_head (c : Nat) : List Nat := [9, 2, 18 + 7 * c, 0, 1, 1, 0, 128, 50, 9, 4, 0, 0, c, 255, 0, 0, 0]
def p_conf (P : pP) (d : Nat) : List Nat := p_head (s_ P 86 d) ++ p_rows P d (s_ P 86 d)
theorem set_app {l m : List Nat} {i x : Nat} : (l ++ m).set (l.length + i) x = l ++ m.set i x := by
  rw [List.set_append_right _ _ (by omega), show l.length + i - l.length = i by omega]
theorem c_conf_loop {d n : Nat} {x2 : Int32} (hd : d < 6) (hn : s_ P 86 d = n) (h6 : n ≤ 6) : ∀ (m i : Nat) (M : sm_M) (z4 z5 : Option sm_V), i + m = n → RC g (pB P 29 d (p_head n ++ p_rows P d i)) M →
    sm_Run (D + 1) 75 42 [some (.inr (some (g.1 4 d))), some (.inr (some (g.1 29 d))), some (.inl x2), some (.inl (nI i)), z4, z5] [] M (fun v' M' => v' = some (.inl x2) ∧ RC g (pB P 29 d (p_head n ++ p_rows P d n)) M') := by
  intro m
  induction m with
  | zero =>
    intro i M z4 z5 hi h
    obtain rfl : i = n := by omega
    have e86 := rI_86 h hd
    rw [s_B, hn] at e86
    refine bb_75_42 ⟨rc_Ks h (c := 4) hd, fun _ => ⟨rfl, h⟩, fun q => ?_⟩
    rw [e86] at q
    exact absurd (nI_le (Nat.le_refl _) (by omega)) q
  | succ m ih =>
    intro i M z4 z5 hi h
    obtain ⟨l4, l3, l8, l7, l26, l28, l29, l35, l67⟩ := lq_s h hd
    have e86 := rI_86 h hd
    rw [s_B, hn] at e86
    obtain ⟨t, t1, t2, t3, t4⟩ := rc_t h (k := 1) (by decide)
    obtain ⟨u, u1, u2, u3, u4⟩ := rc_t h (k := 2) (by decide)
    have t3' : sm_L M t = 18 := t3
    have u3' : sm_L M u = 7 := u3
    have L29 : sm_L M (g.1 29 d) = 64 := kL_29 h l29
    have hi6 : i < s_ (pB P 29 d (p_head n ++ p_rows P d i)) 86 d := by rw [s_B]; omega
    have l5 := lq_5 h hd hi6
    have r5 := rd_26_i h hd hi6
    have hlen : (p_head n ++ p_rows P d i).length = 18 + 7 * i := by rw [List.length_append, rows_len]; rfl
    have hat : Int32.ofNat (sm_L M t) + Int32.ofNat (sm_L M u) * nI i = nI (18 + 7 * i) := by
      rw [t3', u3', show Int32.ofNat 18 = nI 18 from rfl, show Int32.ofNat 7 = nI 7 from rfl, pk_mul, nI_add]
    have h1 := rp_29 (f := sm_I M u) (s := 0) (n := 7) (m := dl2) (cp := va_cpy (sm_I M u) (sm_I M (g.1 29 d)) 0 (18 + 7 * i) 7) h hd (by rw [hlen]) rfl (fun j hj => by rw [Nat.zero_add, u4 j hj]; exact dk_2 j hj) (by rw [hlen]; omega)
    have ci : (nI (18 + 7 * i)).toNatClampNeg = 18 + 7 * i := nI_clamp (by omega)
    have cz : (0 : Int32).toNatClampNeg = 0 := rfl
    have c7 : (Int32.ofNat 7).toNatClampNeg = 7 := rfl
    have i2 : nI (18 + 7 * i) + 2 = nI (18 + 7 * i + 2) := nI_add _ 2
    have i3 : nI (18 + 7 * i) + 3 = nI (18 + 7 * i + 3) := nI_add _ 3
    have i4 : nI (18 + 7 * i) + 4 = nI (18 + 7 * i + 4) := nI_add _ 4
    have i6 : nI (18 + 7 * i) + 6 = nI (18 + 7 * i + 6) := nI_add _ 6
    refine bb_75_42 ⟨rc_K h l4, fun q => ?_, fun _ => ⟨_, rd_4_5 h hd, ⟨5, rc_K h l26⟩, rc_in h l26 (by decide) (show i < 6 by omega) (by decide), t, t1, by rw [t2]; decide, u, u1, by rw [u2]; decide, u, u1, by rw [u2]; decide, _, rfl, Or.inl u2, rc_wA h l29 (by decide), ?_, ?_, g.1 5 (6 * d + i), by rw [nI_clamp (by omega)]; exact r5, rc_K h l5, ?_, ?_⟩⟩
    · rw [e86, nI_leI (by omega) (by omega)] at q; omega
    · rw [hat, nI_toInt (by omega), u3']
      exact ⟨by decide, by omega, by decide⟩
    · rw [hat, nI_toInt (by omega), u3', L29]
      refine ⟨by decide, ?_⟩
      show ((18 + 7 * i : Nat) : Int) + 7 ≤ (64 : Nat)
      omega
    · rw [hat, i2]
      exact rc_in h l29 (by decide) (show 18 + 7 * i + 2 < 64 by omega) (by decide)
    rw [hat, ci, u3', cz, c7]
    have e0 : sm_I (sm_rowI M (g.1 29 d) (va_cpy (sm_I M u) (sm_I M (g.1 29 d)) 0 (18 + 7 * i) 7)) (g.1 5 (6 * d + i)) 0 = nI (s_ P 100 (6 * d + i)) := rI_100 h1 l5
    rw [e0, i2]
    have h2 := rw_29 (j := 18 + 7 * i + 2) (jj := nI (18 + 7 * i + 2)) (x := s_ P 100 (6 * d + i)) h1 hd rfl rfl (by rw [List.length_append, hlen]; show 18 + 7 * i + 2 < 18 + 7 * i + 7; omega)
    rw [← hlen, set_app, hlen] at h2
    refine bb_75_96 ⟨_, rfl, rc_K h2 l5, fun q => ⟨_, rfl, rc_wA h2 l29 (by decide), ?_, ?_, ?_, ?_⟩, fun q => ⟨_, rfl, rc_wA h2 l29 (by decide), ?_, ?_, ?_, ?_⟩⟩
    · rw [i3]; exact rc_in h2 l29 (by decide) (show 18 + 7 * i + 3 < 64 by omega) (by decide)
    · rw [i4]; exact rc_in h2 l29 (by decide) (show 18 + 7 * i + 4 < 64 by omega) (by decide)
    · rw [i6]; exact rc_in h2 l29 (by decide) (show 18 + 7 * i + 6 < 64 by omega) (by decide)
    · rw [rI_102 h2 l5, show (0 : Int32) = nI 0 from rfl, nI_eq (rc_B h2 _ _) (by decide), s_B] at q
      rw [i3, i4, i6, nI_1]
      have h3 := rw_29 (j := 18 + 7 * i + 3) (jj := nI (18 + 7 * i + 3)) (x := 3) h2 hd rfl rfl (by rw [List.length_append, hlen]; show 18 + 7 * i + 3 < 18 + 7 * i + 7; omega)
      rw [← hlen, set_app, hlen] at h3
      have e1 := rI_101 h3 l5
      rw [s_B] at e1
      have h4 := rw_29 (j := 18 + 7 * i + 4) (jj := nI (18 + 7 * i + 4)) (x := s_ P 101 (6 * d + i)) h3 hd rfl rfl (by rw [List.length_append, hlen]; show 18 + 7 * i + 4 < 18 + 7 * i + 7; omega)
      rw [← hlen, set_app, hlen] at h4
      have e2 := rI_102 h4 l5
      rw [s_B] at e2
      have h5 := rw_29 (j := 18 + 7 * i + 6) (jj := nI (18 + 7 * i + 6)) (x := s_ P 102 (6 * d + i)) h4 hd rfl rfl (by rw [List.length_append, hlen]; show 18 + 7 * i + 6 < 18 + 7 * i + 7; omega)
      rw [← hlen, set_app, hlen] at h5
      have h6 : RC g (pB P 29 d (p_head n ++ p_rows P d (i + 1))) (sm_putI (sm_putI (sm_putI (sm_putI (sm_rowI M (g.1 29 d) (va_cpy (sm_I M u) (sm_I M (g.1 29 d)) 0 (18 + 7 * i) 7)) (g.1 29 d) (nI (18 + 7 * i + 2)).toNatClampNeg (nI (s_ P 100 (6 * d + i)))) (g.1 29 d) (nI (18 + 7 * i + 3)).toNatClampNeg (nI 3)) (g.1 29 d) (nI (18 + 7 * i + 4)).toNatClampNeg (nI (s_ P 101 (6 * d + i)))) (g.1 29 d) (nI (18 + 7 * i + 6)).toNatClampNeg (nI (s_ P 102 (6 * d + i)))) := by
        show RC g (pB P 29 d (p_head n ++ (p_rows P d i ++ p_row P (6 * d + i)))) _
        rw [← List.append_assoc]
        unfold p_row
        rw [if_neg q]
        exact h5
      rw [show (3 : Int32) = nI 3 from rfl, e1, e2]
      exact ih (i + 1) _ _ _ (by omega) h6
    · rw [i3]; exact rc_in h2 l29 (by decide) (show 18 + 7 * i + 3 < 64 by omega) (by decide)
    · rw [i4]; exact rc_in h2 l29 (by decide) (show 18 + 7 * i + 4 < 64 by omega) (by decide)
    · rw [i6]; exact rc_in h2 l29 (by decide) (show 18 + 7 * i + 6 < 64 by omega) (by decide)
    · rw [Decidable.not_not, rI_102 h2 l5, show (0 : Int32) = nI 0 from rfl, nI_eq (rc_B h2 _ _) (by decide), s_B] at q
      rw [i3, i4, i6, nI_1]
      have h3 := rw_29 (j := 18 + 7 * i + 3) (jj := nI (18 + 7 * i + 3)) (x := 2) h2 hd rfl rfl (by rw [List.length_append, hlen]; show 18 + 7 * i + 3 < 18 + 7 * i + 7; omega)
      rw [← hlen, set_app, hlen] at h3
      have e1 := rI_101 h3 l5
      rw [s_B] at e1
      have h4 := rw_29 (j := 18 + 7 * i + 4) (jj := nI (18 + 7 * i + 4)) (x := s_ P 101 (6 * d + i)) h3 hd rfl rfl (by rw [List.length_append, hlen]; show 18 + 7 * i + 4 < 18 + 7 * i + 7; omega)
      rw [← hlen, set_app, hlen] at h4
      have e2 := rI_102 h4 l5
      rw [s_B] at e2
      have h5 := rw_29 (j := 18 + 7 * i + 6) (jj := nI (18 + 7 * i + 6)) (x := s_ P 102 (6 * d + i)) h4 hd rfl rfl (by rw [List.length_append, hlen]; show 18 + 7 * i + 6 < 18 + 7 * i + 7; omega)
      rw [← hlen, set_app, hlen] at h5
      have h6 : RC g (pB P 29 d (p_head n ++ p_rows P d (i + 1))) (sm_putI (sm_putI (sm_putI (sm_putI (sm_rowI M (g.1 29 d) (va_cpy (sm_I M u) (sm_I M (g.1 29 d)) 0 (18 + 7 * i) 7)) (g.1 29 d) (nI (18 + 7 * i + 2)).toNatClampNeg (nI (s_ P 100 (6 * d + i)))) (g.1 29 d) (nI (18 + 7 * i + 3)).toNatClampNeg (nI 2)) (g.1 29 d) (nI (18 + 7 * i + 4)).toNatClampNeg (nI (s_ P 101 (6 * d + i)))) (g.1 29 d) (nI (18 + 7 * i + 6)).toNatClampNeg (nI (s_ P 102 (6 * d + i)))) := by
        show RC g (pB P 29 d (p_head n ++ (p_rows P d i ++ p_row P (6 * d + i)))) _
        rw [← List.append_assoc]
        unfold p_row
        rw [if_pos q]
        exact h5
      rw [show (2 : Int32) = nI 2 from rfl, e1, e2]
      exact ih (i + 1) _ _ _ (by omega) h6
theorem c_conf {d : Nat} (h : RC g P M) (hd : d < 6) : sm_Run (D + 1) 75 0 (sm_ent 75 [.inr (some (g.1 4 d)), .inr (some (g.1 29 d))]) [] M (fun v' M' => v' = some (.inl (nI (p_conf P d).length)) ∧ RC g (pB P 29 d (p_conf P d)) M') := by
  obtain ⟨l4, l3, l8, l7, l26, l28, l29, l35, l67⟩ := lq_s h hd
  obtain ⟨t, t1, t2, t3, t4⟩ := rc_t h (k := 1) (by decide)
  obtain ⟨u, u1, u2, u3, u4⟩ := rc_t h (k := 2) (by decide)
  have t3' : sm_L M t = 18 := t3
  have u3' : sm_L M u = 7 := u3
  have L29 : sm_L M (g.1 29 d) = 64 := kL_29 h l29
  have h6 := (rc_E h hd).1
  have hlen : (p_conf P d).length = 18 + 7 * s_ P 86 d := by unfold p_conf; rw [List.length_append, rows_len]; rfl
  have h0 := rp_29 (f := sm_I M t) (s := 0) (n := 18) (m := dl1) (cp := va_cpy (sm_I M t) (sm_I M (g.1 29 d)) 0 0 18) (rn_29 h hd) hd rfl rfl (fun j hj => by rw [Nat.zero_add, t4 j hj]; exact dk_1 j hj) (by decide)
  rw [List.nil_append] at h0
  have e6 : sm_I (sm_rowI M (g.1 29 d) (va_cpy (sm_I M t) (sm_I M (g.1 29 d)) 0 0 18)) (g.1 4 d) 6 = nI (s_ P 86 d) := rI_86 h0 hd
  have hT : Int32.ofNat (sm_L M t) + Int32.ofNat (sm_L M u) * nI (s_ P 86 d) = nI (18 + 7 * s_ P 86 d) := by
    rw [t3', u3', show Int32.ofNat 18 = nI 18 from rfl, show Int32.ofNat 7 = nI 7 from rfl, pk_mul, nI_add]
  refine bb_75_0 ⟨t, t1, by rw [t2]; decide, _, rfl, Or.inl t2, rc_wA h l29 (by decide), by rw [t3']; decide, by rw [t3', L29]; decide, t, t1, by rw [t2]; decide, u, u1, by rw [u2]; decide, rc_K h l4, rc_in h l29 (by decide) (show 2 < 64 by decide) (by decide), ?_⟩
  rw [t3'] at hT ⊢
  rw [show (0 : Int32).toNatClampNeg = 0 from rfl, show (Int32.ofNat 18).toNatClampNeg = 18 from rfl, e6, hT]
  have h1 := rw_29 (j := 2) (jj := 2) (x := 18 + 7 * s_ P 86 d) h0 hd rfl rfl (by decide)
  refine bb_75_32 ⟨rc_K h1 l4, _, rfl, rc_wA h1 l29 (by decide), rc_in h1 l29 (by decide) (show 13 < 64 by decide) (by decide), ?_⟩
  have e1 := rI_86 h1 hd
  rw [s_B] at e1
  rw [e1]
  have h2 := rw_29 (j := 13) (jj := 13) (x := s_ P 86 d) h1 hd rfl rfl (show 13 < 18 by decide)
  rw [hlen]
  refine c_conf_loop hd rfl h6 (s_ P 86 d) 0 _ _ _ (by omega) ?_
  exact h2
end TL
