/-! Peer.restart, clear; Host.find, beginFinding, makeForPipe, makeControl, forget -/
section PR
variable {g : pG} {P : pP} {M M' : sm_M} {D : Nat}
/-- the transfer that told the configuration -/
theorem rc_w85 {d n : Nat} {x : Option Nat} (h : RC g P M) (hd : d < 6) (hn : n ≤ s_ P 122 0) (hx : x = if n = 0 then none else some (g.1 10 (n - 1))) : RC g (pS P 165 d n) (sm_putR M (g.1 8 d) 5 x) := by
  have l8 := rc_st h (c := 8) hd
  have h336 := rc_made h
  obtain ⟨⟨ha, hb, hc⟩, i1, i2, i3, i4, i5, i6, i7, i8⟩ := h
  have st : ∀ {c i}, i < stn c → g.2.1 c i = true := fun hi => ha.2.2.1 _ _ hi
  have R : ∀ {c i k}, g.2.1 c i = true → ¬ (c = 8 ∧ i = d ∧ k = 5) → sm_R (sm_putR M (g.1 8 d) 5 x) (g.1 c i) k = sm_R M (g.1 c i) k := by
    intro c i k hl hq
    rw [R_put, if_neg]
    rintro ⟨q, rfl⟩
    by_cases hcc : c = 8 ∧ i = d
    · exact hq ⟨hcc.1, hcc.2, rfl⟩
    · exact rf_ne ha hl l8 hcc q
  obtain ⟨⟨b0, b0'⟩, ⟨b1, b2, b3, b4⟩, ⟨b5, b6, b7, b8, b9, b10, b11⟩, ⟨b12, b13⟩, ⟨b14, b15, b16⟩, b17, b18, b19⟩ := hb
  obtain ⟨c1, c2, c3, c4, c5, c6⟩ := hc
  have l0 := st (c := 0) (i := 0) (by decide)
  have l11 := st (c := 11) (i := 0) (by decide)
  have l2 := st (c := 2) (i := 0) (by decide)
  have l6 := st (c := 6) (i := 0) (by decide)
  have nf : ∀ {f i}, f ≠ 165 → s_ (pS P 165 d n) f i = s_ P f i := fun hf => by rw [s_S, if_neg (fun q => hf q.1)]
  refine ⟨⟨ha, ⟨⟨b0, b0'⟩, ⟨?_, ?_, ?_, ?_⟩, ⟨?_, ?_, ?_, ?_, ?_, ?_, ?_⟩, ⟨?_, ?_⟩, ⟨?_, ?_, ?_⟩, fun i hi => ?_, fun j hj => ?_, fun e he => ⟨?_, ?_, ?_, ?_, ?_, ?_, ?_, ?_⟩⟩, ⟨fun j hj => ?_, fun e he => ⟨?_, ?_, fun k hk => ?_⟩, fun e he => ?_, ⟨?_, fun t ht => ?_⟩, fun e he => ⟨?_, fun k hk => ?_⟩, fun e he => ?_⟩⟩, fun c i k hl hf h7 => ?_, i2, fun j hj => ?_, ?_, ?_, i6, i7, bn_S i8 (by omega)⟩
  · rw [R l0 (by omega)]; exact b1
  · rw [R l0 (by omega)]; exact b2
  · rw [R l0 (by omega)]; exact b3
  · rw [R l0 (by omega)]; exact b4
  · rw [R l11 (by omega)]; exact b5
  · rw [R l11 (by omega)]; exact b6
  · rw [R l11 (by omega)]; exact b7
  · rw [R l11 (by omega)]; exact b8
  · rw [R l11 (by omega)]; exact b9
  · rw [R l11 (by omega)]; exact b10
  · rw [R l11 (by omega)]; exact b11
  · rw [R l2 (by omega)]; exact b12
  · rw [R l2 (by omega)]; exact b13
  · rw [R l6 (by omega)]; exact b14
  · rw [R l6 (by omega)]; exact b15
  · rw [R l6 (by omega)]; exact b16
  · rw [R (st (c := 22) (by decide)) (by omega)]; exact b17 i hi
  · by_cases hj6 : j = 66
    · subst hj6; rw [R b0 (by omega)]; exact b18 66 hj
    · rw [R (st (c := 7) (show j < 66 by omega)) (by omega)]; exact b18 j hj
  · rw [R (st (c := 25) (by decide)) (by omega)]; exact (b19 e he).1
  · rw [R (st (c := 4) he) (by omega)]; exact (b19 e he).2.1
  · rw [R (st (c := 4) he) (by omega)]; exact (b19 e he).2.2.1
  · rw [R (st (c := 4) he) (by omega)]; exact (b19 e he).2.2.2.1
  · rw [R (st (c := 4) he) (by omega)]; exact (b19 e he).2.2.2.2.1
  · rw [R (st (c := 3) he) (by omega)]; exact (b19 e he).2.2.2.2.2.1
  · rw [R (st (c := 33) (by decide)) (by omega)]; exact (b19 e he).2.2.2.2.2.2.1
  · rw [R (st (c := 8) he) (by omega)]; exact (b19 e he).2.2.2.2.2.2.2
  · rw [R hj (by omega)]; exact c1 j hj
  · rw [nf (by decide)]; exact (c2 e he).1
  · rw [nf (by decide)]; exact (c2 e he).2.1
  · rw [R (st (c := 26) he) (by omega)]; exact (c2 e he).2.2 k hk
  · rw [R he (by omega)]; exact c3 e he
  · rw [nf (by decide)]; exact c4.1
  · rw [nf (by decide)] at ht
    obtain ⟨a1, a2, a3, a4, a5, a6⟩ := c4.2 t ht
    rw [nf (by decide), R (st (c := 34) (by decide)) (by omega), R a1 (by omega), R a1 (by omega)]
    exact ⟨a1, a2, a3, a4, a5, a6⟩
  · rw [nf (by decide)]; exact (c5 e he).1
  · rw [nf (by decide)] at hk
    rw [nf (by decide), R (st (c := 35) he) (by omega)]; exact (c5 e he).2 k hk
  · rw [nf (f := 122) (by decide)]
    by_cases hed : e = d
    · subst hed
      rw [s_Ss, R_put, if_pos ⟨rfl, rfl⟩]
      exact ⟨hn, hx⟩
    · rw [s_S, if_neg (by omega), R (st (c := 8) he) (by omega)]
      exact c6 e he
  · refine ⟨?_, bn_S i8 (by omega) _ _⟩
    rw [nf]
    · exact (i1 c i k hl hf h7).1
    · have : ∀ c, c < 12 → ∀ k, fi c k = true → 20 * c + k ≠ 165 := by
        intro c hc k hk
        match c, hc with
        | 0, _ | 1, _ | 2, _ | 3, _ | 4, _ | 5, _ | 6, _ | 7, _ | 8, _ | 9, _ | 10, _ | 11, _ => simp [fi] at hk <;> omega
      exact this c (fi_c hf) k hf
  · obtain ⟨h1, h2, h3⟩ := i3 j hj
    exact ⟨h1, by rw [R hj (by omega)]; exact h2, h3⟩
  · unfold iv_d at i4 ⊢
    rw [nf (by decide)]; exact i4
  · unfold iv_e at i5 ⊢
    rw [nf (by decide)]; exact i5
theorem rc_w164 {d : Nat} (h : RC g P M) (hd : d < 6) : RC g (pS P 164 d 0) (sm_putI M (g.1 8 d) 4 0) := by
  obtain ⟨c1, c2, c3, c4, c5, c6⟩ := h.1.2.2
  refine rc_wG (c := 8) (k := 4) h (rc_st h (c := 8) hd) rfl (by decide) rfl ⟨c1, ?_, c3, ?_, fun d' hd' => ?_, ?_⟩ ?_
  · simp only [s_S, Nat.reduceEqDiff]; exact c2
  · simp only [s_S, Nat.reduceEqDiff]; exact c4
  · rw [s_S]
    obtain ⟨e1, e2⟩ := c5 d' hd'
    by_cases q : 164 = 20 * 8 + 4 ∧ d' = d
    · rw [if_pos q]
      exact ⟨by decide, fun k hk => absurd hk (Nat.not_lt_zero _)⟩
    · rw [if_neg q]
      refine ⟨e1, fun k hk => ?_⟩
      rw [s_S, if_neg (by omega)]
      exact e2 k hk
  · simp only [s_S, Nat.reduceEqDiff]; exact c6
  · have := h.2.2.2.2.1
    unfold iv_d at this ⊢
    simp only [s_S, b_S, Nat.reduceEqDiff]; exact this
def p_prst (P : pP) (d k : Nat) : pP := pS (pS (pS (pS (pS P 160 d k) 161 d 0) 162 d 8) 164 d 0) 165 d 0
theorem c_prst {d k : Nat} (h : RC g P M) (hd : d < 6) (hk : k < 2 ^ 31) : sm_Run D 112 0 (sm_ent 112 [.inr (some (g.1 8 d)), .inl (nI k)]) [] M (fun v M' => v = none ∧ RC g (p_prst P d k) M') := by
  have l8 := rc_st h (c := 8) hd
  exact bb_112_0 ⟨rc_K h l8, rfl, rc_w85 (rc_w164 (rc_w' (rc_w' (rc_w' h l8 hk) l8 (show 0 < 2 ^ 31 by decide)) l8 (show 8 < 2 ^ 31 by decide)) hd) hd (Nat.zero_le _) rfl⟩
theorem gO_S {n0 u0 f i v : Nat} (h : gO n0 u0 g P) (h1 : f ≠ 122) (h2 : f ≠ 130) : gO n0 u0 g (pS P f i v) := by
  unfold gO at *
  rw [s_S, if_neg (fun q => h1 q.1.symm), s_S, if_neg (fun q => h2 q.1.symm)]
  exact h
theorem gO_eq {n0 u0 : Nat} {P' : pP} (h : gO n0 u0 g P) (h1 : s_ P' 122 0 = s_ P 122 0) (h2 : s_ P' 130 0 = s_ P 130 0) : gO n0 u0 g P' := by
  unfold gO at *
  rw [h1, h2]; exact h
/-- Host.find -/
def fdW (s : Nat) : Nat := if s = 2 then 5 else if s = 6 then 9 else 32774
def fdV (d s : Nat) : Nat := if s = 2 then d + 1 else if s = 6 then 1 else if s = 1 ∨ s = 3 then 256 else 512
def fdN (s tot : Nat) : Nat := if s = 1 then 8 else if s = 3 then 18 else if s = 4 then 9 else if s = 5 then tot else 0
def p_fnd (P : pP) (d s tot : Nat) : pP := pS (p_addC P d (fdW s) (fdV d s) 0 (fdN s tot)) 208 (s_ P 122 0) s
theorem c_fnd {n0 u0 d s tot : Nat} (h : RC g P M) (hg : gO n0 u0 g P) (hd : d < 6) (hs : 1 ≤ s ∧ s ≤ 6) (ht : tot ≤ 100) (hm : s_ P 122 0 < 336) (hw1 : s_ P 123 0 + 1 < 2 ^ 31) : sm_Run (D + 3) 91 0 (sm_ent 91 [.inr (some (g.1 6 0)), .inl (nI d), .inl (nI s), .inl (nI tot)]) [] M (fun r M' => r = none ∧ ∃ g', gx g g' ∧ gO n0 u0 g' (p_fnd P d s tot) ∧ RC g' (p_fnd P d s tot) M') := by
  have l6 := rc_st h (c := 6) (i := 0) (by decide)
  have fin : ∀ (M1 : sm_M) (r : Option sm_V), (∃ g', gx g g' ∧ gO n0 u0 g' (p_addC P d (fdW s) (fdV d s) 0 (fdN s tot)) ∧ r = some (.inr (some (g'.1 10 (s_ P 122 0)))) ∧ RC g' (p_addC P d (fdW s) (fdV d s) 0 (fdN s tot)) M1) → ∃ a, r = some (.inr (some a)) ∧ sm_K M1 a = 33 ∧ ∃ g', gx g g' ∧ gO n0 u0 g' (p_fnd P d s tot) ∧ RC g' (p_fnd P d s tot) (sm_putI M1 a 8 (nI s)) := by
    rintro M1 r ⟨g', e1, e2, rfl, e4⟩
    have hlt : s_ P 122 0 < s_ (p_addC P d (fdW s) (fdV d s) 0 (fdN s tot)) 122 0 := by
      unfold p_addC; rw [s_mk, if_neg (by omega), if_pos ⟨rfl, rfl⟩]; omega
    have l10 := (lq_10 e4 hlt).1
    exact ⟨_, rfl, rc_K e4 l10, g', e1, gO_S e2 (by decide) (by decide), rc_w' e4 l10 (by omega)⟩
  have run : ∀ w v n, w = fdW s → v = fdV d s → n = fdN s tot → sm_Run (D + 2) 89 0 (sm_ent 89 [.inr (some (g.1 6 0)), .inl (nI d), .inl (nI w), .inl (nI v), .inl (nI 0), .inl (nI n)]) [] M (fun r M' => ∃ g', gx g g' ∧ gO n0 u0 g' (p_addC P d (fdW s) (fdV d s) 0 (fdN s tot)) ∧ r = some (.inr (some (g'.1 10 (s_ P 122 0)))) ∧ RC g' (p_addC P d (fdW s) (fdV d s) 0 (fdN s tot)) M') := by
    rintro w v n rfl rfl rfl
    refine c_addC h hg hd hm hw1 ?_ ?_ ?_ (by decide)
    · unfold fdN; repeat' split
      all_goals omega
    · unfold fdW; repeat' split
      all_goals decide
    · unfold fdV; repeat' split
      all_goals omega
  have sb : s < 2 ^ 31 := by omega
  refine bb_91_0 ⟨fun q => ⟨rc_K h l6, ?_⟩, fun q => ⟨rc_K h l6, ?_⟩, fun q => ⟨rc_K h l6, ?_⟩, fun q => ⟨rc_K h l6, ?_⟩, fun q => ⟨rc_K h l6, ?_⟩, fun q => ⟨rc_K h l6, ?_⟩, fun q1 q2 q3 q4 q5 q6 => ?_⟩
  · rw [li_1, nI_eq sb (by decide)] at q
    subst q
    refine ru_mono (run 32774 256 8 rfl rfl rfl) (fun r M1 hr => ?_)
    obtain ⟨a, rfl, hk, hh⟩ := fin M1 r hr
    exact bb_91_57 ⟨(fun hb => by cases hb), fun b hb => by cases hb; exact ⟨hk, rfl, hh⟩⟩
  · rw [li_2, nI_eq sb (by decide)] at q
    subst q
    rw [nI_1]
    refine ru_mono (run 5 (d + 1) 0 rfl rfl rfl) (fun r M1 hr => ?_)
    obtain ⟨a, rfl, hk, hh⟩ := fin M1 r hr
    exact bb_91_73 ⟨(fun hb => by cases hb), fun b hb => by cases hb; exact ⟨hk, rfl, hh⟩⟩
  · rw [li_3, nI_eq sb (by decide)] at q
    subst q
    refine ru_mono (run 32774 256 18 rfl rfl rfl) (fun r M1 hr => ?_)
    obtain ⟨a, rfl, hk, hh⟩ := fin M1 r hr
    exact bb_91_91 ⟨(fun hb => by cases hb), fun b hb => by cases hb; exact ⟨hk, rfl, hh⟩⟩
  · rw [li_4, nI_eq sb (by decide)] at q
    subst q
    refine ru_mono (run 32774 512 9 rfl rfl rfl) (fun r M1 hr => ?_)
    obtain ⟨a, rfl, hk, hh⟩ := fin M1 r hr
    exact bb_91_109 ⟨(fun hb => by cases hb), fun b hb => by cases hb; exact ⟨hk, rfl, hh⟩⟩
  · rw [li_5, nI_eq sb (by decide)] at q
    subst q
    refine ru_mono (run 32774 512 tot rfl rfl rfl) (fun r M1 hr => ?_)
    obtain ⟨a, rfl, hk, hh⟩ := fin M1 r hr
    exact bb_91_126 ⟨(fun hb => by cases hb), fun b hb => by cases hb; exact ⟨hk, rfl, hh⟩⟩
  · rw [li_6, nI_eq sb (by decide)] at q
    subst q
    refine ru_mono (run 9 1 0 rfl rfl rfl) (fun r M1 hr => ?_)
    obtain ⟨a, rfl, hk, hh⟩ := fin M1 r hr
    exact bb_91_141 ⟨(fun hb => by cases hb), fun b hb => by cases hb; exact ⟨hk, rfl, hh⟩⟩
  · rw [li_1, nI_eq sb (by decide)] at q1
    rw [li_2, nI_eq sb (by decide)] at q2
    rw [li_3, nI_eq sb (by decide)] at q3
    rw [li_4, nI_eq sb (by decide)] at q4
    rw [li_5, nI_eq sb (by decide)] at q5
    rw [li_6, nI_eq sb (by decide)] at q6
    omega
/-- Host.beginFinding -/
def p_bfind (P : pP) (d : Nat) : pP := p_fnd (p_prst P d 1) d 1 0
theorem prst_s {d k f i : Nat} (hf : f ≠ 160 ∧ f ≠ 161 ∧ f ≠ 162 ∧ f ≠ 164 ∧ f ≠ 165) : s_ (p_prst P d k) f i = s_ P f i := by
  unfold p_prst
  rw [s_S, if_neg (by omega), s_S, if_neg (by omega), s_S, if_neg (by omega), s_S, if_neg (by omega), s_S, if_neg (by omega)]
theorem c_bfind {n0 u0 d : Nat} (h : RC g P M) (hg : gO n0 u0 g P) (hd : d < 6) (hm : s_ P 122 0 < 336) (hw1 : s_ P 123 0 + 1 < 2 ^ 31) : sm_Run (D + 4) 90 0 (sm_ent 90 [.inr (some (g.1 6 0)), .inl (nI d)]) [] M (fun r M' => r = none ∧ ∃ g', gx g g' ∧ gO n0 u0 g' (p_bfind P d) ∧ RC g' (p_bfind P d) M') := by
  have l6 := rc_st h (c := 6) (i := 0) (by decide)
  have l33 := rc_st h (c := 33) (i := 0) (by decide)
  have l8 := rc_st h (c := 8) hd
  refine bb_90_0 ⟨rc_K h l6, _, rd_6_0 h, ⟨8, rc_K h l33⟩, rc_in h l33 (by decide) (show d < 6 from hd) (by decide), g.1 8 d, ?_, rc_K h l8, ru_mono (c_prst (k := 1) h hd (by decide)) ?_⟩
  · rw [nI_clamp (by omega)]; exact rd_33_i h hd
  rintro r M1 ⟨rfl, h1⟩
  have e2 : s_ (p_prst P d 1) 122 0 = s_ P 122 0 := prst_s (by decide)
  have e3 : s_ (p_prst P d 1) 123 0 = s_ P 123 0 := prst_s (by decide)
  have e0 : s_ (p_prst P d 1) 130 0 = s_ P 130 0 := prst_s (by decide)
  refine bb_90_10 ⟨rc_K h1 l6, ru_mono (c_fnd (D := D) (s := 1) (tot := 0) h1 (gO_eq hg e2 e0) hd (by decide) (by decide) (by omega) (by omega)) ?_⟩
  rintro r M2 ⟨rfl, h2⟩
  exact bb_90_17 ⟨rfl, h2⟩
/-- isDevice -/
def devN (x : Int32) : Option Nat := if x < 0 ∨ (6 : Int32) ≤ x then none else some x.toNatClampNeg
theorem devN_some {x : Int32} {d : Nat} (h : devN x = some d) : x = nI d ∧ d < 6 := by
  unfold devN at h
  split at h
  · cases h
  · rename_i q
    have q1 : ¬ x < 0 := fun c => q (Or.inl c)
    have q2 : ¬ (6 : Int32) ≤ x := fun c => q (Or.inr c)
    obtain ⟨j, hj, rfl⟩ := nI_of q1
    rw [nI_clamp hj] at h
    cases h
    rw [li_6, nI_leI (by decide) hj] at q2
    exact ⟨rfl, by omega⟩
theorem c_isDev {x : Int32} : sm_Run D 21 0 (sm_ent 21 [.inl x]) [] M (fun v M' => v = some (.inl (bI (devN x).isSome)) ∧ M = M') := by
  unfold devN
  refine bb_21_0 ⟨fun q => ⟨?_, rfl⟩, fun q => ⟨fun q1 => ⟨?_, rfl⟩, fun q1 => ⟨?_, rfl⟩⟩⟩
  · rw [if_pos (Or.inl q)]; rfl
  · rw [if_pos (Or.inr q1)]; rfl
  · rw [if_neg (fun c => c.elim q q1)]; rfl
/-- Host.makeForPipe -/
def p_mfp (P : pP) (d : Nat) (x : Int32) (n : Nat) : Option pP :=
  if 100 < n ∨ 300 ≤ s_ P 122 0 then none
  else match p_pfind P d x with
    | none => none
    | some k => if s_ P 184 (pid P d k) = 0 then none else some (p_mk P (pid P d k) d (s_ P 182 (pid P d k)) (if x < 128 then 0 else 1) n 0 0 0 1)
theorem c_mfp {n0 u0 n : Nat} {x1 x : Int32} (h : RC g P M) (hg : gO n0 u0 g P) (hn : n < 2 ^ 31) (hw1 : s_ P 123 0 + 1 < 2 ^ 31) : sm_Run (D + 2) 87 0 (sm_ent 87 [.inr (some (g.1 6 0)), .inl x1, .inl x, .inl (nI n)]) [] M (fun r M' => match (devN x1).bind (fun d => p_mfp P d x n) with
    | none => r = some (.inr none) ∧ RC g P M'
    | some P' => ∃ g', gx g g' ∧ gO n0 u0 g' P' ∧ r = some (.inr (some (g'.1 10 (s_ P 122 0)))) ∧ RC g' P' M') := by
  have l6 := rc_st h (c := 6) (i := 0) (by decide)
  have l33 := rc_st h (c := 33) (i := 0) (by decide)
  refine bb_87_0 (ru_mono c_isDev ?_)
  rintro r M1 ⟨rfl, hM⟩
  subst hM
  cases hdv : devN x1 with
  | none => exact bb_87_4 ⟨fun _ => ⟨rfl, h⟩, fun q => absurd rfl q⟩
  | some d =>
    obtain ⟨rfl, hd⟩ := devN_some hdv
    have l8 := rc_st h (c := 8) hd
    have b2 := rc_B h 122 0
    show sm_Run _ _ _ _ _ _ (fun r M' => match p_mfp P d x n with
      | none => r = some (.inr none) ∧ RC g P M'
      | some P' => ∃ g', gx g g' ∧ gO n0 u0 g' P' ∧ r = some (.inr (some (g'.1 10 (s_ P 122 0)))) ∧ RC g' P' M')
    refine bb_87_4 ⟨fun q => absurd q (show ¬ bI true = 0 by decide), fun _ => ⟨fun q => ?_, fun q => ⟨rc_K h l6, fun q1 => ⟨_, rd_6_0 h, ⟨8, rc_K h l33⟩, rc_in h l33 (by decide) (show d < 6 from hd) (by decide), g.1 8 d, ?_, rc_K h l8, ru_mono (c_pfind h hd) ?_⟩, fun q1 => ?_⟩⟩⟩
    · rw [li_100, nI_ltI (by decide) hn] at q
      unfold p_mfp
      rw [if_pos (Or.inl q)]
      exact ⟨rfl, h⟩
    · rw [nI_clamp (by omega)]; exact rd_33_i h hd
    · rw [li_100, nI_ltI (by decide) hn] at q
      rw [rI_122 h, li_300, nI_ltI b2 (by decide)] at q1
      rintro r M1 ⟨rfl, hM⟩
      subst hM
      unfold p_mfp
      rw [if_neg (by omega)]
      cases hf : p_pfind P d x with
      | none => exact bb_87_35 ⟨fun _ => ⟨rfl, h⟩, fun b hb => by cases hb⟩
      | some k =>
        have hk := (pfind_lt hf).1
        have l9 := lq_9 h hd hk
        refine bb_87_35 ⟨(fun hb => by cases hb), fun b hb => ?_⟩
        obtain rfl : g.1 9 (pid P d k) = b := Option.some.inj hb
        have hN := rc_N h
        have hU := rc_U h
        have h1 := rc_old (M' := sm_new M 33 0 13) h (old_new (Nat.le_of_eq hN.symm)) rfl rfl (by show g.2.2.1 ≤ sm_N M + 1; omega)
        have main : s_ P 184 (pid P d k) ≠ 0 → ∀ th, th ≤ 1 → th = (if x < 128 then 0 else 1) → sm_Run (D + 1) 121 0 (sm_ent 121 [.inr (some (sm_N M)), .inl (nI d), .inr (some (g.1 9 (pid P d k))), .inl (sm_I (sm_new M 33 0 13) (g.1 9 (pid P d k)) 2), .inl (nI th), .inl (nI n)]) [] (sm_new M 33 0 13) (fun v' M1 => sm_Run (D + 2) 87 81 [some (.inr (some (g.1 6 0))), some (.inl (nI d)), some (.inl x), some (.inl (nI n)), some (.inr (some (g.1 9 (pid P d k))))] (v'.toList ++ [.inr (some (sm_N M)), .inr (some (g.1 6 0))]) M1 (fun r M' => ∃ g', gx g g' ∧ gO n0 u0 g' (p_mk P (pid P d k) d (s_ P 182 (pid P d k)) (if x < 128 then 0 else 1) n 0 0 0 1) ∧ r = some (.inr (some (g'.1 10 (s_ P 122 0)))) ∧ RC g' (p_mk P (pid P d k) d (s_ P 182 (pid P d k)) (if x < 128 then 0 else 1) n 0 0 0 1) M')) := by
          intro ho th hth hthe
          rw [show sm_I (sm_new M 33 0 13) (g.1 9 (pid P d k)) 2 = nI (s_ P 182 (pid P d k)) from (rI_182 h1 l9 :)]
          refine ru_mono (c_tinit hth (by omega)) ?_
          rintro r M2 ⟨rfl, hF, ho, hN2, hU2⟩
          rw [hN] at hF ho
          have h3 := rc_old (M' := M2) h ho rfl rfl (by omega)
          refine bb_87_81 ⟨(rc_K h3 l6 :), ?_⟩
          rw [hN]
          refine ru_mono (c_hkeep h ho (by omega) (by omega) hw1 l9 hF (hg.1 _ (Nat.le_refl _)).1 (hg.1 _ (Nat.le_refl _)).2 (by omega) (by omega) (rc_B h _ _) (by omega) (by decide) (by decide) (by decide) (by decide) (rc_B h _ _)) ?_
          rintro r M4 ⟨rfl, h4⟩
          have eN : sm_N M2 = g.2.2.1 + 2 := by omega
          have eU : sm_U M2 = g.2.2.2 + 13 + n := by omega
          rw [eN, eU] at h4
          refine bb_87_84 ⟨gT g (s_ P 122 0) g.2.2.1 (g.2.2.1 + 1) (g.2.2.1 + 2) (g.2.2.2 + 13 + n), gx_T hg, gO_T hg (by omega), ?_, ?_⟩
          · rw [gT_1, if_neg (by omega), if_pos ⟨rfl, rfl⟩]
          · rw [← hthe]
            exact h4
        refine ⟨rc_K h l9, fun q2 => ⟨(rc_K h1 l9 :), fun q3 => ?_, fun q3 => ?_⟩, fun q2 => ?_⟩
        · rw [rI_184 h l9, li_0, nI_eq (rc_B h _ _) (by decide)] at q2
          dsimp only
          rw [if_neg q2]
          exact main q2 0 (by decide) (by rw [if_pos q3])
        · rw [rI_184 h l9, li_0, nI_eq (rc_B h _ _) (by decide)] at q2
          dsimp only
          rw [if_neg q2]
          exact main q2 1 (by decide) (by rw [if_neg q3])
        · rw [rI_184 h l9, li_0, Decidable.not_not, nI_eq (rc_B h _ _) (by decide)] at q2
          dsimp only
          rw [if_pos q2]
          exact ⟨rfl, h⟩
    · rw [rI_122 h, li_300, nI_ltI b2 (by decide)] at q1
      unfold p_mfp
      rw [if_pos (Or.inr (by omega))]
      exact ⟨rfl, h⟩
/-- Peer.takesControl, Host.makeControl -/
abbrev tkC (P : pP) (d : Nat) : Prop := s_ P 160 d = 2 ∨ (s_ P 160 d = 3 ∧ s_ P 161 d ≠ 0)
theorem c_tkC {d : Nat} (h : RC g P M) (hd : d < 6) : sm_Run D 113 0 (sm_ent 113 [.inr (some (g.1 8 d))]) [] M (fun v M' => v = some (.inl (bI (decide (tkC P d)))) ∧ M = M') := by
  have l8 := rc_st h (c := 8) hd
  refine bb_113_0 ?_
  simp (disch := first | assumption | exact rc_B (by assumption) _ _ | omega | decide) only [kK_8 h, rI_160 h, rI_161 h, li_0, li_1, li_2, li_3, nI_eq, Decidable.not_not, Option.some.injEq, true_and, and_true]
  refine ⟨fun q => ?_, fun q => ⟨fun q1 => ?_, fun q1 => ⟨fun q2 => ?_, fun q2 => ?_⟩⟩⟩
  · rw [decide_eq_true (show tkC P d by unfold tkC; omega)]; rfl
  · rw [decide_eq_false (by unfold tkC; omega)]; rfl
  · rw [decide_eq_false (by unfold tkC; omega)]; rfl
  · rw [decide_eq_true (show tkC P d by unfold tkC; omega)]; rfl
def p_mct (P : pP) (d w v ix : Nat) (y : Int32) : Option pP := if y < 0 ∨ (100 : Int32) < y ∨ 300 ≤ s_ P 122 0 ∨ ¬ tkC P d ∨ w = 5 then none else some (p_addC P d w v ix y.toNatClampNeg)
theorem c_mct {n0 u0 w v ix : Nat} {x1 y : Int32} (h : RC g P M) (hg : gO n0 u0 g P) (hw : w < 2 ^ 31) (hv : v < 2 ^ 31) (hix : ix < 2 ^ 31) (hw1 : s_ P 123 0 + 1 < 2 ^ 31) : sm_Run (D + 3) 88 0 (sm_ent 88 [.inr (some (g.1 6 0)), .inl x1, .inl (nI w), .inl (nI v), .inl (nI ix), .inl y]) [] M (fun r M' => match (devN x1).bind (fun d => p_mct P d w v ix y) with
    | none => r = some (.inr none) ∧ RC g P M'
    | some P' => ∃ g', gx g g' ∧ gO n0 u0 g' P' ∧ r = some (.inr (some (g'.1 10 (s_ P 122 0)))) ∧ RC g' P' M') := by
  have l6 := rc_st h (c := 6) (i := 0) (by decide)
  have l33 := rc_st h (c := 33) (i := 0) (by decide)
  have b2 := rc_B h 122 0
  refine bb_88_0 (ru_mono c_isDev ?_)
  rintro r M1 ⟨rfl, hM⟩
  subst hM
  cases hdv : devN x1 with
  | none => exact bb_88_4 ⟨fun _ => ⟨rfl, h⟩, fun q => absurd rfl q⟩
  | some d =>
    obtain ⟨rfl, hd⟩ := devN_some hdv
    have l8 := rc_st h (c := 8) hd
    show sm_Run _ _ _ _ _ _ (fun r M' => match p_mct P d w v ix y with
      | none => r = some (.inr none) ∧ RC g P M'
      | some P' => ∃ g', gx g g' ∧ gO n0 u0 g' P' ∧ r = some (.inr (some (g'.1 10 (s_ P 122 0)))) ∧ RC g' P' M')
    refine bb_88_4 ⟨fun q => absurd q (show ¬ bI true = 0 by decide), fun _ => ⟨fun q => ?_, fun q => ⟨fun q1 => ?_, fun q1 => ⟨rc_K h l6, fun q2 => ⟨_, rd_6_0 h, ⟨8, rc_K h l33⟩, rc_in h l33 (by decide) (show d < 6 from hd) (by decide), g.1 8 d, ?_, rc_K h l8, ru_mono (c_tkC h hd) ?_⟩, fun q2 => ?_⟩⟩⟩⟩
    · unfold p_mct
      rw [if_pos (Or.inl q)]
      exact ⟨rfl, h⟩
    · unfold p_mct
      rw [if_pos (Or.inr (Or.inl q1))]
      exact ⟨rfl, h⟩
    · rw [nI_clamp (by omega)]; exact rd_33_i h hd
    · rw [rI_122 h, li_300, nI_ltI b2 (by decide)] at q2
      rintro r M1 ⟨rfl, hM⟩
      subst hM
      obtain ⟨n, hn, rfl⟩ := nI_of q
      rw [li_100, nI_ltI (by decide) hn] at q1
      refine bb_88_40 ⟨fun q3 => ?_, fun q3 => ⟨fun q4 => ⟨rc_K h l6, ru_mono (c_addC (D := D) h hg hd (by omega) hw1 (show n ≤ 100 by omega) hw hv hix) ?_⟩, fun q4 => ?_⟩⟩
      · rw [bI_t] at q3
        unfold p_mct
        rw [if_pos (Or.inr (Or.inr (Or.inr (Or.inl q3))))]
        exact ⟨rfl, h⟩
      · rw [bI_t, Decidable.not_not] at q3
        rw [li_5, nI_eq hw (by decide)] at q4
        rintro r M1 hr
        obtain ⟨g', e1, e2, rfl, e4⟩ := hr
        refine bb_88_61 ?_
        have e : p_mct P d w v ix (nI n) = some (p_addC P d w v ix n) := by
          unfold p_mct
          rw [if_neg, nI_clamp hn]
          rintro (c | c | c | c | c)
          · exact q c
          · rw [li_100, nI_ltI (by decide) hn] at c; exact q1 c
          · omega
          · exact c q3
          · exact q4 c
        rw [e]
        exact ⟨g', e1, e2, rfl, e4⟩
      · rw [li_5, Decidable.not_not, nI_eq hw (by decide)] at q4
        unfold p_mct
        rw [if_pos (Or.inr (Or.inr (Or.inr (Or.inr q4))))]
        exact ⟨rfl, h⟩
    · rw [rI_122 h, li_300, nI_ltI b2 (by decide)] at q2
      unfold p_mct
      rw [if_pos (Or.inr (Or.inr (Or.inl (by omega))))]
      exact ⟨rfl, h⟩
/-- Host.forget -/
def p_fg (P : pP) (d : Nat) : Nat → pP
  | 0 => P
  | n + 1 => if s_ (p_fg P d n) 200 n = d ∧ s_ (p_fg P d n) 211 n = 0 then pS (pS (p_fg P d n) 211 n 3) 123 0 (s_ (p_fg P d n) 123 0 - 1) else p_fg P d n
theorem fg_s {d f i : Nat} (hf : f ≠ 211 ∧ f ≠ 123) : ∀ n, s_ (p_fg P d n) f i = s_ P f i
  | 0 => rfl
  | n + 1 => by
    unfold p_fg
    split
    · rw [s_S, if_neg (by omega), s_S, if_neg (by omega)]; exact fg_s hf n
    · exact fg_s hf n
theorem fg_b {d c i : Nat} : ∀ n, b_ (p_fg P d n) c i = b_ P c i
  | 0 => rfl
  | n + 1 => by
    unfold p_fg
    split
    · rw [b_S, b_S]; exact fg_b n
    · exact fg_b n
def p_forget (P : pP) (d : Nat) : pP := p_fg (p_prst P d 0) d (s_ P 122 0)
theorem c_forget {d : Nat} (h : RC g P M) (hd : d < 6) (hW : ∀ n, n < s_ P 122 0 → s_ (p_fg (p_prst P d 0) d n) 200 n = d → s_ (p_fg (p_prst P d 0) d n) 211 n = 0 → 1 ≤ s_ (p_fg (p_prst P d 0) d n) 123 0) : sm_Run (D + 1) 92 0 (sm_ent 92 [.inr (some (g.1 6 0)), .inl (nI d)]) [] M (fun r M' => r = none ∧ RC g (p_forget P d) M') := by
  have l6 := rc_st h (c := 6) (i := 0) (by decide)
  have l33 := rc_st h (c := 33) (i := 0) (by decide)
  have l34 := rc_st h (c := 34) (i := 0) (by decide)
  have l8 := rc_st h (c := 8) hd
  have h336 := rc_made h
  refine bb_92_0 ⟨rc_K h l6, _, rd_6_0 h, ⟨8, rc_K h l33⟩, rc_in h l33 (by decide) (show d < 6 from hd) (by decide), g.1 8 d, ?_, rc_K h l8, ru_mono (c_prst (k := 0) h hd (by decide)) ?_⟩
  · rw [nI_clamp (by omega)]; exact rd_33_i h hd
  rintro r M1 ⟨rfl, h1⟩
  have e2 : s_ (p_prst P d 0) 122 0 = s_ P 122 0 := prst_s (by decide)
  have key : ∀ (m i : Nat) (M : sm_M), i + m = s_ P 122 0 → RC g (p_fg (p_prst P d 0) d i) M → sm_Run (D + 1) 92 12 [some (.inr (some (g.1 6 0))), some (.inl (nI d)), some (.inl (nI i))] [] M (fun r M' => r = none ∧ RC g (p_forget P d) M') := by
    intro m
    induction m with
    | zero =>
      intro i M hi hh
      have em : s_ (p_fg (p_prst P d 0) d i) 122 0 = s_ P 122 0 := (fg_s (by decide) i).trans e2
      obtain rfl : i = s_ P 122 0 := by omega
      refine bb_92_12 ⟨rc_K hh l6, fun _ => ⟨rfl, hh⟩, fun q => ?_⟩
      rw [rI_122 hh, em] at q
      exact absurd (nI_le (Nat.le_refl _) (by omega)) q
    | succ m ih =>
      intro i M hi hh
      have em : s_ (p_fg (p_prst P d 0) d i) 122 0 = s_ P 122 0 := (fg_s (by decide) i).trans e2
      have him : i < s_ (p_fg (p_prst P d 0) d i) 122 0 := by omega
      obtain ⟨l10, l36, l9⟩ := lq_10 hh him
      have r34 : sm_R M (g.1 34 0) (nI i).toNatClampNeg = some (g.1 10 i) := by rw [nI_clamp (by omega)]; exact rd_34_i hh him
      have hin : sm_in_ M (g.1 34 0) (nI i) := rc_in hh l34 (by decide) (show i < 336 by omega) (by decide)
      have b0 := rc_B hh 200 i
      have go : ∀ {Q : pP} {M : sm_M}, Q = p_fg (p_prst P d 0) d (i + 1) → RC g Q M → sm_Run (D + 1) 92 12 [some (.inr (some (g.1 6 0))), some (.inl (nI d)), some (.inl (nI (i + 1)))] [] M (fun r M' => r = none ∧ RC g (p_forget P d) M') := by
        rintro Q M rfl hQ
        exact ih (i + 1) M (by omega) hQ
      refine bb_92_12 ⟨rc_K hh l6, fun q => ?_, fun _ => ⟨_, rd_6_1 hh, ⟨10, rc_K hh l34⟩, hin, _, r34, rc_K hh l10, fun q => ?_, fun q => ⟨_, rd_6_1 hh, ⟨10, rc_K hh l34⟩, hin, _, r34, rc_K hh l10, fun q1 => ?_, fun q1 => ⟨_, rd_6_1 hh, ⟨10, rc_K hh l34⟩, hin, _, r34, rc_K hh l10, ?_⟩⟩⟩⟩
      · rw [rI_122 hh, em, nI_leI (by omega) (by omega)] at q; omega
      · rw [rI_200 hh l10, nI_eq b0 (by omega)] at q
        rw [nI_1]
        exact go (by show _ = if _ ∧ _ then _ else _; rw [if_neg (fun c => q c.1)]) hh
      · rw [rI_211 hh l10, li_0, nI_eq (rc_B hh _ _) (by decide)] at q1
        rw [nI_1]
        exact go (by show _ = if _ ∧ _ then _ else _; rw [if_neg (fun c => q1 c.2)]) hh
      · rw [rI_200 hh l10, Decidable.not_not, nI_eq b0 (by omega)] at q
        rw [rI_211 hh l10, li_0, Decidable.not_not, nI_eq (rc_B hh _ _) (by decide)] at q1
        have hw := hW i (by omega) q q1
        have b3 := rc_B hh 123 0
        have h3 : RC g (pS (p_fg (p_prst P d 0) d i) 211 i 3) (sm_putI M (g.1 10 i) 11 3) := rc_w' hh l10 (show 3 < 2 ^ 31 by decide)
        have x3 := rI_123 h3
        have y3 : s_ (pS (p_fg (p_prst P d 0) d i) 211 i 3) 123 0 = s_ (p_fg (p_prst P d 0) d i) 123 0 := by simp only [s_S, Nat.reduceEqDiff, false_and, if_false]
        rw [y3] at x3
        rw [x3, li_1, pk_sub hw, nI_add]
        refine go ?_ (rc_w' h3 l6 (show s_ (p_fg (p_prst P d 0) d i) 123 0 - 1 < 2 ^ 31 by omega))
        show _ = if _ ∧ _ then _ else _
        rw [if_pos ⟨q, q1⟩]
  exact bb_92_10 (key (s_ P 122 0) 0 M1 (by omega) h1)
/-- Peer.clear -/
def p_reAll (P : pP) (d : Nat) : Nat → pP
  | 0 => P
  | n + 1 => p_reop (p_reAll P d n) (pid P d n)
theorem reAll_s {d f i : Nat} (hf : f ≠ 184 ∧ f ≠ 185) : ∀ n, s_ (p_reAll P d n) f i = s_ P f i
  | 0 => rfl
  | n + 1 => by
    show s_ (p_reop (p_reAll P d n) (pid P d n)) f i = _
    unfold p_reop
    rw [s_S, if_neg (by omega), s_S, if_neg (by omega)]
    exact reAll_s hf n
def p_clear (P : pP) (d t : Nat) : pP :=
  if s_ P 205 t = 9 ∧ s_ P 206 t = 1 then p_reAll P d (s_ P 164 d)
  else if s_ P 205 t = 513 ∧ s_ P 206 t = 0 then (match p_pfind P d (nI (s_ P 207 t % 256)) with
    | none => P
    | some k => p_reop P (pid P d k))
  else P
theorem c_clear {d t : Nat} (h : RC g P M) (hd : d < 6) (ht : t < s_ P 122 0) : sm_Run (D + 1) 117 0 (sm_ent 117 [.inr (some (g.1 8 d)), .inr (some (g.1 10 t))]) [] M (fun r M' => r = none ∧ RC g (p_clear P d t) M') := by
  obtain ⟨l10, l36, l9⟩ := lq_10 h ht
  have l8 := rc_st h (c := 8) hd
  have l35 := rc_st h (c := 35) hd
  have h6 := rc_Pc h hd
  have b7 := rc_B h 207 t
  have t45 : ¬ (s_ P 205 t = 9 ∧ s_ P 206 t = 1) → sm_Run (D + 1) 117 45 [some (.inr (some (g.1 8 d))), some (.inr (some (g.1 10 t))), none] [] M (fun r M' => r = none ∧ RC g (p_clear P d t) M') := by
    intro c
    unfold p_clear
    rw [if_neg c]
    refine bb_117_45 ⟨_, rfl, rc_K h l10, fun q => ?_, fun q => ⟨fun q1 => ?_, fun q1 => ⟨rc_K h l8, ?_⟩⟩⟩
    · rw [rI_205 h l10, li_513, nI_eq (rc_B h _ _) (by decide)] at q
      rw [if_neg (fun c => q c.1)]
      exact ⟨rfl, h⟩
    · rw [rI_206 h l10, li_0, nI_eq (rc_B h _ _) (by decide)] at q1
      rw [if_neg (fun c => q1 c.2)]
      exact ⟨rfl, h⟩
    · rw [rI_205 h l10, li_513, Decidable.not_not, nI_eq (rc_B h _ _) (by decide)] at q
      rw [rI_206 h l10, li_0, Decidable.not_not, nI_eq (rc_B h _ _) (by decide)] at q1
      rw [if_pos ⟨q, q1⟩, rI_207 h l10, pk_andN (by omega) 8 (by decide)]
      refine ru_mono (c_pfind h hd) ?_
      rintro r M1 ⟨rfl, hM⟩
      subst hM
      rw [show nI (s_ P 207 t % 2 ^ 8) = nI (s_ P 207 t % 256) from rfl]
      cases hf : p_pfind P d (nI (s_ P 207 t % 256)) with
      | none => exact bb_117_74 ⟨fun _ => ⟨rfl, h⟩, fun b hb => by cases hb⟩
      | some k =>
        have lk := lq_9 h hd (pfind_lt hf).1
        refine bb_117_74 ⟨(fun hb => by cases hb), fun b hb => ?_⟩
        obtain rfl : g.1 9 (pid P d k) = b := Option.some.inj hb
        refine ⟨rc_K h lk, ru_mono (c_reopen h lk) ?_⟩
        rintro r M1 ⟨rfl, h1⟩
        exact bb_117_83 ⟨rfl, h1⟩
  refine bb_117_0 ⟨_, rfl, rc_K h l10, fun q => ?_, fun q => ⟨fun q1 => ?_, fun q1 => ?_⟩⟩
  · rw [rI_205 h l10, li_9, nI_eq (rc_B h _ _) (by decide)] at q
    exact t45 (fun c => q c.1)
  · rw [rI_206 h l10, li_1, nI_eq (rc_B h _ _) (by decide)] at q1
    exact t45 (fun c => q1 c.2)
  · rw [rI_205 h l10, li_9, Decidable.not_not, nI_eq (rc_B h _ _) (by decide)] at q
    rw [rI_206 h l10, li_1, Decidable.not_not, nI_eq (rc_B h _ _) (by decide)] at q1
    unfold p_clear
    rw [if_pos ⟨q, q1⟩]
    have key : ∀ (m i : Nat) (M : sm_M), i + m = s_ P 164 d → RC g (p_reAll P d i) M → sm_Run (D + 1) 117 19 [some (.inr (some (g.1 8 d))), some (.inr (some (g.1 10 t))), some (.inl (nI i))] [] M (fun r M' => r = none ∧ RC g (p_reAll P d (s_ P 164 d)) M') := by
      intro m
      induction m with
      | zero =>
        intro i M hi hh
        obtain rfl : i = s_ P 164 d := by omega
        have e4 : s_ (p_reAll P d (s_ P 164 d)) 164 d = s_ P 164 d := reAll_s (by decide) _
        refine bb_117_19 ⟨rc_K hh l8, fun _ => ⟨rfl, hh⟩, fun q => ?_⟩
        rw [rI_164 hh hd, e4] at q
        exact absurd (nI_le (Nat.le_refl _) (by omega)) q
      | succ m ih =>
        intro i M hi hh
        have e4 : s_ (p_reAll P d i) 164 d = s_ P 164 d := reAll_s (by decide) _
        have e6 : s_ (p_reAll P d i) 166 (10 * d + i) = pid P d i := reAll_s (by decide) _
        have hi4 : i < s_ (p_reAll P d i) 164 d := by omega
        have lk := lq_9 hh hd hi4
        have rk := rd_35_i hh hd hi4
        rw [e6] at lk rk
        refine bb_117_19 ⟨rc_K hh l8, fun q => ?_, fun _ => ⟨_, rd_8_3 hh hd, ⟨9, rc_K hh l35⟩, rc_in hh l35 (by decide) (show i < 6 by omega) (by decide), _, by rw [nI_clamp (by omega)]; exact rk, rc_K hh lk, ru_mono (c_reopen hh lk) ?_⟩⟩
        · rw [rI_164 hh hd, e4, nI_leI (by omega) (by omega)] at q; omega
        · rintro r M1 ⟨rfl, h1⟩
          refine bb_117_36 ?_
          rw [nI_1]
          exact ih (i + 1) M1 (by omega) h1
    exact key (s_ P 164 d) 0 M (by omega) h
end PR
