/-! WireBus: feed, end, device, attach, detach -/
section FE
variable {g : pG} {P : pP} {M M' : sm_M} {D : Nat}
def byN (x : Int32) (i : Nat) : Nat := ((x >>> (nI (24 - 8 * i) &&& 31)).toBitVec.toNat) % 256
theorem r_20 (h : RC g P M) : (b_ P 20 0).length = 20 ∧ arr M (g.1 20 0) (b_ P 20 0) := ⟨h.2.2.2.2.1.1, h.2.2.2.2.1.2.1⟩
def mrL (l : List Nat) (at_ : Nat) (x : Int32) : Nat → List Nat
  | 0 => l
  | i + 1 => (mrL l at_ x i).set (at_ + i) (byN x i)
theorem mrL_len {l : List Nat} {at_ : Nat} {x : Int32} : ∀ i, (mrL l at_ x i).length = l.length
  | 0 => rfl
  | i + 1 => by show ((mrL l at_ x i).set _ _).length = _; rw [List.length_set]; exact mrL_len i
def p_mr (P : pP) (at_ : Nat) (x : Int32) : pP := pB P 20 0 (mrL (b_ P 20 0) at_ x 4)
theorem c_mr {at_ : Nat} {x : Int32} (h : RC g P M) (ha : at_ + 4 ≤ 20) : sm_Run D 2 0 (sm_ent 2 [.inr (some (g.1 0 0)), .inl (nI at_), .inl x]) [] M (fun v M' => v = none ∧ RC g (p_mr P at_ x) M') := by
  have l0 := rc_st h (c := 0) (i := 0) (by decide)
  have l20 := rc_st h (c := 20) (i := 0) (by decide)
  have h20 := (r_20 h).1
  have key : ∀ (m i : Nat) (M : sm_M), i + m = 4 → RC g (pB P 20 0 (mrL (b_ P 20 0) at_ x i)) M → sm_Run D 2 2 [some (.inr (some (g.1 0 0))), some (.inl (nI at_)), some (.inl x), some (.inl (nI i))] [] M (fun v M' => v = none ∧ RC g (p_mr P at_ x) M') := by
    intro m
    induction m with
    | zero =>
      intro i M hi hh
      obtain rfl : i = 4 := by omega
      exact bb_2_2 ⟨fun _ => ⟨rfl, hh⟩, fun q => absurd (by decide) q⟩
    | succ m ih =>
      intro i M hi hh
      have hA := (r_20 hh).2
      rw [b_Bs] at hA
      have hv : (x >>> ((24 - 8 * nI i) &&& 31)) &&& 255 = nI (byN x i) := by
        rw [show (24 : Int32) = nI 24 from rfl, li_8, pk_mul, pk_sub (by omega), pk_and _ 8 (by decide)]
        rfl
      refine bb_2_2 ⟨fun q => ?_, fun _ => ⟨fun q => ?_, fun _ => ⟨rc_K hh l0, _, rd_0_1 hh, rc_wA hh l20 (by decide), ?_, ?_⟩⟩⟩
      · rw [li_4, nI_leI (by decide) (by omega)] at q; omega
      · rw [nI_add, li_20, nI_leI (by decide) (by omega)] at q; omega
      · rw [nI_add]; exact rc_in hh l20 (by decide) (show at_ + i < 20 by omega) (by decide)
      · rw [nI_add, nI_clamp (by omega), hv, nI_1]
        have h2 := rc_row (c := 20) (i := 0) hh (Or.inl ⟨rfl, rfl, by rw [List.length_set, mrL_len]; exact h20⟩) (ch_put rfl) (ar_set (j := at_ + i) (x := byN x i) hA)
        rw [pBB] at h2
        exact ih (i + 1) _ (by omega) h2
  exact bb_2_0 (key 4 0 M rfl (by show RC g (pB P 20 0 (b_ P 20 0)) M; rw [pBe]; exact h))
def p_feed (P : pP) (a b c d e : Int32) : pP := p_mr (p_mr (p_mr (p_mr (p_mr P 0 a) 4 b) 8 c) 12 d) 16 e
theorem c_feed {a b c d e : Int32} (h : RC g P M) : sm_Run (D + 1) 1 0 (sm_ent 1 [.inr (some (g.1 0 0)), .inl a, .inl b, .inl c, .inl d, .inl e]) [] M (fun v M' => v = none ∧ RC g (p_feed P a b c d e) M') := by
  have l0 := rc_st h (c := 0) (i := 0) (by decide)
  refine bb_1_0 ⟨rc_K h l0, ru_mono (c_mr (at_ := 0) h (by decide)) ?_⟩
  rintro v M1 ⟨rfl, h1⟩
  refine bb_1_6 ⟨rc_K h1 l0, ru_mono (c_mr (at_ := 4) h1 (by decide)) ?_⟩
  rintro v M2 ⟨rfl, h2⟩
  refine bb_1_12 ⟨rc_K h2 l0, ru_mono (c_mr (at_ := 8) h2 (by decide)) ?_⟩
  rintro v M3 ⟨rfl, h3⟩
  refine bb_1_19 ⟨rc_K h3 l0, ru_mono (c_mr (at_ := 12) h3 (by decide)) ?_⟩
  rintro v M4 ⟨rfl, h4⟩
  refine bb_1_27 ⟨rc_K h4 l0, ru_mono (c_mr (at_ := 16) h4 (by decide)) ?_⟩
  rintro v M5 ⟨rfl, h5⟩
  exact bb_1_35 ⟨rfl, h5⟩
/-- end -/
def p_end (P : pP) (x : Int32) : Option Int32 × pP :=
  if x < 0 ∨ (20 : Int32) < x ∨ 200 - (b_ P 1 0).length < x.toNatClampNeg then (some (-1), P)
  else (some (nI ((b_ P 1 0).length + x.toNatClampNeg)), pB (pB P 1 0 (b_ P 1 0 ++ (b_ P 20 0).take x.toNatClampNeg)) 20 0 (List.replicate 20 0))
def zrL (l : List Nat) (i : Nat) : List Nat := List.replicate i 0 ++ l.drop i
theorem zrL_set {l : List Nat} {i : Nat} (h : i < l.length) : (zrL l i).set i 0 = zrL l (i + 1) := by
  unfold zrL
  rw [List.set_append_right _ _ (by rw [List.length_replicate]; omega), List.length_replicate, Nat.sub_self, List.drop_eq_getElem_cons h, List.set_cons_zero, List.replicate_succ', List.append_assoc]
  rfl
theorem zrL_len {l : List Nat} {i : Nat} (h : i ≤ l.length) : (zrL l i).length = l.length := by
  unfold zrL; rw [List.length_append, List.length_replicate, List.length_drop]; omega
theorem c_end {x : Int32} (h : RC g P M) : sm_Run (D + 2) 3 0 (sm_ent 3 [.inr (some (g.1 0 0)), .inl x]) [] M (fun v M' => v = (p_end P x).1.map Sum.inl ∧ RC g (p_end P x).2 M') := by
  have l0 := rc_st h (c := 0) (i := 0) (by decide)
  have l1 : g.2.1 1 0 = true := rc_st h (by decide)
  have l20 := rc_st h (c := 20) (i := 0) (by decide)
  have hlen := rg_len h l1
  have c200 : capR 0 = 200 := rfl
  obtain ⟨h20, hA⟩ := r_20 h
  unfold p_end
  refine bb_3_0 ⟨fun q => ?_, fun q => ⟨fun q1 => ?_, fun q1 => ⟨rc_K h l0, _, rd_0_2 h, rc_K h l1, ru_mono (c_rspace h l1) ?_⟩⟩⟩
  · rw [if_pos (Or.inl q)]; exact ⟨rfl, h⟩
  · rw [if_pos (Or.inr (Or.inl q1))]; exact ⟨rfl, h⟩
  rintro v M1 ⟨rfl, hM⟩
  subst hM
  obtain ⟨n, hn, rfl⟩ := nI_of q
  have q1' := q1
  rw [li_20, nI_ltI (by decide) hn] at q1'
  rw [nI_clamp hn]
  refine bb_3_18 ⟨fun q2 => ?_, fun q2 => ?_⟩
  · rw [c200, nI_leI hn (by omega)] at q2
    rw [if_neg (by rintro (c | c | c); exact q c; exact q1 c; omega)]
    have z : ∀ (m i : Nat) (M : sm_M), i + m = 20 → RC g (pB (pB P 1 0 (b_ P 1 0 ++ (b_ P 20 0).take n)) 20 0 (zrL (b_ P 20 0) i)) M → sm_Run (D + 2) 3 51 [some (.inr (some (g.1 0 0))), some (.inl (nI n)), some (.inl (nI i))] [] M (fun v M' => v = (some (nI ((b_ P 1 0).length + n))).map Sum.inl ∧ RC g (pB (pB P 1 0 (b_ P 1 0 ++ (b_ P 20 0).take n)) 20 0 (List.replicate 20 0)) M') := by
      intro m
      induction m with
      | zero =>
        intro i M hi hh
        obtain rfl : i = 20 := by omega
        refine bb_3_51 ⟨fun _ => ⟨rc_K hh l0, _, rd_0_2 hh, rc_K hh l1, ?_, ?_⟩, fun q3 => absurd (by decide) q3⟩
        · rw [rg_cnt hh l1, b_B, if_neg (by omega), b_Bs, List.length_append, List.length_take, h20, Nat.min_eq_left (by omega)]; rfl
        · have e : zrL (b_ P 20 0) 20 = List.replicate 20 0 := by unfold zrL; rw [List.drop_eq_nil_of_le (by omega), List.append_nil]
          rw [e] at hh; exact hh
      | succ m ih =>
        intro i M hi hh
        have hA' := (r_20 hh).2
        rw [b_Bs] at hA'
        refine bb_3_51 ⟨fun q3 => ?_, fun _ => ⟨rc_K hh l0, _, rd_0_1 hh, rc_wA hh l20 (by decide), rc_in hh l20 (by decide) (show i < 20 by omega) (by decide), ?_⟩⟩
        · rw [li_20, nI_leI (by decide) (by omega)] at q3; omega
        · rw [nI_clamp (by omega), nI_1]
          have h2 := rc_row (c := 20) (i := 0) hh (Or.inl ⟨rfl, rfl, by rw [List.length_set, zrL_len (by omega)]; exact h20⟩) (ch_put rfl) (ar_set (j := i) (x := 0) hA')
          rw [pBB, zrL_set (by omega)] at h2
          exact ih (i + 1) _ (by omega) h2
    have a : ∀ (m i : Nat) (M : sm_M), i + m = n → RC g (pB P 1 0 (b_ P 1 0 ++ (b_ P 20 0).take i)) M → sm_Run (D + 2) 3 25 [some (.inr (some (g.1 0 0))), some (.inl (nI n)), some (.inl (nI i))] [] M (fun v M' => v = (some (nI ((b_ P 1 0).length + n))).map Sum.inl ∧ RC g (pB (pB P 1 0 (b_ P 1 0 ++ (b_ P 20 0).take n)) 20 0 (List.replicate 20 0)) M') := by
      intro m
      induction m with
      | zero =>
        intro i M hi hh
        obtain rfl : i = n := by omega
        refine bb_3_25 ⟨fun _ => z 20 0 M rfl ?_, fun q3 => absurd (nI_le (Nat.le_refl _) hn) q3⟩
        have e : zrL (b_ P 20 0) 0 = b_ (pB P 1 0 (b_ P 1 0 ++ (b_ P 20 0).take i)) 20 0 := by
          rw [b_B, if_neg (by omega)]; rfl
        rw [e, pBe]; exact hh
      | succ m ih =>
        intro i M hi hh
        have hA' := (r_20 hh).2
        rw [b_B, if_neg (by omega)] at hA'
        refine bb_3_25 ⟨fun q3 => ?_, fun _ => ⟨rc_K hh l0, _, rd_0_1 hh, rc_iA hh l20 (by decide), rc_in hh l20 (by decide) (show i < 20 by omega) (by decide), _, rd_0_2 hh, rc_K hh l1, ?_⟩⟩
        · rw [nI_leI hn (by omega)] at q3; omega
        · rw [nI_clamp (by omega), hA' i (by omega)]
          refine ru_mono (c_radd hh l1 ?_) ?_
          · rw [b_Bs, List.length_append, List.length_take, c200]; omega
          rintro v M2 ⟨rfl, h2⟩
          refine bb_3_43 ?_
          rw [nI_1]
          refine ih (i + 1) M2 (by omega) ?_
          rw [b_Bs, pBB, List.append_assoc, ← take_sN (by omega)] at h2
          exact h2
    exact a n 0 M (by omega) (by rw [List.take_zero, List.append_nil, pBe]; exact h)
  · rw [c200, nI_leI hn (by omega)] at q2
    rw [if_pos (Or.inr (Or.inr (by omega)))]
    exact ⟨rfl, h⟩
/-- Device.become, device -/
def p_become (P : pP) (d s v p : Nat) : pP := pB (pS (pS (pS (pS P 80 d s) 81 d v) 82 d p) 86 d 0) 28 d (List.replicate 64 0)
theorem c_become {d s v p : Nat} (h : RC g P M) (hd : d < 6) (hs : s < 2 ^ 31) (hv : v < 2 ^ 31) (hp : p < 2 ^ 31) : sm_Run D 60 0 (sm_ent 60 [.inr (some (g.1 4 d)), .inl (nI s), .inl (nI v), .inl (nI p)]) [] M (fun r M' => r = none ∧ RC g (p_become P d s v p) M') := by
  obtain ⟨l4, l3, l8, l7, l26, l28, l29, l35, l67⟩ := lq_s h hd
  have h1 : RC g (pS (pS (pS (pS P 80 d s) 81 d v) 82 d p) 86 d 0) (sm_putI (sm_putI (sm_putI (sm_putI M (g.1 4 d) 0 (nI s)) (g.1 4 d) 1 (nI v)) (g.1 4 d) 2 (nI p)) (g.1 4 d) 6 0) := rc_w86 (rc_w' (rc_w' (rc_w' h l4 hs) l4 hv) l4 hp) hd (by decide) (fun k hk => absurd hk (Nat.not_lt_zero _)) rfl
  have h64 := (ar_28 h hd).1
  have e28 : b_ (pS (pS (pS (pS P 80 d s) 81 d v) 82 d p) 86 d 0) 28 d = b_ P 28 d := rfl
  refine bb_60_0 ⟨rc_K h l4, ?_⟩
  generalize hQ : pS (pS (pS (pS P 80 d s) 81 d v) 82 d p) 86 d 0 = Q at h1 e28
  have key : ∀ (m i : Nat) (M : sm_M), i + m = 64 → RC g (pB Q 28 d (zrL (b_ P 28 d) i)) M → sm_Run D 60 23 [some (.inr (some (g.1 4 d))), some (.inl (nI s)), some (.inl (nI v)), some (.inl (nI p)), some (.inl (nI i))] [] M (fun r M' => r = none ∧ RC g (p_become P d s v p) M') := by
    intro m
    induction m with
    | zero =>
      intro i M hi hh
      obtain rfl : i = 64 := by omega
      refine bb_60_23 ⟨rc_K hh l4, _, rd_4_7 hh hd, rc_aK hh l28 (by decide), fun _ => ⟨rfl, ?_⟩, fun q => ?_⟩
      · have e : zrL (b_ P 28 d) 64 = List.replicate 64 0 := by unfold zrL; rw [← h64, List.drop_length, List.append_nil]
        unfold p_become
        rw [e] at hh; rw [hQ]; exact hh
      · rw [kL_28 hh l28] at q
        exact absurd (by decide) q
    | succ m ih =>
      intro i M hi hh
      have hA := (ar_28 hh hd).2
      rw [b_Bs] at hA
      refine bb_60_23 ⟨rc_K hh l4, _, rd_4_7 hh hd, rc_aK hh l28 (by decide), fun q => ?_, fun _ => ⟨_, rd_4_7 hh hd, rc_wA hh l28 (by decide), rc_in hh l28 (by decide) (show i < 64 by omega) (by decide), ?_⟩⟩
      · rw [kL_28 hh l28, oN, nI_leI (by decide) (by omega)] at q; omega
      · rw [nI_clamp (by omega), nI_1]
        have h2 := rc_row (c := 28) (i := d) hh (Or.inr (Or.inl ⟨rfl, hd, by rw [List.length_set, zrL_len (by omega)]; exact h64⟩)) (ch_put rfl) (ar_set (j := i) (x := 0) hA)
        rw [pBB, zrL_set (by omega)] at h2
        exact ih (i + 1) _ (by omega) h2
  refine key 64 0 _ rfl ?_
  have e : zrL (b_ P 28 d) 0 = b_ Q 28 d := by rw [e28]; rfl
  rw [e, pBe]
  exact h1
abbrev isBkI (x : Int32) : Prop := x = 8 ∨ x = 16 ∨ x = 32 ∨ x = 64
theorem c_isBkI {x : Int32} : sm_Run D 22 0 (sm_ent 22 [.inl x]) [] M (fun v M' => v = some (.inl (bI (decide (isBkI x)))) ∧ M = M') := by
  refine bb_22_0 ⟨fun q => ⟨?_, rfl⟩, fun q => ⟨fun q1 => ⟨?_, rfl⟩, fun q1 => ⟨fun q2 => ⟨?_, rfl⟩, fun q2 => ⟨fun q3 => ⟨?_, rfl⟩, fun q3 => ⟨?_, rfl⟩⟩⟩⟩⟩
  · rw [decide_eq_true (show isBkI x from Or.inl q)]; rfl
  · rw [decide_eq_true (show isBkI x from Or.inr (Or.inl q1))]; rfl
  · rw [decide_eq_true (show isBkI x from Or.inr (Or.inr (Or.inl q2)))]; rfl
  · rw [decide_eq_false (by rintro (c | c | c | c); exact q c; exact q1 c; exact q2 c; exact q3 c)]; rfl
  · rw [decide_eq_true (show isBkI x from Or.inr (Or.inr (Or.inr (Decidable.not_not.mp q3))))]; rfl
theorem bkI_nI {x : Int32} (h : isBkI x) : x = nI x.toNatClampNeg ∧ x.toNatClampNeg < 65 ∧ isBk x.toNatClampNeg := by
  rcases h with rfl | rfl | rfl | rfl <;> exact ⟨rfl, by decide, by decide⟩
def n16 (x : Int32) : Nat := x.toBitVec.toNat % 65536
theorem n16_and (x : Int32) : x &&& 65535 = nI (n16 x) := pk_and x 16 (by decide)
theorem n16_lt (x : Int32) : n16 x < 65536 := Nat.mod_lt _ (by decide)
def p_device (P : pP) (x1 x2 x3 x4 : Int32) : Option Int32 × pP := match devN x1 with
  | none => (some 0, P)
  | some d => if s_ P 83 d ≠ 0 ∨ ¬ isBkI x2 then (some 0, P) else (some 1, p_become P d x2.toNatClampNeg (n16 x3) (n16 x4))
theorem c_device {x1 x2 x3 x4 : Int32} (h : RC g P M) : sm_Run (D + 1) 4 0 (sm_ent 4 [.inr (some (g.1 0 0)), .inl x1, .inl x2, .inl x3, .inl x4]) [] M (fun v M' => v = (p_device P x1 x2 x3 x4).1.map Sum.inl ∧ RC g (p_device P x1 x2 x3 x4).2 M') := by
  have l0 := rc_st h (c := 0) (i := 0) (by decide)
  have l11 := rc_st h (c := 11) (i := 0) (by decide)
  have l25 := rc_st h (c := 25) (i := 0) (by decide)
  refine bb_4_0 (ru_mono c_isDev ?_)
  rintro r M1 ⟨rfl, hM⟩
  subst hM
  unfold p_device
  cases hdv : devN x1 with
  | none => exact bb_4_4 ⟨fun _ => ⟨rfl, h⟩, fun q => absurd rfl q⟩
  | some d =>
    obtain ⟨rfl, hd⟩ := devN_some hdv
    have l4 := (lq_s h hd).1
    have hin : sm_in_ M (g.1 25 0) (nI d) := rc_in h l25 (by decide) (show d < 6 from hd) (by decide)
    have r25 : sm_R M (g.1 25 0) (nI d).toNatClampNeg = some (g.1 4 d) := by rw [nI_clamp (by omega)]; exact rd_25_i h hd
    dsimp only
    refine bb_4_4 ⟨fun q => absurd q (show ¬ bI true = 0 by decide), fun _ => ⟨rc_K h l0, _, rd_0_3 h, rc_K h l11, _, rd_11_3 h, ⟨4, rc_K h l25⟩, hin, _, r25, rc_K h l4, fun q => ?_, fun q => ru_mono c_isBkI ?_⟩⟩
    · rw [rI_83 h hd, li_0, nI_eq (rc_B h _ _) (by decide)] at q
      rw [if_pos (Or.inl q)]
      exact ⟨rfl, h⟩
    · rw [rI_83 h hd, li_0, Decidable.not_not, nI_eq (rc_B h _ _) (by decide)] at q
      rintro r M1 ⟨rfl, hM⟩
      subst hM
      refine bb_4_26 ⟨fun q1 => ⟨rc_K h l0, _, rd_0_3 h, rc_K h l11, _, rd_11_3 h, ⟨4, rc_K h l25⟩, hin, _, r25, rc_K h l4, ?_⟩, fun q1 => ?_⟩
      · rw [bI_t, Decidable.not_not] at q1
        obtain ⟨e1, e2, e3⟩ := bkI_nI q1
        rw [if_neg (by rintro (c | c); exact c q; exact c q1), n16_and, n16_and]
        conv => arg 4; rw [e1]
        have a3 := n16_lt x3
        have a4 := n16_lt x4
        refine ru_mono (c_become h hd (by omega) (by omega) (by omega)) ?_
        rintro r M2 ⟨rfl, h2⟩
        exact bb_4_53 ⟨rfl, h2⟩
      · rw [Decidable.not_not, bI_t] at q1
        rw [if_pos (Or.inr q1)]
        exact ⟨rfl, h⟩
/-- attach, detach -/
def p_attach (P : pP) (x1 : Int32) : Option Int32 × pP := match devN x1 with
  | none => (some 0, P)
  | some d => if s_ P 83 d ≠ 0 ∨ p_hasDef P = true ∨ 290 ≤ s_ P 122 0 then (some 0, P) else (some 1, p_bfind (p_arrive P d) d)
theorem arrive_s {d f i : Nat} (hf : f ≠ 103 ∧ f ≠ 104 ∧ f ≠ 105 ∧ f ≠ 83 ∧ f ≠ 84 ∧ f ≠ 89 ∧ f ≠ 91 ∧ f ≠ 60) : s_ (p_arrive P d) f i = s_ P f i := by
  unfold p_arrive p_arr0
  rw [s_arrL ⟨hf.1, hf.2.1, hf.2.2.1⟩, s_S, if_neg (by omega), s_S, if_neg (by omega), s_S, if_neg (by omega), s_S, if_neg (by omega), s_S, if_neg (by omega)]
theorem c_attach {n0 u0 : Nat} {x1 : Int32} (h : RC g P M) (hg : gO n0 u0 g P) (hw : s_ P 123 0 + 1 < 2 ^ 31) : sm_Run (D + 5) 6 0 (sm_ent 6 [.inr (some (g.1 0 0)), .inl x1]) [] M (fun v M' => v = (p_attach P x1).1.map Sum.inl ∧ ∃ g', gx g g' ∧ gO n0 u0 g' (p_attach P x1).2 ∧ RC g' (p_attach P x1).2 M') := by
  have l0 := rc_st h (c := 0) (i := 0) (by decide)
  have l11 := rc_st h (c := 11) (i := 0) (by decide)
  have l6 := rc_st h (c := 6) (i := 0) (by decide)
  have l25 := rc_st h (c := 25) (i := 0) (by decide)
  refine bb_6_0 (ru_mono c_isDev ?_)
  rintro r M1 ⟨rfl, hM⟩
  subst hM
  unfold p_attach
  cases hdv : devN x1 with
  | none => exact bb_6_4 ⟨fun _ => ⟨rfl, g, gx_rf, hg, h⟩, fun q => absurd rfl q⟩
  | some d =>
    obtain ⟨rfl, hd⟩ := devN_some hdv
    have l4 := (lq_s h hd).1
    have b2 := rc_B h 122 0
    have hin : sm_in_ M (g.1 25 0) (nI d) := rc_in h l25 (by decide) (show d < 6 from hd) (by decide)
    have r25 : sm_R M (g.1 25 0) (nI d).toNatClampNeg = some (g.1 4 d) := by rw [nI_clamp (by omega)]; exact rd_25_i h hd
    dsimp only
    refine bb_6_4 ⟨fun q => absurd q (show ¬ bI true = 0 by decide), fun _ => ⟨rc_K h l0, _, rd_0_3 h, rc_K h l11, _, rd_11_3 h, ⟨4, rc_K h l25⟩, hin, _, r25, rc_K h l4, fun q => ?_, fun q => ⟨_, rd_0_3 h, rc_K h l11, ru_mono (c_hasDef h) ?_⟩⟩⟩
    · rw [rI_83 h hd, li_0, nI_eq (rc_B h _ _) (by decide)] at q
      rw [if_pos (Or.inl q)]
      exact ⟨rfl, g, gx_rf, hg, h⟩
    rw [rI_83 h hd, li_0, Decidable.not_not, nI_eq (rc_B h _ _) (by decide)] at q
    rintro r M1 ⟨rfl, hM⟩
    subst hM
    refine bb_6_29 ⟨fun q1 => ?_, fun q1 => ⟨rc_K h l0, _, rd_0_4 h, rc_K h l6, ?_⟩⟩
    · rw [bI_0, Bool.not_eq_false] at q1
      rw [if_pos (Or.inr (Or.inl q1))]
      exact ⟨rfl, g, gx_rf, hg, h⟩
    rw [Decidable.not_not, bI_0] at q1
    have hmay : sm_Run (D + 4) 85 0 (sm_ent 85 [.inr (some (g.1 6 0))]) [] M (fun v M' => v = some (.inl (bI (decide (s_ P 122 0 < 290)))) ∧ M = M') := by
      refine bb_85_0 ⟨rc_K h l6, fun q2 => ⟨?_, rfl⟩, fun q2 => ⟨?_, rfl⟩⟩
      · rw [rI_122 h, li_290, nI_leI (by decide) b2] at q2
        rw [decide_eq_false (by omega)]; rfl
      · rw [rI_122 h, li_290, nI_leI (by decide) b2] at q2
        rw [decide_eq_true (by omega)]; rfl
    refine ru_mono hmay ?_
    rintro r M1 ⟨rfl, hM⟩
    subst hM
    refine bb_6_39 ⟨fun q2 => ⟨rc_K h l0, _, rd_0_3 h, rc_K h l11, _, rd_11_3 h, ⟨4, rc_K h l25⟩, hin, _, r25, rc_K h l4, ru_mono (c_arrive (D := D + 3) h hd) ?_⟩, fun q2 => ?_⟩
    · rw [bI_t, Decidable.not_not] at q2
      rw [if_neg (by rintro (c | c | c); exact c q; rw [q1] at c; cases c; omega)]
      rintro r M2 ⟨rfl, h2⟩
      refine bb_6_56 ⟨rc_K h2 l0, _, rd_0_4 h2, rc_K h2 l6, ru_mono (c_bfind (D := D) h2 (gO_eq hg (arrive_s (by decide)) (arrive_s (by decide))) hd (by rw [arrive_s (by decide)]; omega) (by rw [arrive_s (by decide)]; exact hw)) ?_⟩
      rintro r M3 ⟨rfl, h3⟩
      exact bb_6_64 ⟨rfl, h3⟩
    · rw [Decidable.not_not, bI_t] at q2
      rw [if_pos (Or.inr (Or.inr (by omega)))]
      exact ⟨rfl, g, gx_rf, hg, h⟩
def p_detach (P : pP) (x1 : Int32) : Option Int32 × pP := match devN x1 with
  | none => (some 0, P)
  | some d => if s_ P 83 d = 0 then (some 0, P) else (some 1, p_forget (p_leave P d) d)
theorem c_detach {x1 : Int32} (h : RC g P M) (hW : ∀ d, d < 6 → ∀ n, n < s_ (p_leave P d) 122 0 → s_ (p_fg (p_prst (p_leave P d) d 0) d n) 200 n = d → s_ (p_fg (p_prst (p_leave P d) d 0) d n) 211 n = 0 → 1 ≤ s_ (p_fg (p_prst (p_leave P d) d 0) d n) 123 0) : sm_Run (D + 2) 7 0 (sm_ent 7 [.inr (some (g.1 0 0)), .inl x1]) [] M (fun v M' => v = (p_detach P x1).1.map Sum.inl ∧ RC g (p_detach P x1).2 M') := by
  have l0 := rc_st h (c := 0) (i := 0) (by decide)
  have l11 := rc_st h (c := 11) (i := 0) (by decide)
  have l6 := rc_st h (c := 6) (i := 0) (by decide)
  have l25 := rc_st h (c := 25) (i := 0) (by decide)
  refine bb_7_0 (ru_mono c_isDev ?_)
  rintro r M1 ⟨rfl, hM⟩
  subst hM
  unfold p_detach
  cases hdv : devN x1 with
  | none => exact bb_7_4 ⟨fun _ => ⟨rfl, h⟩, fun q => absurd rfl q⟩
  | some d =>
    obtain ⟨rfl, hd⟩ := devN_some hdv
    have l4 := (lq_s h hd).1
    have hin : sm_in_ M (g.1 25 0) (nI d) := rc_in h l25 (by decide) (show d < 6 from hd) (by decide)
    have r25 : sm_R M (g.1 25 0) (nI d).toNatClampNeg = some (g.1 4 d) := by rw [nI_clamp (by omega)]; exact rd_25_i h hd
    dsimp only
    refine bb_7_4 ⟨fun q => absurd q (show ¬ bI true = 0 by decide), fun _ => ⟨rc_K h l0, _, rd_0_3 h, rc_K h l11, _, rd_11_3 h, ⟨4, rc_K h l25⟩, hin, _, r25, rc_K h l4, fun q => ⟨_, rd_0_3 h, rc_K h l11, _, rd_11_3 h, ⟨4, rc_K h l25⟩, hin, _, r25, rc_K h l4, ru_mono (c_leave h hd) ?_⟩, fun q => ?_⟩⟩
    · rw [rI_83 h hd, li_0, nI_eq (rc_B h _ _) (by decide)] at q
      rintro r M2 ⟨rfl, h2⟩
      rw [if_neg q]
      refine bb_7_36 ⟨rc_K h2 l0, _, rd_0_4 h2, rc_K h2 l6, ru_mono (c_forget h2 hd (hW d hd)) ?_⟩
      rintro r M3 ⟨rfl, h3⟩
      exact bb_7_44 ⟨rfl, h3⟩
    · rw [rI_83 h hd, li_0, Decidable.not_not, nI_eq (rc_B h _ _) (by decide)] at q
      rw [if_pos q]
      exact ⟨rfl, h⟩
end FE
