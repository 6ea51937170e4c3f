/-! Device.tell; ControlPoint.begin -/
section BG
variable {g : pG} {P : pP} {M : sm_M} {D : Nat}
def p_tell (P : pP) (d w v ix : Nat) : Option (List Nat) :=
  if w = 32768 then some [0, 0]
  else if w = 33280 then (match p_find P d ix with
    | none => if ix = 0 ∨ ix = 128 then some [0, 0] else none
    | some k => some [if s_ P 104 (6 * d + k) = 0 then 0 else 1, 0])
  else if w = 32774 then (if v = 256 then some (p_desc P d) else if v = 512 then some (p_conf P d) else none)
  else if w = 32776 then some [if s_ P 83 d = 3 then 1 else 0]
  else if w = 49153 then (if v ≤ 64 then some ((b_ P 28 d).drop v) else none)
  else none
def p_tlI (o : Option (List Nat)) : Int32 := match o with
  | none => -1
  | some l => nI l.length
def p_tlP (P : pP) (d : Nat) (o : Option (List Nat)) : pP := match o with
  | none => P
  | some l => pB P 29 d l
theorem r1_29 {d x : Nat} {v : Int32} (h : RC g P M) (hd : d < 6) (hv : v = nI x) : RC g (pB P 29 d [x]) (sm_putI M (g.1 29 d) (0 : Int32).toNatClampNeg v) := ra_29 (l := []) (jj := 0) (rn_29 h hd) hd rfl hv (by decide)
theorem r2_29 {d x y : Nat} {v w : Int32} (h : RC g P M) (hd : d < 6) (hv : v = nI x) (hw : w = nI y) : RC g (pB P 29 d [x, y]) (sm_putI (sm_putI M (g.1 29 d) (0 : Int32).toNatClampNeg v) (g.1 29 d) (1 : Int32).toNatClampNeg w) := ra_29 (l := [x]) (jj := 1) (r1_29 h hd hv) hd rfl hw (show 1 < 64 by decide)
theorem c_tellHalted {d ix : Nat} (h : RC g P M) (hd : d < 6) (hix : ix < 2 ^ 31) {o : Option (List Nat)} (ho : o = match p_find P d ix with
    | none => if ix = 0 ∨ ix = 128 then some [0, 0] else none
    | some k => some [if s_ P 104 (6 * d + k) = 0 then 0 else 1, 0]) : sm_Run (D + 1) 72 0 (sm_ent 72 [.inr (some (g.1 4 d)), .inl (nI ix), .inr (some (g.1 29 d))]) [] M (fun v' M' => v' = some (.inl (p_tlI o)) ∧ RC g (p_tlP P d o) M') := by
  obtain ⟨l4, l3, l8, l7, l26, l28, l29, l35, l67⟩ := lq_s h hd
  have w0 : sm_wA 0 M (g.1 29 d) := rc_wA h l29 (by decide)
  have in0 : sm_in_ M (g.1 29 d) 0 := rc_in h l29 (by decide) (show 0 < 64 by decide) (by decide)
  have in1 : sm_in_ M (g.1 29 d) 1 := rc_in h l29 (by decide) (show 1 < 64 by decide) (by decide)
  refine bb_72_0 ⟨rc_K h l4, ru_mono (c_find h hd hix) ?_⟩
  rintro v M1 ⟨rfl, rfl⟩
  subst ho
  have none_ : p_find P d ix = none → (ix = 0 ∨ ix = 128) → sm_Run (D + 1) 72 23 [some (.inr (some (g.1 4 d))), some (.inl (nI ix)), some (.inr (some (g.1 29 d))), some (.inr none)] [] M (fun v' M' => v' = some (.inl (p_tlI (some [0, 0]))) ∧ RC g (p_tlP P d (some [0, 0])) M') := by
    intro _ _
    exact bb_72_23 ⟨fun _ => ⟨_, rfl, w0, in0, in1, rfl, r2_29 h hd rfl rfl⟩, fun b hb => by cases hb⟩
  cases hf : p_find P d ix with
  | none =>
    refine bb_72_5 ⟨fun _ => ⟨fun q => ?_, fun q => ⟨fun q1 => ?_, fun q1 => ?_⟩⟩, fun b hb => by cases hb⟩
    · rw [show (0 : Int32) = nI 0 from rfl, nI_eq hix (by decide)] at q
      rw [if_pos (Or.inl q)]
      exact none_ hf (Or.inl q)
    · rw [show (128 : Int32) = nI 128 from rfl, nI_eq hix (by decide)] at q1
      rw [if_pos (Or.inr q1)]
      exact none_ hf (Or.inr q1)
    · rw [show (0 : Int32) = nI 0 from rfl, nI_eq hix (by decide)] at q
      rw [show (128 : Int32) = nI 128 from rfl, nI_eq hix (by decide)] at q1
      rw [if_neg (by omega)]
      exact ⟨rfl, h⟩
  | some k =>
    have l5 := lq_5 h hd (find_lt hf).1
    have e4 := rI_104 h l5
    refine bb_72_5 ⟨(fun hb => by cases hb), fun b hb => ?_⟩
    obtain rfl : g.1 5 (6 * d + k) = b := Option.some.inj hb
    refine bb_72_23 ⟨(fun hb => by cases hb), fun b hb => ?_⟩
    obtain rfl : g.1 5 (6 * d + k) = b := Option.some.inj hb
    refine ⟨rc_K h l5, fun q => ⟨_, rfl, w0, in0, in1, rfl, ?_⟩, fun q => ⟨_, rfl, w0, in0, in1, rfl, ?_⟩⟩
    · rw [e4, show (0 : Int32) = nI 0 from rfl, nI_eq (rc_B h _ _) (by decide)] at q
      dsimp only
      rw [if_pos q]
      exact r2_29 h hd rfl rfl
    · rw [e4, show (0 : Int32) = nI 0 from rfl, nI_eq (rc_B h _ _) (by decide)] at q
      dsimp only
      rw [if_neg q]
      exact r2_29 h hd rfl rfl
theorem c_tellScratch {d v : Nat} (h : RC g P M) (hd : d < 6) (hv : v < 2 ^ 31) {o : Option (List Nat)} (ho : o = if v ≤ 64 then some ((b_ P 28 d).drop v) else none) : sm_Run (D + 1) 73 0 (sm_ent 73 [.inr (some (g.1 4 d)), .inl (nI v), .inr (some (g.1 29 d))]) [] M (fun v' M' => v' = some (.inl (p_tlI o)) ∧ RC g (p_tlP P d o) M') := by
  obtain ⟨l4, l3, l8, l7, l26, l28, l29, l35, l67⟩ := lq_s h hd
  have L28 : sm_L M (g.1 28 d) = 64 := kL_28 h l28
  have L29 : sm_L M (g.1 29 d) = 64 := kL_29 h l29
  obtain ⟨a1, a2⟩ := ar_28 h hd
  subst ho
  refine bb_73_0 ⟨rc_K h l4, _, rd_4_7 h hd, rc_aK h l28 (by decide), fun q => ⟨_, rd_4_7 h hd, rc_aK h l28 (by decide), _, rfl, _, rd_4_7 h hd, rc_iA h l28 (by decide), rc_wA h l29 (by decide), ?_, ?_, ?_, ?_⟩, fun q => ?_⟩
  · rw [L28, show Int32.ofNat 64 = nI 64 from rfl, nI_leI hv (by decide)] at q
    rw [L28, show Int32.ofNat 64 = nI 64 from rfl, pk_sub q, nI_toInt hv, nI_toInt (by omega)]
    exact ⟨by omega, by decide, by omega⟩
  · rw [L28, show Int32.ofNat 64 = nI 64 from rfl, nI_leI hv (by decide)] at q
    rw [L28, L29, show Int32.ofNat 64 = nI 64 from rfl, pk_sub q, nI_toInt hv, nI_toInt (by omega)]
    refine ⟨by omega, ?_⟩
    show (0 : Int) + _ ≤ _
    omega
  · rw [L28, show Int32.ofNat 64 = nI 64 from rfl, nI_leI hv (by decide)] at q
    rw [L28, show Int32.ofNat 64 = nI 64 from rfl, pk_sub q, if_pos q]
    show some (Sum.inl (nI (64 - v))) = some (Sum.inl (nI ((b_ P 28 d).drop v).length))
    rw [List.length_drop, a1]
  · rw [L28, show Int32.ofNat 64 = nI 64 from rfl, nI_leI hv (by decide)] at q
    rw [L28, show Int32.ofNat 64 = nI 64 from rfl, pk_sub q, if_pos q, nI_clamp hv, nI_clamp (by omega), show (0 : Int32).toNatClampNeg = 0 from rfl]
    have := rp_29 (f := sm_I M (g.1 28 d)) (s := v) (n := 64 - v) (m := (b_ P 28 d).drop v) (cp := va_cpy (sm_I M (g.1 28 d)) (sm_I M (g.1 29 d)) v 0 (64 - v)) (rn_29 h hd) hd rfl (by rw [List.length_drop, a1]) (fun j hj => by rw [getD_dropN]; exact a2 _ (by omega)) (by show 0 + (64 - v) ≤ 64; omega)
    rw [List.nil_append] at this
    exact this
  · rw [L28, show Int32.ofNat 64 = nI 64 from rfl, nI_leI hv (by decide)] at q
    rw [if_neg q]
    exact ⟨rfl, h⟩
theorem c_tell {d w v ix : Nat} (h : RC g P M) (hd : d < 6) (hw : w < 2 ^ 31) (hv : v < 2 ^ 31) (hix : ix < 2 ^ 31) : sm_Run (D + 2) 71 0 (sm_ent 71 [.inr (some (g.1 4 d)), .inl (nI w), .inl (nI v), .inl (nI ix), .inr (some (g.1 29 d))]) [] M (fun v' M' => v' = some (.inl (p_tlI (p_tell P d w v ix))) ∧ RC g (p_tlP P d (p_tell P d w v ix)) M') := by
  obtain ⟨l4, l3, l8, l7, l26, l28, l29, l35, l67⟩ := lq_s h hd
  have w0 : sm_wA 0 M (g.1 29 d) := rc_wA h l29 (by decide)
  have in0 : sm_in_ M (g.1 29 d) 0 := rc_in h l29 (by decide) (show 0 < 64 by decide) (by decide)
  have in1 : sm_in_ M (g.1 29 d) 1 := rc_in h l29 (by decide) (show 1 < 64 by decide) (by decide)
  have L29 : sm_L M (g.1 29 d) = 64 := kL_29 h l29
  have e83 := rI_83 h hd
  have b83 := rc_B h 83 d
  refine bb_71_0 ⟨_, rfl, rc_aK h l29 (by decide), fun _ => ⟨fun q => ?_, fun q => ⟨fun q1 => ⟨fun q2 => ?_, fun q2 => ⟨rc_K h l4, ?_⟩⟩, fun q1 => ⟨rc_K h l4, ?_⟩⟩, fun q => ⟨rc_K h l4, fun q1 => ⟨w0, in0, ?_⟩, fun q1 => ⟨w0, in0, ?_⟩⟩, fun q => ⟨rc_K h l4, ?_⟩, fun q => ⟨rc_K h l4, ?_⟩, fun q1 q2 q3 q4 q5 => ?_⟩, fun q => ?_⟩
  · rw [li_32768, nI_eq hw (by decide)] at q
    have e : p_tell P d w v ix = some [0, 0] := by unfold p_tell; rw [if_pos q]
    rw [e]
    exact ⟨w0, in0, in1, rfl, r2_29 h hd rfl rfl⟩
  · rw [li_32774, nI_eq hw (by decide)] at q
    rw [li_256, nI_eq hv (by decide)] at q1
    rw [li_512, nI_eq hv (by decide)] at q2
    have e : p_tell P d w v ix = none := by unfold p_tell; rw [if_neg (by omega), if_neg (by omega), if_pos q, if_neg q1, if_neg q2]
    rw [e]
    exact ⟨rfl, h⟩
  · rw [li_32774, nI_eq hw (by decide)] at q
    rw [li_256, nI_eq hv (by decide)] at q1
    rw [li_512, Decidable.not_not, nI_eq hv (by decide)] at q2
    have e : p_tell P d w v ix = some (p_conf P d) := by unfold p_tell; rw [if_neg (by omega), if_neg (by omega), if_pos q, if_neg q1, if_pos q2]
    rw [e]
    refine ru_mono (c_conf h hd) ?_
    rintro v' M1 ⟨rfl, h1⟩
    exact bb_71_109 ⟨rfl, h1⟩
  · rw [li_32774, nI_eq hw (by decide)] at q
    rw [li_256, Decidable.not_not, nI_eq hv (by decide)] at q1
    have e : p_tell P d w v ix = some (p_desc P d) := by unfold p_tell; rw [if_neg (by omega), if_neg (by omega), if_pos q, if_pos q1]
    rw [e]
    refine ru_mono (c_describe h hd) ?_
    rintro v' M1 ⟨rfl, h1⟩
    exact bb_71_93 ⟨rfl, h1⟩
  · rw [li_32776, nI_eq hw (by decide)] at q
    rw [e83, li_3, nI_eq b83 (by decide)] at q1
    have e : p_tell P d w v ix = some [0] := by unfold p_tell; rw [if_neg (by omega), if_neg (by omega), if_neg (by omega), if_pos q, if_neg q1]
    rw [e]
    exact ⟨rfl, r1_29 h hd rfl⟩
  · rw [li_32776, nI_eq hw (by decide)] at q
    rw [e83, li_3, Decidable.not_not, nI_eq b83 (by decide)] at q1
    have e : p_tell P d w v ix = some [1] := by unfold p_tell; rw [if_neg (by omega), if_neg (by omega), if_neg (by omega), if_pos q, if_pos q1]
    rw [e]
    exact ⟨rfl, r1_29 h hd rfl⟩
  · rw [li_33280, nI_eq hw (by decide)] at q
    refine ru_mono (c_tellHalted h hd hix (o := p_tell P d w v ix) (by unfold p_tell; rw [if_neg (by omega), if_pos q])) ?_
    rintro v' M1 ⟨rfl, h1⟩
    exact bb_71_79 ⟨rfl, h1⟩
  · rw [li_49153, nI_eq hw (by decide)] at q
    refine ru_mono (c_tellScratch h hd hv (o := p_tell P d w v ix) (by unfold p_tell; rw [if_neg (by omega), if_neg (by omega), if_neg (by omega), if_neg (by omega), if_pos q])) ?_
    rintro v' M1 ⟨rfl, h1⟩
    exact bb_71_140 ⟨rfl, h1⟩
  · rw [li_32768, nI_eq hw (by decide)] at q1
    rw [li_32774, nI_eq hw (by decide)] at q2
    rw [li_32776, nI_eq hw (by decide)] at q3
    rw [li_33280, nI_eq hw (by decide)] at q4
    rw [li_49153, nI_eq hw (by decide)] at q5
    have e : p_tell P d w v ix = none := by unfold p_tell; rw [if_neg q1, if_neg q4, if_neg q2, if_neg q3, if_neg q5]
    rw [e]
    exact ⟨rfl, h⟩
  · rw [L29] at q
    exact absurd (by decide) q
/-- ControlPoint.beginFromHost -/
def p_bfh (P : pP) (d w ix : Nat) : pP × Nat :=
  if w = 16385 then (P, if 64 < s_ P 66 d + s_ P 65 d then 1 else if s_ P 65 d = 0 then 5 else 4)
  else if s_ P 65 d ≠ 0 then (P, 1)
  else if w = 5 then (if s_ P 66 d < 1 ∨ 127 < s_ P 66 d then (P, 1) else (pS P 67 d (s_ P 66 d), 5))
  else ((p_obey P d w (s_ P 66 d) ix).1, if (p_obey P d w (s_ P 66 d) ix).2 = 0 then 1 else 5)
theorem obey_01 (P : pP) (d w v ix : Nat) : (p_obey P d w v ix).2 ≤ 1 := by
  unfold p_obey
  repeat' split
  all_goals first | exact Nat.le_refl _ | exact Nat.zero_le _
theorem c_bfh {d w ix : Nat} (h : RC g P M) (hd : d < 6) (hw : w < 2 ^ 31) (hix : ix < 2 ^ 31) (h1 : s_ P 66 d < 65536) (h2 : s_ P 65 d < 65536) : sm_Run (D + 2) 54 0 (sm_ent 54 [.inr (some (g.1 3 d)), .inr (some (g.1 4 d)), .inl (nI w), .inl (nI ix)]) [] M (fun v' M' => v' = some (.inl (nI (p_bfh P d w ix).2)) ∧ RC g (p_bfh P d w ix).1 M') := by
  obtain ⟨l4, l3, l8, l7, l26, l28, l29, l35, l67⟩ := lq_s h hd
  refine bb_54_0 ?_
  simp (disch := first | assumption | exact rc_B (by assumption) _ _ | omega | decide) only [kK_3 h, kK_4 h, rI_65 h, rI_66 h, li_0, li_1, li_4, li_5, li_64, li_127, li_16385, nI_add, nI_eq, nI_leI, nI_ltI, Decidable.not_not, Option.some.injEq, exists_eq_left', true_and]
  refine ⟨fun q => ⟨fun q1 => ⟨fun q2 => ru_mono (c_obey h hd hw (by omega) hix) ?_, fun q2 => ⟨fun q3 => ?_, fun q3 => ⟨fun q4 => ?_, fun q4 => ?_⟩⟩⟩, fun q1 => ?_⟩, fun q => ⟨fun q1 => ⟨fun q2 => ?_, fun q2 => ?_⟩, fun q1 => ?_⟩⟩
  · rintro v' M1 ⟨rfl, h3⟩
    have o1 := obey_01 P d w (s_ P 66 d) ix
    unfold p_bfh
    rw [if_neg q, if_neg (by omega), if_neg q2]
    refine bb_54_89 ⟨fun q3 => ?_, fun q3 => ?_⟩
    · rw [li_0, nI_eq (by omega) (by decide)] at q3
      dsimp only
      rw [if_pos q3]
      exact ⟨rfl, h3⟩
    · rw [li_0, nI_eq (by omega) (by decide)] at q3
      dsimp only
      rw [if_neg q3]
      exact ⟨rfl, h3⟩
  · unfold p_bfh
    rw [if_neg q, if_neg (by omega), if_pos q2, if_pos (Or.inl q3)]
    exact ⟨rfl, h⟩
  · unfold p_bfh
    rw [if_neg q, if_neg (by omega), if_pos q2, if_neg (by omega)]
    exact ⟨rfl, rc_w' h l3 (rc_B h _ _)⟩
  · unfold p_bfh
    rw [if_neg q, if_neg (by omega), if_pos q2, if_pos (Or.inr (by omega))]
    exact ⟨rfl, h⟩
  · unfold p_bfh
    rw [if_neg q, if_pos q1]
    exact ⟨rfl, h⟩
  · unfold p_bfh
    rw [if_pos q]
    dsimp only
    rw [if_neg (by omega), if_neg q2]
    exact ⟨rfl, h⟩
  · unfold p_bfh
    rw [if_pos q]
    dsimp only
    rw [if_neg (by omega), if_pos q2]
    exact ⟨rfl, h⟩
  · unfold p_bfh
    rw [if_pos q]
    dsimp only
    rw [if_pos (by omega)]
    exact ⟨rfl, h⟩
/-- ControlPoint.begin -/
def l16 (l : List Nat) (i : Nat) : Nat := l.getD i 0 + 256 * l.getD (i + 1) 0
def lwh (l : List Nat) : Nat := l.getD 0 0 * 256 + l.getD 1 0
def p_zB1 (P : pP) (d : Nat) (l : List Nat) : pP := pS (pS (pS (pS (pS (pS P 66 d (l16 l 2)) 65 d (l16 l 6)) 61 d 1) 64 d 0) 67 d 0) 69 d 0
def p_zBeg (P : pP) (d : Nat) (l : List Nat) : pP :=
  if lwh l < 32768 then pS (p_bfh (pB (p_zB1 P d l) 29 d []) d (lwh l) (l16 l 4)).1 60 d (p_bfh (pB (p_zB1 P d l) 29 d []) d (lwh l) (l16 l 4)).2
  else match p_tell (p_zB1 P d l) d (lwh l) (l16 l 2) (l16 l 4) with
    | none => pS (pS (p_zB1 P d l) 63 d 0) 60 d 1
    | some t => pS (pS (pB (p_zB1 P d l) 29 d t) 63 d (min t.length (l16 l 6) + 1)) 60 d (if l16 l 6 = 0 then 5 else 2)
theorem byte_getD {l : List Nat} (hb : ∀ x ∈ l, x < 256) (i : Nat) : l.getD i 0 < 256 := by
  rw [List.getD_eq_getElem?_getD]
  rcases Nat.lt_or_ge i l.length with h | h
  · rw [List.getElem?_eq_getElem h]; exact hb _ (List.getElem_mem h)
  · rw [List.getElem?_eq_none h]; decide
theorem l16_lt {l : List Nat} (hb : ∀ x ∈ l, x < 256) (i : Nat) : l16 l i < 65536 := by
  unfold l16
  have h1 := byte_getD hb i
  have h2 := byte_getD hb (i + 1)
  omega
theorem bfh_le (P : pP) (d w ix : Nat) : (p_bfh P d w ix).2 ≤ 5 := by
  unfold p_bfh
  repeat' split
  all_goals (dsimp only)
  all_goals (repeat' split)
  all_goals decide
theorem c_zBeg {d j : Nat} (h : RC g P M) (hd : d < 6) (hj : j < 66) (hb : ∀ x ∈ b_ P 7 j, x < 256) : sm_Run (D + 3) 53 0 (sm_ent 53 [.inr (some (g.1 3 d)), .inr (some (g.1 4 d)), .inr (some (g.1 7 j))]) [] M (fun v' M' => v' = none ∧ RC g (p_zBeg P d (b_ P 7 j)) M') := by
  obtain ⟨l4, l3, l8, l7, l26, l28, l29, l35, l67⟩ := lq_s h hd
  have l7j := (lq_p h hj).1
  have hl2 := l16_lt hb 2
  have hl4 := l16_lt hb 4
  have hl6 := l16_lt hb 6
  have hw0 := byte_getD hb 0
  have hw1 := byte_getD hb 1
  have hw : lwh (b_ P 7 j) < 65536 := by unfold lwh; omega
  refine bb_53_0 ⟨_, rfl, rc_K h l7j, ru_mono (c_at h hj (i := 0) (by decide)) ?_⟩
  rintro v M1 ⟨rfl, rfl⟩
  refine bb_53_5 ⟨_, rfl, rc_K h l7j, ru_mono (c_at h hj (i := 1) (by decide)) ?_⟩
  rintro v M1 ⟨rfl, rfl⟩
  refine bb_53_14 ⟨_, rfl, rc_K h l7j, ?_⟩
  rw [li_256, pk_mul, nI_add]
  refine ru_mono (c_pairAt h hj (i := 4) (by decide)) ?_
  rintro v M1 ⟨rfl, rfl⟩
  refine bb_53_21 ⟨_, rfl, rc_K h l7j, ru_mono (c_pairAt h hj (i := 2) (by decide)) ?_⟩
  rintro v M1 ⟨rfl, rfl⟩
  have h1 : RC g (pS P 66 d (l16 (b_ P 7 j) 2)) (sm_putI M (g.1 3 d) 6 (nI (l16 (b_ P 7 j) 2))) := rc_w' h l3 (by omega)
  refine bb_53_29 ⟨rc_K h l3, _, rfl, rc_K h l7j, ru_mono (c_pairAt h1 hj (i := 6) (by decide)) ?_⟩
  rintro v M1 ⟨rfl, rfl⟩
  have h2 : RC g (p_zB1 P d (b_ P 7 j)) (sm_putI (sm_putI (sm_putI (sm_putI (sm_putI (sm_putI M (g.1 3 d) 6 (nI (l16 (b_ P 7 j) 2))) (g.1 3 d) 5 (nI (l16 (b_ P 7 j) 6))) (g.1 3 d) 1 1) (g.1 3 d) 4 0) (g.1 3 d) 7 0) (g.1 3 d) 9 0) :=
    rc_w' (rc_w' (rc_w' (rc_w' (rc_w' h1 l3 (by omega)) l3 (show 1 < 2 ^ 31 by decide)) l3 (show 0 < 2 ^ 31 by decide)) l3 (show 0 < 2 ^ 31 by decide)) l3 (show 0 < 2 ^ 31 by decide)
  have e66 : s_ (p_zB1 P d (b_ P 7 j)) 66 d = l16 (b_ P 7 j) 2 := by unfold p_zB1; simp only [s_S, Nat.reduceEqDiff, and_true, and_self, if_true, if_false]
  have e65 : s_ (p_zB1 P d (b_ P 7 j)) 65 d = l16 (b_ P 7 j) 6 := by unfold p_zB1; simp only [s_S, Nat.reduceEqDiff, and_true, and_self, if_true, if_false]
  refine bb_53_39 ⟨rc_K h1 l3, rc_K h1 l3, fun q => ⟨_, rfl, rc_K h1 l4, ?_⟩, fun q => ?_⟩
  · have q : nI 32768 ≤ nI (lwh (b_ P 7 j)) := q
    rw [nI_leI (by decide) (show lwh (b_ P 7 j) < 2 ^ 31 by omega)] at q
    refine (fun key : ∀ M5, RC g (p_zB1 P d (b_ P 7 j)) M5 → sm_Run (D + 2) 71 0 (sm_ent 71 [.inr (some (g.1 4 d)), .inl (nI (lwh (b_ P 7 j))), .inl (sm_I M5 (g.1 3 d) 6), .inl (nI (l16 (b_ P 7 j) 4)), .inr (sm_R M5 (g.1 3 d) 2)]) [] M5 (fun v M1 => sm_Run (D + 3) 53 96 [some (.inr (some (g.1 3 d))), some (.inr (some (g.1 4 d))), some (.inr (some (g.1 7 j))), some (.inl (nI (lwh (b_ P 7 j)))), some (.inl (nI (l16 (b_ P 7 j) 4))), none] (v.toList ++ []) M1 (fun v' M' => v' = none ∧ RC g (p_zBeg P d (b_ P 7 j)) M')) => key _ h2) ?_
    intro M5 h2
    rw [rI_66 h2 hd, rd_3_2 h2 hd, e66]
    unfold p_zBeg
    rw [if_neg (by omega)]
    refine ru_mono (c_tell (D := D) h2 hd (show lwh (b_ P 7 j) < 2 ^ 31 by omega) (show l16 (b_ P 7 j) 2 < 2 ^ 31 by omega) (show l16 (b_ P 7 j) 4 < 2 ^ 31 by omega)) ?_
    rintro v' M1 ⟨rfl, h3⟩
    cases ht : p_tell (p_zB1 P d (b_ P 7 j)) d (lwh (b_ P 7 j)) (l16 (b_ P 7 j) 2) (l16 (b_ P 7 j) 4) with
    | none =>
      rw [ht] at h3
      have h3 : RC g (p_zB1 P d (b_ P 7 j)) M1 := h3
      have a5 := rI_65 h3 hd
      rw [e65] at a5
      refine bb_53_96 ⟨rc_K h3 l3, fun q1 => absurd rfl q1, fun q1 => ⟨rfl, ?_⟩⟩
      have hneg : (if sm_I M1 (g.1 3 d) 5 < (p_tlI none) then sm_I M1 (g.1 3 d) 5 else (p_tlI none)) = nE 0 := by
        rw [if_neg]
        · rfl
        · rw [a5]
          intro q2
          have := (Int32.lt_iff_toInt_lt).mp q2
          rw [nI_toInt (by omega)] at this
          have e : (p_tlI none).toInt = -1 := rfl
          omega
      rw [hneg]
      exact rc_w' (rc_w' h3 l3 (show 0 < 2 ^ 31 by decide)) l3 (show 1 < 2 ^ 31 by decide)
    | some t =>
      rw [ht] at h3
      have h3 : RC g (pB (p_zB1 P d (b_ P 7 j)) 29 d t) M1 := h3
      have t64 := (ar_29 h3 hd).1
      rw [b_Bs] at t64
      have a5 := rI_65 h3 hd
      rw [s_B, e65] at a5
      have hm : (if sm_I M1 (g.1 3 d) 5 < (p_tlI (some t)) then sm_I M1 (g.1 3 d) 5 else (p_tlI (some t))) = nI (min t.length (l16 (b_ P 7 j) 6)) := by
        rw [a5]
        exact nmin (by omega) (by omega)
      have h4 : RC g (pS (pB (p_zB1 P d (b_ P 7 j)) 29 d t) 63 d (min t.length (l16 (b_ P 7 j) 6) + 1)) (sm_putI M1 (g.1 3 d) 3 (nI (min t.length (l16 (b_ P 7 j) 6)))) := rc_w' h3 l3 (by omega) rfl (nE_s _).symm
      have a6 := rI_65 h4 hd
      have e65' : s_ (pS (pB (p_zB1 P d (b_ P 7 j)) 29 d t) 63 d (min t.length (l16 (b_ P 7 j) 6) + 1)) 65 d = l16 (b_ P 7 j) 6 := by
        rw [← e65]; simp only [s_S, s_B, Nat.reduceEqDiff, and_true, if_false]
      rw [e65'] at a6
      refine bb_53_96 ⟨rc_K h3 l3, fun _ => ⟨fun q2 => ⟨rfl, ?_⟩, fun q2 => ⟨rfl, ?_⟩⟩, fun q1 => ?_⟩
      · rw [hm] at q2 ⊢
        rw [a6, li_0, nI_eq (by omega) (by decide)] at q2
        dsimp only
        rw [if_neg q2]
        exact rc_w' h4 l3 (show 2 < 2 ^ 31 by decide)
      · rw [hm] at q2 ⊢
        rw [a6, li_0, Decidable.not_not, nI_eq (by omega) (by decide)] at q2
        dsimp only
        rw [if_pos q2]
        exact rc_w' h4 l3 (show 5 < 2 ^ 31 by decide)
      · have e : p_tlI (some t) = nI t.length := rfl
        rw [Decidable.not_not, e, li_m1, nI_E (by omega) (by decide)] at q1
        omega
  · have q : ¬ nI 32768 ≤ nI (lwh (b_ P 7 j)) := q
    rw [nI_leI (by decide) (show lwh (b_ P 7 j) < 2 ^ 31 by omega)] at q
    have h2' := rn_29 h2 hd
    have e66' : s_ (pB (p_zB1 P d (b_ P 7 j)) 29 d []) 66 d < 65536 := by rw [s_B, e66]; exact hl2
    have e65' : s_ (pB (p_zB1 P d (b_ P 7 j)) 29 d []) 65 d < 65536 := by rw [s_B, e65]; exact hl6
    refine ru_mono (c_bfh (D := D) h2' hd (show lwh (b_ P 7 j) < 2 ^ 31 by omega) (show l16 (b_ P 7 j) 4 < 2 ^ 31 by omega) e66' e65') ?_
    rintro v' M1 ⟨rfl, h3⟩
    have b5 := bfh_le (pB (p_zB1 P d (b_ P 7 j)) 29 d []) d (lwh (b_ P 7 j)) (l16 (b_ P 7 j) 4)
    refine bb_53_77 ⟨rc_K h3 l3, rfl, ?_⟩
    unfold p_zBeg
    rw [if_pos (by omega)]
    exact rc_w' h3 l3 (by omega)
end BG
