/-! WireBus: look, transfer, state, point, packet -/
section LK
variable {g : pG} {P : pP} {M M' : sm_M} {D : Nat}
def p_look (P : pP) (x : Int32) : Int32 := if x = 0 then nI (s_ P 125 0) else if x = 1 then nI (s_ P 228 0) else if x = 2 then nI (s_ P 122 0) else if x = 3 then nI (s_ P 123 0) else if x = 4 then nI (s_ P 227 0) else if x = 5 then nI (b_ P 1 0).length else -1
theorem c_look {x : Int32} (h : RC g P M) : sm_Run D 16 0 (sm_ent 16 [.inr (some (g.1 0 0)), .inl x]) [] M (fun v M' => v = some (.inl (p_look P x)) ∧ M = M') := by
  have l0 := rc_st h (c := 0) (i := 0) (by decide)
  have l1 : g.2.1 1 0 = true := rc_st h (by decide)
  have l6 := rc_st h (c := 6) (i := 0) (by decide)
  have l11 := rc_st h (c := 11) (i := 0) (by decide)
  unfold p_look
  refine bb_16_0 ⟨fun q => ⟨rc_K h l0, _, rd_0_4 h, rc_K h l6, ?_, rfl⟩, fun q => ⟨rc_K h l0, _, rd_0_3 h, rc_K h l11, ?_, rfl⟩, fun q => ⟨rc_K h l0, _, rd_0_4 h, rc_K h l6, ?_, rfl⟩, fun q => ⟨rc_K h l0, _, rd_0_4 h, rc_K h l6, ?_, rfl⟩, fun q => ⟨rc_K h l0, _, rd_0_3 h, rc_K h l11, ?_, rfl⟩, fun q => ⟨rc_K h l0, _, rd_0_2 h, rc_K h l1, ?_, rfl⟩, fun q0 q1 q2 q3 q4 q5 => ⟨?_, rfl⟩⟩
  · subst q; rw [rI_125 h, if_pos rfl]
  · subst q; rw [rI_228 h, if_neg (by decide), if_pos rfl]
  · subst q; rw [rI_122 h, if_neg (by decide), if_neg (by decide), if_pos rfl]
  · subst q; rw [rI_123 h, if_neg (by decide), if_neg (by decide), if_neg (by decide), if_pos rfl]
  · subst q; rw [(rc_e h).1, if_neg (by decide), if_neg (by decide), if_neg (by decide), if_neg (by decide), if_pos rfl]
  · subst q; rw [rg_cnt h l1, if_neg (by decide), if_neg (by decide), if_neg (by decide), if_neg (by decide), if_neg (by decide), if_pos rfl]
  · rw [if_neg q0, if_neg q1, if_neg q2, if_neg q3, if_neg q4, if_neg q5]
def p_trf (P : pP) (t : Nat) (x : Int32) : Int32 := if x = 0 then nI (s_ P 200 t) else if x = 1 then nI (s_ P 180 (s_ P 213 t)) else if x = 2 then nI (s_ P 211 t) else if x = 3 then nI (s_ P 210 t) else if x = 4 then nI (b_ P 36 t).length else if x = 5 then nI (s_ P 212 t) else if ¬ (6 : Int32) ≤ x then -1 else if x.toNatClampNeg - 6 < hav P t then nI ((b_ P 36 t).getD (x.toNatClampNeg - 6) 0) else -1
def p_transfer (P : pP) (x1 x2 : Int32) : Int32 := if x1 < 0 then -1 else if s_ P 122 0 ≤ x1.toNatClampNeg then -1 else p_trf P x1.toNatClampNeg x2
theorem le_nn {x y : Int32} {n : Nat} (hy : y = nI n) (hn : n < 2 ^ 31) (h : y ≤ x) : ¬ x < 0 := by
  intro c
  subst hy
  have a1 := Int32.lt_iff_toInt_lt.mp c
  have a2 := Int32.le_iff_toInt_le.mp h
  rw [nI_toInt hn] at a2
  have a0 : (0 : Int32).toInt = 0 := rfl
  omega
theorem c_transfer {x1 x2 : Int32} (h : RC g P M) (ho : ∀ t, t < s_ P 122 0 → s_ P 210 t ≤ (b_ P 36 t).length) : sm_Run (D + 1) 17 0 (sm_ent 17 [.inr (some (g.1 0 0)), .inl x1, .inl x2]) [] M (fun v M' => v = some (.inl (p_transfer P x1 x2)) ∧ M = M') := by
  have l0 := rc_st h (c := 0) (i := 0) (by decide)
  have l6 := rc_st h (c := 6) (i := 0) (by decide)
  have l34 := rc_st h (c := 34) (i := 0) (by decide)
  have h336 := rc_made h
  unfold p_transfer
  refine bb_17_0 ⟨fun q => ?_, fun q => ⟨rc_K h l0, _, rd_0_4 h, rc_K h l6, fun q1 => ?_, fun q1 => ?_⟩⟩
  · rw [if_pos q]; exact ⟨rfl, rfl⟩
  · rw [if_neg q]
    obtain ⟨t, ht0, rfl⟩ := nI_of q
    rw [rI_122 h, nI_ltI ht0 (by omega)] at q1
    rw [nI_clamp ht0, if_neg (by omega)]
    obtain ⟨l10, l36, l9⟩ := lq_10 h q1
    have r34 := rd_34_i h q1
    have hcl : (nI t).toNatClampNeg = t := nI_clamp ht0
    unfold p_trf
    refine ⟨_, rd_0_4 h, rc_K h l6, _, rd_6_1 h, ⟨10, rc_K h l34⟩, rc_in h l34 (by decide) (show t < 336 by omega) (by decide), fun q2 => ⟨g.1 10 t, r34, rc_K h l10, ?_, rfl⟩, fun q2 => ⟨g.1 10 t, r34, rc_K h l10, _, rd_10_1 h q1, rc_K h l9, ?_, rfl⟩, fun q2 => ⟨g.1 10 t, r34, rc_K h l10, ?_, rfl⟩, fun q2 => ⟨g.1 10 t, r34, rc_K h l10, ?_, rfl⟩, fun q2 => ⟨g.1 10 t, r34, rc_K h l10, _, rd_10_4 h q1, rc_aK h l36 (by decide), ?_, rfl⟩, fun q2 => ⟨g.1 10 t, r34, rc_K h l10, ?_, rfl⟩, fun q0 q1' q2 q3 q4 q5 => ⟨fun q6 => ⟨g.1 10 t, r34, rc_K h l10, ?_⟩, fun q6 => ?_⟩⟩
    · subst q2; rw [rI_200 h l10, if_pos rfl]
    · subst q2; rw [rI_180 h l9, if_neg (by decide), if_pos rfl]
    · subst q2; rw [rI_211 h l10, if_neg (by decide), if_neg (by decide), if_pos rfl]
    · subst q2; rw [rI_210 h l10, if_neg (by decide), if_neg (by decide), if_neg (by decide), if_pos rfl]
    · subst q2; rw [kL_36 h q1, oN, if_neg (by decide), if_neg (by decide), if_neg (by decide), if_neg (by decide), if_pos rfl]
    · subst q2; rw [rI_212 h l10, if_neg (by decide), if_neg (by decide), if_neg (by decide), if_neg (by decide), if_neg (by decide), if_pos rfl]
    · rw [if_neg q0, if_neg q1', if_neg q2, if_neg q3, if_neg q4, if_neg q5, if_neg (fun c => c q6)]
      obtain ⟨m, hm, rfl⟩ := nI_of (le_nn li_6 (by decide) q6)
      rw [li_6, nI_leI (by decide) hm] at q6
      rw [li_6, pk_sub q6, nI_clamp hm]
      refine ru_mono (c_byteAt h q1 (by omega) (ho t q1)) ?_
      rintro v M1 ⟨rfl, hM⟩
      exact bb_17_120 ⟨rfl, hM⟩
    · rw [if_neg q0, if_neg q1', if_neg q2, if_neg q3, if_neg q4, if_neg q5, if_pos q6]
      exact ⟨rfl, rfl⟩
  · rw [if_neg q]
    obtain ⟨t, ht0, rfl⟩ := nI_of q
    rw [rI_122 h, nI_ltI ht0 (by omega)] at q1
    rw [nI_clamp ht0, if_pos (by omega)]
    exact ⟨rfl, rfl⟩
/-- state -/
def p_std (P : pP) (d : Nat) (x : Int32) : Int32 := if x = 0 then nI (s_ P 83 d) else if x = 1 then nI (s_ P 84 d) else if x = 2 then nI (s_ P 160 d) else if x = 3 then nI (s_ P 162 d) else if x = 4 then nI (s_ P 164 d) else if x < 5 then -1 else if x.toNatClampNeg - 5 < 64 then nI ((b_ P 28 d).getD (x.toNatClampNeg - 5) 0) else -1
def p_state (P : pP) (x1 x2 : Int32) : Int32 := match devN x1 with
  | none => -1
  | some d => p_std P d x2
theorem nlt_nn {x y : Int32} {n : Nat} (hy : y = nI n) (hn : n < 2 ^ 31) (h : ¬ x < y) : ¬ x < 0 := by
  intro c
  apply h
  subst hy
  have a1 := Int32.lt_iff_toInt_lt.mp c
  rw [Int32.lt_iff_toInt_lt, nI_toInt hn]
  have a0 : (0 : Int32).toInt = 0 := rfl
  omega
theorem c_state {x1 x2 : Int32} (h : RC g P M) : sm_Run (D + 1) 18 0 (sm_ent 18 [.inr (some (g.1 0 0)), .inl x1, .inl x2]) [] M (fun v M' => v = some (.inl (p_state P x1 x2)) ∧ M = M') := by
  have l0 := rc_st h (c := 0) (i := 0) (by decide)
  have l6 := rc_st h (c := 6) (i := 0) (by decide)
  have l11 := rc_st h (c := 11) (i := 0) (by decide)
  have l25 := rc_st h (c := 25) (i := 0) (by decide)
  have l33 := rc_st h (c := 33) (i := 0) (by decide)
  refine bb_18_0 (ru_mono c_isDev ?_)
  rintro r M1 ⟨rfl, hM⟩
  subst hM
  unfold p_state
  cases hdv : devN x1 with
  | none => exact bb_18_4 ⟨fun q => absurd rfl q, fun _ => ⟨rfl, rfl⟩⟩
  | some d =>
    obtain ⟨rfl, hd⟩ := devN_some hdv
    obtain ⟨l4, l3, l8, l7, l26, l28, l29, l35, l67⟩ := lq_s h hd
    have hin : sm_in_ M (g.1 25 0) (nI d) := rc_in h l25 (by decide) (show d < 6 from hd) (by decide)
    have hin' : sm_in_ M (g.1 33 0) (nI d) := rc_in h l33 (by decide) (show d < 6 from hd) (by decide)
    have r25 : sm_R M (g.1 25 0) (nI d).toNatClampNeg = some (g.1 4 d) := by rw [nI_clamp (by omega)]; exact rd_25_i h hd
    have r33 : sm_R M (g.1 33 0) (nI d).toNatClampNeg = some (g.1 8 d) := by rw [nI_clamp (by omega)]; exact rd_33_i h hd
    dsimp only
    unfold p_std
    refine bb_18_4 ⟨fun _ => ⟨rc_K h l0, _, rd_0_3 h, rc_K h l11, _, rd_11_3 h, ⟨4, rc_K h l25⟩, hin, _, rd_0_4 h, rc_K h l6, _, rd_6_0 h, ⟨8, rc_K h l33⟩, hin', fun q => ⟨_, r25, rc_K h l4, ?_, rfl⟩, fun q => ⟨_, r25, rc_K h l4, ?_, rfl⟩, fun q => ⟨_, r33, rc_K h l8, ?_, rfl⟩, fun q => ⟨_, r33, rc_K h l8, ?_, rfl⟩, fun q => ⟨_, r33, rc_K h l8, ?_, rfl⟩, fun q0 q1 q2 q3 q4 => ⟨fun q5 => ?_, fun q5 => ⟨_, r25, rc_K h l4, _, rd_4_7 h hd, rc_aK h l28 (by decide), fun q6 => ⟨_, rd_4_7 h hd, rc_iA h l28 (by decide), ?_, ?_⟩, fun q6 => ?_⟩⟩⟩, fun q => absurd (show ¬ bI true = 0 by decide) q⟩
    · subst q; rw [rI_83 h hd, if_pos rfl]
    · subst q; rw [rI_84 h hd, if_neg (by decide), if_pos rfl]
    · subst q; rw [rI_160 h hd, if_neg (by decide), if_neg (by decide), if_pos rfl]
    · subst q; rw [rI_162 h hd, if_neg (by decide), if_neg (by decide), if_neg (by decide), if_pos rfl]
    · subst q; rw [rI_164 h hd, if_neg (by decide), if_neg (by decide), if_neg (by decide), if_neg (by decide), if_pos rfl]
    · rw [if_neg q0, if_neg q1, if_neg q2, if_neg q3, if_neg q4, if_pos q5]; exact ⟨rfl, rfl⟩
    · obtain ⟨m, hm, rfl⟩ := nI_of (nlt_nn li_5 (by decide) q5)
      rw [li_5, nI_ltI hm (by decide)] at q5
      rw [li_5, pk_sub (by omega), kL_28 h l28, oN, nI_ltI (by omega) (by decide)] at q6
      rw [li_5, pk_sub (by omega)]
      exact rc_in h l28 (by decide) (show m - 5 < 64 from q6) (by decide)
    · rw [if_neg q0, if_neg q1, if_neg q2, if_neg q3, if_neg q4, if_neg q5]
      obtain ⟨m, hm, rfl⟩ := nI_of (nlt_nn li_5 (by decide) q5)
      rw [li_5, nI_ltI hm (by decide)] at q5
      rw [li_5, pk_sub (by omega), kL_28 h l28, oN, nI_ltI (by omega) (by decide)] at q6
      rw [li_5, pk_sub (by omega), nI_clamp (by omega), nI_clamp hm, if_pos q6, (ar_28 h hd).2 _ (by rw [(ar_28 h hd).1]; exact q6)]
      exact ⟨rfl, rfl⟩
    · rw [if_neg q0, if_neg q1, if_neg q2, if_neg q3, if_neg q4, if_neg q5]
      obtain ⟨m, hm, rfl⟩ := nI_of (nlt_nn li_5 (by decide) q5)
      rw [li_5, nI_ltI hm (by decide)] at q5
      rw [li_5, pk_sub (by omega), kL_28 h l28, oN, nI_ltI (by omega) (by decide)] at q6
      rw [nI_clamp hm, if_neg q6]
      exact ⟨rfl, rfl⟩
/-- point -/
def p_ptd (P : pP) (d k : Nat) (x2 x : Int32) : Int32 := if x = 0 then nI (s_ P 103 (6 * d + k)) else if x = 1 then (if s_ P 104 (6 * d + k) = 0 then 0 else 1) else if x = 2 then nI (b_ P 1 (1 + (6 * d + k))).length
  else if x = 3 then (match p_pfind P d x2 with
    | none => -1
    | some i => nI (s_ P 185 (pid P d i)))
  else if x = 4 then (match p_pfind P d x2 with
    | none => 0
    | some i => if s_ P 184 (pid P d i) = 0 then 2 else 1)
  else -1
def p_point (P : pP) (x1 x2 x3 : Int32) : Int32 := match devN x1 with
  | none => -1
  | some d => match p_findI P d x2 with
    | none => -1
    | some k => p_ptd P d k x2 x3
theorem c_point {x1 x2 x3 : Int32} (h : RC g P M) : sm_Run (D + 1) 19 0 (sm_ent 19 [.inr (some (g.1 0 0)), .inl x1, .inl x2, .inl x3]) [] M (fun v M' => v = some (.inl (p_point P x1 x2 x3)) ∧ M = M') := by
  have l0 := rc_st h (c := 0) (i := 0) (by decide)
  have l6 := rc_st h (c := 6) (i := 0) (by decide)
  have l11 := rc_st h (c := 11) (i := 0) (by decide)
  have l25 := rc_st h (c := 25) (i := 0) (by decide)
  have l33 := rc_st h (c := 33) (i := 0) (by decide)
  refine bb_19_0 (ru_mono c_isDev ?_)
  rintro r M1 ⟨rfl, hM⟩
  subst hM
  unfold p_point
  cases hdv : devN x1 with
  | none => exact bb_19_4 ⟨fun q => absurd rfl q, fun _ => ⟨rfl, rfl⟩⟩
  | some d =>
    obtain ⟨rfl, hd⟩ := devN_some hdv
    obtain ⟨l4, l3, l8, l7, l26, l28, l29, l35, l67⟩ := lq_s h hd
    have hin : sm_in_ M (g.1 25 0) (nI d) := rc_in h l25 (by decide) (show d < 6 from hd) (by decide)
    have hin' : sm_in_ M (g.1 33 0) (nI d) := rc_in h l33 (by decide) (show d < 6 from hd) (by decide)
    have r25 : sm_R M (g.1 25 0) (nI d).toNatClampNeg = some (g.1 4 d) := by rw [nI_clamp (by omega)]; exact rd_25_i h hd
    have r33 : sm_R M (g.1 33 0) (nI d).toNatClampNeg = some (g.1 8 d) := by rw [nI_clamp (by omega)]; exact rd_33_i h hd
    dsimp only
    refine bb_19_4 ⟨fun _ => ⟨rc_K h l0, _, rd_0_3 h, rc_K h l11, _, rd_11_3 h, ⟨4, rc_K h l25⟩, hin, _, r25, rc_K h l4, ru_mono (c_findI h hd) ?_⟩, fun q => absurd (show ¬ bI true = 0 by decide) q⟩
    rintro r M1 ⟨rfl, hM⟩
    subst hM
    cases hf : p_findI P d x2 with
    | none => exact bb_19_22 ⟨fun _ => ⟨rfl, rfl⟩, fun b hb => by cases hb⟩
    | some k =>
      have l5 := lq_5 h hd (findI_lt hf).1
      have lB := (rc_EB h l5).2
      dsimp only
      refine bb_19_22 ⟨(fun hb => by cases hb), fun b hb => ?_⟩
      obtain rfl : g.1 5 (6 * d + k) = b := Option.some.inj hb
      refine ⟨rc_K h l0, _, rd_0_4 h, rc_K h l6, _, rd_6_0 h, ⟨8, rc_K h l33⟩, hin', _, r33, rc_K h l8, ru_mono (c_pfind h hd) ?_⟩
      rintro r M1 ⟨rfl, hM⟩
      subst hM
      unfold p_ptd
      refine bb_19_44 ⟨fun q => ⟨_, rfl, rc_K h l5, ?_, rfl⟩, fun q => ⟨_, rfl, rc_K h l5, fun q1 => ?_, fun q1 => ?_⟩, fun q => ⟨_, rfl, rc_K h l5, _, rd_5_6 h l5, rc_K h lB, ?_, rfl⟩, fun q => ?_, fun q => ?_, fun q0 q1 q2 q3 q4 => ⟨?_, rfl⟩⟩
      · subst q; rw [rI_103 h l5, if_pos rfl]
      · subst q
        rw [rI_104 h l5, li_0, nI_eq (rc_B h _ _) (by decide)] at q1
        rw [if_neg (by decide), if_pos rfl, if_pos q1]; exact ⟨rfl, rfl⟩
      · subst q
        rw [rI_104 h l5, li_0, nI_eq (rc_B h _ _) (by decide)] at q1
        rw [if_neg (by decide), if_pos rfl, if_neg q1]; exact ⟨rfl, rfl⟩
      · subst q; rw [rg_cnt h lB, if_neg (by decide), if_neg (by decide), if_pos rfl]
      · subst q
        rw [if_neg (by decide), if_neg (by decide), if_neg (by decide), if_pos rfl]
        cases hp : p_pfind P d x2 with
        | none => exact ⟨fun _ => ⟨rfl, rfl⟩, fun b hb => by cases hb⟩
        | some i =>
          have l9 := lq_9 h hd (pfind_lt hp).1
          refine ⟨(fun hb => by cases hb), fun b hb => ?_⟩
          obtain rfl : g.1 9 (pid P d i) = b := Option.some.inj hb
          exact ⟨rc_K h l9, by rw [rI_185 h l9], rfl⟩
      · subst q
        rw [if_neg (by decide), if_neg (by decide), if_neg (by decide), if_neg (by decide), if_pos rfl]
        cases hp : p_pfind P d x2 with
        | none => exact ⟨fun _ => ⟨rfl, rfl⟩, fun b hb => by cases hb⟩
        | some i =>
          have l9 := lq_9 h hd (pfind_lt hp).1
          refine ⟨(fun hb => by cases hb), fun b hb => ?_⟩
          obtain rfl : g.1 9 (pid P d i) = b := Option.some.inj hb
          refine ⟨rc_K h l9, fun q1 => ?_, fun q1 => ?_⟩
          · rw [rI_184 h l9, li_0, nI_eq (rc_B h _ _) (by decide)] at q1
            dsimp only
            rw [if_pos q1]; exact ⟨rfl, rfl⟩
          · rw [rI_184 h l9, li_0, nI_eq (rc_B h _ _) (by decide)] at q1
            dsimp only
            rw [if_neg q1]; exact ⟨rfl, rfl⟩
      · rw [if_neg q0, if_neg q1, if_neg q2, if_neg q3, if_neg q4]
/-- packet -/
def p_pkd (P : pP) (p : Nat) (x : Int32) : Int32 × pP :=
  if x = 0 then (nE (s_ P 140 (p % 60)), P) else if x = 1 then (nI (s_ P 141 (p % 60)), P) else if x = 2 then (nI (b_ (p_lay P p) 24 0).length, p_lay P p) else if x = 3 then (nI (s_ P 145 (p % 60)), P)
  else if ¬ (4 : Int32) ≤ x then (-1, P)
  else if s_ P 145 (p % 60) = 2 ∧ x.toNatClampNeg - 4 = s_ P 146 (p % 60) then (nI (s_ P 147 (p % 60)), P)
  else (if x.toNatClampNeg - 4 < (b_ (p_lay P p) 24 0).length then nI ((b_ (p_lay P p) 24 0).getD (x.toNatClampNeg - 4) 0) else -1, p_lay P p)
def p_packet (P : pP) (x1 x2 : Int32) : Int32 × pP := if x1 < 0 then (-1, P) else if x1.toNatClampNeg < s_ P 228 0 ∧ s_ P 228 0 ≤ x1.toNatClampNeg + 60 then p_pkd P x1.toNatClampNeg x2 else (-1, P)
theorem c_packet {x1 x2 : Int32} (h : RC g P M) (hs : s_ P 228 0 < 2 ^ 30) (hP : ∀ p, p < s_ P 228 0 → s_ P 228 0 ≤ p + 60 → PKo P (p % 60)) : sm_Run (D + 6) 20 0 (sm_ent 20 [.inr (some (g.1 0 0)), .inl x1, .inl x2]) [] M (fun v M' => v = some (.inl (p_packet P x1 x2).1) ∧ RC g (p_packet P x1 x2).2 M') := by
  have l0 := rc_st h (c := 0) (i := 0) (by decide)
  have l11 := rc_st h (c := 11) (i := 0) (by decide)
  refine bb_20_0 ⟨rc_K h l0, _, rd_0_3 h, rc_K h l11, ?_⟩
  unfold p_packet
  by_cases q : x1 < 0
  · rw [if_pos q]
    refine ru_mono (c_recent_neg q) ?_
    rintro r M1 ⟨rfl, hM⟩
    subst hM
    exact bb_20_8 ⟨fun _ => ⟨rfl, h⟩, fun b hb => by cases hb⟩
  rw [if_neg q]
  obtain ⟨p, hp, rfl⟩ := nI_of q
  rw [nI_clamp hp]
  refine ru_mono (c_recent h hp hs) ?_
  rintro r M1 ⟨rfl, hM⟩
  subst hM
  by_cases hr : p < s_ P 228 0 ∧ s_ P 228 0 ≤ p + 60
  · rw [if_pos hr, if_pos hr]
    have h60 : p % 60 < 66 := by omega
    have l7 := (lq_p h h60).1
    have hPK := hP p hr.1 hr.2
    unfold p_pkd
    refine bb_20_8 ⟨(fun hb => by cases hb), fun b hb => ?_⟩
    obtain rfl : g.1 7 (p % 60) = b := Option.some.inj hb
    refine ⟨fun q1 => ⟨rc_K h l7, ?_⟩, fun q1 => ⟨rc_K h l7, ?_⟩, fun q1 => ⟨rc_K h l0, _, rd_0_3 h, rc_K h l11, ?_⟩, fun q1 => ⟨rc_K h l7, ?_⟩, fun q0 q1 q2 q3 => ⟨fun q4 => ⟨rc_K h l0, _, rd_0_3 h, rc_K h l11, ?_⟩, fun q4 => ?_⟩⟩
    · subst q1; rw [rI_140 h h60, if_pos rfl]; exact ⟨rfl, h⟩
    · subst q1; rw [rI_141 h h60, if_neg (by decide), if_pos rfl]; exact ⟨rfl, h⟩
    · subst q1
      rw [if_neg (by decide), if_neg (by decide), if_pos rfl]
      refine ru_mono (c_countLevels (D := D) h (by omega) hPK) ?_
      rintro r M1 ⟨rfl, h1⟩
      exact bb_20_66 ⟨rfl, h1⟩
    · subst q1; rw [rI_145 h h60, if_neg (by decide), if_neg (by decide), if_neg (by decide), if_pos rfl]; exact ⟨rfl, h⟩
    · rw [if_neg q0, if_neg q1, if_neg q2, if_neg q3, if_neg (fun c => c q4)]
      obtain ⟨m, hm, rfl⟩ := nI_of (le_nn li_4 (by decide) q4)
      rw [li_4, nI_leI (by decide) hm] at q4
      rw [li_4, pk_sub q4, nI_clamp hm]
      refine ru_mono (c_levelOf (D := D) h (by omega) (by omega) hPK) ?_
      intro r M1 hr1
      by_cases hc : s_ P 145 (p % 60) = 2 ∧ m - 4 = s_ P 146 (p % 60)
      · rw [if_pos hc] at hr1 ⊢
        obtain ⟨rfl, h1⟩ := hr1
        exact bb_20_92 ⟨rfl, h1⟩
      · rw [if_neg hc] at hr1 ⊢
        obtain ⟨rfl, h1⟩ := hr1
        exact bb_20_92 ⟨rfl, h1⟩
    · rw [if_neg q0, if_neg q1, if_neg q2, if_neg q3, if_pos q4]
      exact ⟨rfl, h⟩
  · rw [if_neg hr, if_neg hr]
    exact bb_20_8 ⟨fun _ => ⟨rfl, h⟩, fun b hb => by cases hb⟩
end LK
