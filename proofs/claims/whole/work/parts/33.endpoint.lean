/-! Rings; WireBus$Endpoint -/
section EN
variable {g : pG} {P : pP} {M : sm_M} {D : Nat}
def capR (j : Nat) : Nat := if j = 0 then 200 else 256
theorem gdm {l : List Nat} {i : Nat} (h : i < l.length) : (l.map nI).getD i 0 = nI (l.getD i 0) := by
  rw [List.getD_eq_getElem?_getD, List.getElem?_map, List.getElem?_eq_getElem h, List.getD_eq_getElem?_getD, List.getElem?_eq_getElem h]; rfl
theorem rc_rg (h : RC g P M) {j : Nat} (hj : g.2.1 1 j = true) : by_Q M (g.1 1 j) (g.1 21 j) (capR j) ((b_ P 1 j).map nI) := h.2.2.2.1 j hj
theorem rg_len (h : RC g P M) {j : Nat} (hj : g.2.1 1 j = true) : (b_ P 1 j).length ≤ capR j := by
  have := (rc_rg h hj).2.2.2.2.1
  rwa [List.length_map] at this
theorem rg_cnt (h : RC g P M) {j : Nat} (hj : g.2.1 1 j = true) : sm_I M (g.1 1 j) 2 = nI (b_ P 1 j).length := by
  have := (rc_rg h hj).2.2.2.2.2.2.1
  rwa [List.length_map] at this
theorem capR_le (j : Nat) : capR j ≤ 256 ∧ 0 < capR j := by unfold capR; split <;> decide
theorem c_rspace {j : Nat} (h : RC g P M) (hj : g.2.1 1 j = true) : sm_Run D 30 0 (sm_ent 30 [.inr (some (g.1 1 j))]) [] M (fun v M' => v = some (.inl (nI (capR j - (b_ P 1 j).length))) ∧ M = M') := by
  refine ru_mono (by_space (rc_rg h hj)) (fun v M' hv => ⟨?_, hv.2.symm⟩)
  rw [hv.1, List.length_map]
theorem c_radd {j x : Nat} (h : RC g P M) (hj : g.2.1 1 j = true) (hl : (b_ P 1 j).length < capR j) : sm_Run (D + 1) 33 0 (sm_ent 33 [.inr (some (g.1 1 j)), .inl (nI x)]) [] M (fun v M' => v = none ∧ RC g (pB P 1 j (b_ P 1 j ++ [x])) M') := by
  refine ru_mono (by_add (x := nI x) (rc_rg h hj) (by rw [List.length_map]; exact hl)) (fun v M' hv => ⟨hv.1, ?_⟩)
  refine rc_ring h hj hv.2.2 ?_
  rw [List.map_append]; exact hv.2.1
theorem c_rat {j i : Nat} (h : RC g P M) (hj : g.2.1 1 j = true) (hi : i < 2 ^ 31) : sm_Run (D + 1) 34 0 (sm_ent 34 [.inr (some (g.1 1 j)), .inl (nI i)]) [] M (fun v M' => v = some (.inl (if i < (b_ P 1 j).length then nI ((b_ P 1 j).getD i 0) else -1)) ∧ M = M') := by
  refine ru_mono (by_at (rc_rg h hj) hi) (fun v M' hv => ⟨?_, hv.2.symm⟩)
  rw [hv.1, List.length_map]
  by_cases hq : i < (b_ P 1 j).length
  · rw [if_pos hq, if_pos hq, gdm hq]
  · rw [if_neg hq, if_neg hq]
theorem on_l {a b : Nat} {M M' : sm_M} (h : sm_Only (fun x => x = a) M M') : sm_Only (fun x => x = a ∨ x = b) M M' := on_mo h (fun _ q => Or.inl q)
theorem c_rdrop {j k : Nat} (h : RC g P M) (hj : g.2.1 1 j = true) (hk : k < 2 ^ 31) : sm_Run (D + 1) 36 0 (sm_ent 36 [.inr (some (g.1 1 j)), .inl (nI k)]) [] M (fun v M' => v = none ∧ RC g (pB P 1 j ((b_ P 1 j).drop k)) M') := by
  refine ru_mono (by_drop (rc_rg h hj) hk) (fun v M' hv => ⟨hv.1, ?_⟩)
  refine rc_ring h hj (on_l hv.2.2) ?_
  rw [List.map_drop]; exact hv.2.1
theorem c_rpoll {j : Nat} (h : RC g P M) (hj : g.2.1 1 j = true) : sm_Run (D + 2) 35 0 (sm_ent 35 [.inr (some (g.1 1 j))]) [] M (fun v M' => v = some (.inl (if 0 < (b_ P 1 j).length then nI ((b_ P 1 j).getD 0 0) else -1)) ∧ RC g (pB P 1 j ((b_ P 1 j).drop 1)) M') := by
  refine ru_mono (by_poll (rc_rg h hj)) (fun v M' hv => ⟨?_, ?_⟩)
  · rw [hv.1, List.length_map]
    by_cases hq : 0 < (b_ P 1 j).length
    · rw [if_pos hq, if_pos hq, gdm hq]
    · rw [if_neg hq, if_neg hq]
  · refine rc_ring h hj (on_l hv.2.2) ?_
    rw [List.map_drop]; exact hv.2.1
theorem c_rclear {j : Nat} (h : RC g P M) (hj : g.2.1 1 j = true) : sm_Run D 31 0 (sm_ent 31 [.inr (some (g.1 1 j))]) [] M (fun v M' => v = none ∧ RC g (pB P 1 j []) M') := by
  refine ru_mono (by_clear (rc_rg h hj) (capR_le j).2) (fun v M' hv => ⟨hv.1, ?_⟩)
  exact rc_ring h hj (on_l hv.2.2) hv.2.1
theorem rc_EB (h : RC g P M) {e : Nat} (hl : g.2.1 5 e = true) : sm_R M (g.1 5 e) 6 = some (g.1 1 (1 + e)) ∧ g.2.1 1 (1 + e) = true := h.1.2.2.2.2.1 e hl
def p_eRs (P : pP) (e : Nat) : pP := pS (pS (pS P 103 e 0) 104 e 0) 105 e 0
theorem c_eRestart {e : Nat} (h : RC g P M) (hl : g.2.1 5 e = true) : sm_Run D 80 0 (sm_ent 80 [.inr (some (g.1 5 e))]) [] M (fun v M' => v = none ∧ RC g (p_eRs P e) M') :=
  bb_80_0 ⟨rc_K h hl, rfl, rc_w (c := 5) (k := 5) (rc_w (c := 5) (k := 4) (rc_w (c := 5) (k := 3) h hl rfl (show 0 < 2 ^ 31 by decide) rfl) hl rfl (show 0 < 2 ^ 31 by decide) rfl) hl rfl (show 0 < 2 ^ 31 by decide) rfl⟩
def p_eBec (P : pP) (e a s i : Nat) : pP := p_eRs (pB (pS (pS (pS P 100 e a) 101 e s) 102 e i) 1 (1 + e) []) e
theorem c_eBecome {e a s i : Nat} (h : RC g P M) (hl : g.2.1 5 e = true) (ha : a < 2 ^ 31) (hs : s < 2 ^ 31) (hi : i < 2 ^ 31) : sm_Run (D + 1) 79 0 (sm_ent 79 [.inr (some (g.1 5 e)), .inl (nI a), .inl (nI s), .inl (nI i)]) [] M (fun v M' => v = none ∧ RC g (p_eBec P e a s i) M') := by
  have h1 := rc_w (c := 5) (k := 2) (v := nI i) (rc_w (c := 5) (k := 1) (v := nI s) (rc_w (c := 5) (k := 0) (v := nI a) h hl rfl ha rfl) hl rfl hs rfl) hl rfl hi rfl
  refine bb_79_0 ⟨rc_K h hl, _, (rc_EB h hl).1, rc_K h (rc_EB h hl).2, ru_mono (c_rclear h1 (rc_EB h hl).2) ?_⟩
  rintro v M1 ⟨rfl, h2⟩
  refine bb_79_22 ⟨rc_K h2 hl, ru_mono (c_eRestart h2 hl) ?_⟩
  rintro v M2 ⟨rfl, h3⟩
  exact bb_79_26 ⟨rfl, h3⟩
/-- OUT -/
def p_eOut (P : pP) (d e j : Nat) : pP :=
  if s_ P 104 e ≠ 0 then p_ans P d 14
  else if tgo (s_ P 141 j) ≠ s_ P 103 e then p_ans P d 2
  else if s_ P 101 e < (b_ P 7 j).length ∨ 256 - (b_ P 1 (1 + e)).length < (b_ P 7 j).length then p_ans P d 10
  else p_ans (pS (pB P 1 (1 + e) (b_ P 1 (1 + e) ++ b_ P 7 j)) 103 e (1 - s_ P 103 e)) d 2
theorem take_sN {l : List Nat} {i : Nat} (h : i < l.length) : l.take (i + 1) = l.take i ++ [l.getD i 0] := by
  rw [List.take_add_one, List.getElem?_eq_getElem h, List.getD_eq_getElem?_getD, List.getElem?_eq_getElem h]; rfl
theorem tgo_le (k : Nat) : tgo k ≤ 1 := by unfold tgo; split <;> omega
theorem c_eOut_loop {d e j : Nat} (hd : d < 6) (hj : j < 66) (hl : g.2.1 5 e = true) (ht : s_ P 103 e ≤ 1) (hsp : (b_ P 7 j).length ≤ 256 - (b_ P 1 (1 + e)).length) (h64 : (b_ P 7 j).length ≤ 64) : ∀ (n i : Nat) (M : sm_M), i + n = (b_ P 7 j).length → RC g (pB P 1 (1 + e) (b_ P 1 (1 + e) ++ (b_ P 7 j).take i)) M →
    sm_Run (D + 2) 81 74 [some (.inr (some (g.1 5 e))), some (.inr (some (g.1 4 d))), some (.inr (some (g.1 7 j))), some (.inl (nI i))] [] M (fun v M' => v = none ∧ RC g (p_ans (pS (pB P 1 (1 + e) (b_ P 1 (1 + e) ++ b_ P 7 j)) 103 e (1 - s_ P 103 e)) d 2) M') := by
  intro n
  induction n with
  | zero =>
    intro i M hi h
    obtain rfl : i = (b_ P 7 j).length := by omega
    rw [List.take_length] at h
    have e4 : sm_I M (g.1 7 j) 4 = nI (b_ P 7 j).length := (h.2.2.1 j hj).1
    have e3 : sm_I M (g.1 5 e) 3 = nI (s_ P 103 e) := rc_I h hl rfl
    refine bb_81_74 ⟨_, rfl, rc_Ks h (c := 7) hj, fun _ => ⟨rc_K h hl, _, rfl, rc_Ks h (c := 4) hd, ?_⟩, fun q => ?_⟩
    · rw [e3, nx1 ht]
      refine ru_mono (c_answer (rc_w (c := 5) (k := 3) h hl rfl (show 1 - s_ P 103 e < 2 ^ 31 by omega) rfl) hd (show 2 < 2 ^ 31 by decide)) ?_
      rintro v M1 ⟨rfl, h1⟩
      exact bb_81_115 ⟨rfl, h1⟩
    · rw [e4] at q; exact absurd (nI_le (Nat.le_refl _) (by omega)) q
  | succ n ih =>
    intro i M hi h
    have e4 : sm_I M (g.1 7 j) 4 = nI (b_ P 7 j).length := (h.2.2.1 j hj).1
    refine bb_81_74 ⟨_, rfl, rc_Ks h (c := 7) hj, fun q => ?_, fun _ => ⟨rc_K h hl, ru_mono (c_at h hj (by omega)) ?_⟩⟩
    · rw [e4, nI_leI (by omega) (by omega)] at q; omega
    rintro v M1 ⟨rfl, rfl⟩
    refine bb_81_91 ⟨_, (rc_EB h hl).1, rc_K h (rc_EB h hl).2, ru_mono (c_radd h (rc_EB h hl).2 ?_) ?_⟩
    · rw [b_Bs, List.length_append, List.length_take]; unfold capR; rw [if_neg (by omega)]; omega
    rintro v M2 ⟨rfl, h2⟩
    refine bb_81_94 ?_
    rw [nI_1]
    refine ih (i + 1) M2 (by omega) ?_
    rw [b_Bs, pBB, b_B, if_neg (by omega), List.append_assoc, ← take_sN (by omega)] at h2
    exact h2
theorem c_eOut {d e j : Nat} (h : RC g P M) (hd : d < 6) (hj : j < 66) (hl : g.2.1 5 e = true) (ht : s_ P 103 e ≤ 1) : sm_Run (D + 2) 81 0 (sm_ent 81 [.inr (some (g.1 5 e)), .inr (some (g.1 4 d)), .inr (some (g.1 7 j))]) [] M (fun v M' => v = none ∧ RC g (p_eOut P d e j) M') := by
  have e4 : sm_I M (g.1 5 e) 4 = nI (s_ P 104 e) := rc_I h hl rfl
  have e3 : sm_I M (g.1 5 e) 3 = nI (s_ P 103 e) := rc_I h hl rfl
  have e1 : sm_I M (g.1 5 e) 1 = nI (s_ P 101 e) := rc_I h hl rfl
  have b4 : s_ P 104 e < 2 ^ 31 := rc_b h (c := 5) (k := 4) hl rfl
  have b1 : s_ P 101 e < 2 ^ 31 := rc_b h (c := 5) (k := 1) hl rfl
  have ek : sm_I M (g.1 7 j) 1 = nI (s_ P 141 j) := rc_Is h (c := 7) hj rfl
  have bk : s_ P 141 j < 2 ^ 31 := rc_b h (c := 7) (k := 1) (rc_st h hj) rfl
  have el : sm_I M (g.1 7 j) 4 = nI (b_ P 7 j).length := (h.2.2.1 j hj).1
  have h64 := (h.2.2.1 j hj).2.1
  have tg1 := tgo_le (s_ P 141 j)
  refine bb_81_0 ⟨rc_K h hl, fun q => ⟨_, rfl, rc_Ks h (c := 7) hj, ?_⟩, fun q => ⟨_, rfl, rc_Ks h (c := 4) hd, ru_mono (c_answer h hd (show 14 < 2 ^ 31 by decide)) ?_⟩⟩
  · rw [e4, show (0 : Int32) = nI 0 from rfl, nI_eq b4 (by decide)] at q
    rw [ek]
    refine ru_mono (c_toggleOf bk) ?_
    rintro v M1 ⟨rfl, rfl⟩
    refine bb_81_23 ⟨rc_K h hl, fun q1 => ⟨_, rfl, rc_Ks h (c := 7) hj, fun q2 => ⟨_, rfl, rc_Ks h (c := 4) hd, ru_mono (c_answer h hd (show 10 < 2 ^ 31 by decide)) ?_⟩, fun q2 => ⟨_, (rc_EB h hl).1, rc_K h (rc_EB h hl).2, ru_mono (c_rspace h (rc_EB h hl).2) ?_⟩⟩, fun q1 => ⟨_, rfl, rc_Ks h (c := 4) hd, ru_mono (c_answer h hd (show 2 < 2 ^ 31 by decide)) ?_⟩⟩
    · rintro v M1 ⟨rfl, h1⟩
      rw [e3, nI_eq (by omega) (by omega)] at q1
      rw [e1, el, nI_ltI b1 (by omega)] at q2
      refine bb_81_69 ⟨rfl, ?_⟩
      unfold p_eOut
      rw [if_neg (by omega), if_neg (by omega), if_pos (Or.inl q2)]
      exact h1
    · rintro v M1 ⟨rfl, rfl⟩
      rw [e3, nI_eq (by omega) (by omega)] at q1
      rw [e1, el, nI_ltI b1 (by omega)] at q2
      have hc : capR (1 + e) = 256 := by unfold capR; rw [if_neg (by omega)]
      rw [hc, el]
      refine bb_81_60 ⟨fun q3 => ?_, fun q3 => ⟨_, rfl, rc_Ks h (c := 4) hd, ru_mono (c_answer h hd (show 10 < 2 ^ 31 by decide)) ?_⟩⟩
      · rw [nI_leI (by omega) (by omega)] at q3
        have := c_eOut_loop (D := D) hd hj hl ht q3 h64 (b_ P 7 j).length 0 M (by omega) (by rw [List.take_zero, List.append_nil, pBe]; exact h)
        unfold p_eOut
        rw [if_neg (by omega), if_neg (by omega), if_neg (by omega)]
        exact this
      · rw [nI_leI (by omega) (by omega)] at q3
        rintro v M1 ⟨rfl, h1⟩
        refine bb_81_69 ⟨rfl, ?_⟩
        unfold p_eOut
        rw [if_neg (by omega), if_neg (by omega), if_pos (Or.inr (by omega))]
        exact h1
    · rintro v M1 ⟨rfl, h1⟩
      rw [e3, nI_eq (by omega) (by omega)] at q1
      refine bb_81_35 ⟨rfl, ?_⟩
      unfold p_eOut
      rw [if_neg (by omega), if_pos (by omega)]
      exact h1
  · rintro v M1 ⟨rfl, h1⟩
    rw [e4, show (0 : Int32) = nI 0 from rfl, nI_eq b4 (by decide)] at q
    refine bb_81_13 ⟨rfl, ?_⟩
    unfold p_eOut
    rw [if_pos q]
    exact h1
/-- IN -/
def p_eIn1 (P : pP) (e : Nat) : pP := if s_ P 105 e = 0 then pS P 105 e (min (s_ P 101 e) (b_ P 1 (1 + e)).length) else P
def p_eIn (P : pP) (d e : Nat) : pP :=
  if s_ P 104 e ≠ 0 then p_ans P d 14
  else if s_ (p_eIn1 P e) 105 e = 0 then p_ans (p_eIn1 P e) d 10
  else pB (p_ansD (p_eIn1 P e) d (s_ P 103 e) (s_ P 100 e)) 7 (60 + d) ((b_ P 1 (1 + e)).take (s_ (p_eIn1 P e) 105 e))
theorem c_eIn_loop {d e u : Nat} (hd : d < 6) (hl : g.2.1 5 e = true) (hu : u ≤ (b_ P 1 (1 + e)).length) (h64 : u ≤ 64) (hu5 : s_ P 105 e = u) : ∀ (n i : Nat) (M : sm_M), i + n = u → RC g (pB P 7 (60 + d) ((b_ P 1 (1 + e)).take i)) M →
    sm_Run (D + 2) 82 67 [some (.inr (some (g.1 5 e))), some (.inr (some (g.1 4 d))), some (.inl (nI i))] [] M (fun v M' => v = none ∧ RC g (pB P 7 (60 + d) ((b_ P 1 (1 + e)).take u)) M') := by
  intro n
  induction n with
  | zero =>
    intro i M hi h
    obtain rfl : i = u := by omega
    have e5 : sm_I M (g.1 5 e) 5 = nI (s_ P 105 e) := rc_I h hl rfl
    refine bb_82_67 ⟨rc_K h hl, fun _ => ⟨rfl, h⟩, fun q => ?_⟩
    rw [e5, hu5] at q; exact absurd (nI_le (Nat.le_refl _) (by omega)) q
  | succ n ih =>
    intro i M hi h
    have e5 : sm_I M (g.1 5 e) 5 = nI (s_ P 105 e) := rc_I h hl rfl
    refine bb_82_67 ⟨rc_K h hl, fun q => ?_, fun _ => ⟨_, rfl, rc_Ks h (c := 4) hd, _, (rc_EB h hl).1, rc_K h (rc_EB h hl).2, ru_mono (c_rat h (rc_EB h hl).2 (by omega)) ?_⟩⟩
    · rw [e5, hu5, nI_leI (by omega) (by omega)] at q; omega
    rintro v M1 ⟨rfl, rfl⟩
    have eb : b_ (pB P 7 (60 + d) ((b_ P 1 (1 + e)).take i)) 1 (1 + e) = b_ P 1 (1 + e) := by rw [b_B, if_neg (by omega)]
    rw [eb, if_pos (by omega)]
    refine bb_82_87 ⟨_, (rc_D h hd).2.2.2.2.1, rc_Ks h (c := 7) (show 60 + d < 66 by omega), ru_mono (c_add h (by omega) ?_) ?_⟩
    · rw [b_Bs, List.length_take]; omega
    rintro v M2 ⟨rfl, h2⟩
    refine bb_82_90 ?_
    rw [nI_1]
    refine ih (i + 1) M2 (by omega) ?_
    unfold p_add at h2
    rw [b_Bs, pBB, ← take_sN (by omega)] at h2
    exact h2
theorem nmin {a b : Nat} (ha : a < 2 ^ 31) (hb : b < 2 ^ 31) : (if nI a < nI b then nI a else nI b) = nI (min b a) := by
  by_cases h : a < b
  · rw [if_pos (nI_lt h hb), Nat.min_eq_right (by omega)]
  · rw [if_neg (by rw [nI_ltI ha hb]; exact h), Nat.min_eq_left (by omega)]
theorem c_eIn {d e : Nat} (h : RC g P M) (hd : d < 6) (hl : g.2.1 5 e = true) (ht : s_ P 103 e < 2 ^ 31) (hu : s_ P 105 e ≤ (b_ P 1 (1 + e)).length ∧ s_ P 105 e ≤ 64) (hz : s_ P 101 e ≤ 64) : sm_Run (D + 2) 82 0 (sm_ent 82 [.inr (some (g.1 5 e)), .inr (some (g.1 4 d))]) [] M (fun v M' => v = none ∧ RC g (p_eIn P d e) M') := by
  have e4 : sm_I M (g.1 5 e) 4 = nI (s_ P 104 e) := rc_I h hl rfl
  have e1 : sm_I M (g.1 5 e) 1 = nI (s_ P 101 e) := rc_I h hl rfl
  have e5 : sm_I M (g.1 5 e) 5 = nI (s_ P 105 e) := rc_I h hl rfl
  have b4 : s_ P 104 e < 2 ^ 31 := rc_b h (c := 5) (k := 4) hl rfl
  have b0 : s_ P 100 e < 2 ^ 31 := rc_b h (c := 5) (k := 0) hl rfl
  have lB := (rc_EB h hl).2
  have hcnt := rg_cnt h lB
  have hlen := rg_len h lB
  have hcl := (capR_le (1 + e)).1
  have key : ∀ M1, RC g (p_eIn1 P e) M1 → s_ P 104 e = 0 → sm_Run (D + 2) 82 39 [some (.inr (some (g.1 5 e))), some (.inr (some (g.1 4 d))), none] [] M1 (fun v M' => v = none ∧ RC g (p_eIn P d e) M') := by
    intro M1 h1 hz4
    have hp : ∀ f i, f ≠ 105 → s_ (p_eIn1 P e) f i = s_ P f i := by
      intro f i hf
      unfold p_eIn1
      split
      · rw [s_S, if_neg (fun q => hf q.1)]
      · rfl
    have hb : ∀ c i, b_ (p_eIn1 P e) c i = b_ P c i := by
      intro c i; unfold p_eIn1; split <;> rfl
    have hu1 : s_ (p_eIn1 P e) 105 e ≤ (b_ P 1 (1 + e)).length ∧ s_ (p_eIn1 P e) 105 e ≤ 64 := by
      unfold p_eIn1
      split
      · rw [s_Ss]; omega
      · exact hu
    have x5 : sm_I M1 (g.1 5 e) 5 = nI (s_ (p_eIn1 P e) 105 e) := rc_I h1 hl rfl
    have x3 : sm_I M1 (g.1 5 e) 3 = nI (s_ P 103 e) := by rw [← hp 103 e (by decide)]; exact rc_I h1 hl rfl
    have x0 : sm_I M1 (g.1 5 e) 0 = nI (s_ P 100 e) := by rw [← hp 100 e (by decide)]; exact rc_I h1 hl rfl
    unfold p_eIn
    rw [if_neg (by omega)]
    refine bb_82_39 ⟨rc_K h1 hl, fun q => ⟨_, rfl, rc_Ks h1 (c := 4) hd, ?_⟩, fun q => ⟨_, rfl, rc_Ks h1 (c := 4) hd, ru_mono (c_answer h1 hd (show 10 < 2 ^ 31 by decide)) ?_⟩⟩
    · rw [x5, show (0 : Int32) = nI 0 from rfl, nI_eq (by omega) (by decide)] at q
      rw [x3, x0, if_neg q]
      refine ru_mono (c_answerData h1 hd ht b0) ?_
      rintro v M2 ⟨rfl, h2⟩
      refine bb_82_65 ?_
      have hb2 : b_ (p_ansD (p_eIn1 P e) d (s_ P 103 e) (s_ P 100 e)) 1 (1 + e) = b_ P 1 (1 + e) := by
        unfold p_ansD p_ans
        rw [b_S, b_S, b_S, b_B, if_neg (by omega), b_S, hb]
      have := c_eIn_loop (D := D) (P := p_ansD (p_eIn1 P e) d (s_ P 103 e) (s_ P 100 e)) (u := s_ (p_eIn1 P e) 105 e) hd hl (by rw [hb2]; exact hu1.1) hu1.2 (by unfold p_ansD p_ans; simp [s_S, s_B]) (s_ (p_eIn1 P e) 105 e) 0 M2 (by omega) ?_
      · rw [hb2] at this; exact this
      · rw [List.take_zero]
        have e9 : pB (p_ansD (p_eIn1 P e) d (s_ P 103 e) (s_ P 100 e)) 7 (60 + d) [] = p_ansD (p_eIn1 P e) d (s_ P 103 e) (s_ P 100 e) := by
          have : b_ (p_ansD (p_eIn1 P e) d (s_ P 103 e) (s_ P 100 e)) 7 (60 + d) = [] := by
            unfold p_ansD p_ans
            rw [b_S, b_S, b_S, b_Bs]
          conv => lhs; rw [← this]
          exact pBe
        rw [e9]; exact h2
    · rw [x5, Decidable.not_not, show (0 : Int32) = nI 0 from rfl, nI_eq (by omega) (by decide)] at q
      rintro v M2 ⟨rfl, h2⟩
      refine bb_82_52 ⟨rfl, ?_⟩
      rw [if_pos q]; exact h2
  refine bb_82_0 ⟨rc_K h hl, fun q => ⟨fun q1 => ?_, fun q1 => ⟨_, (rc_EB h hl).1, rc_K h lB, ?_⟩⟩, fun q => ⟨_, rfl, rc_Ks h (c := 4) hd, ru_mono (c_answer h hd (show 14 < 2 ^ 31 by decide)) ?_⟩⟩
  · rw [e4, show (0 : Int32) = nI 0 from rfl, nI_eq b4 (by decide)] at q
    rw [e5, show (0 : Int32) = nI 0 from rfl, nI_eq (by omega) (by decide)] at q1
    exact key M (by unfold p_eIn1; rw [if_neg q1]; exact h) q
  · rw [e4, show (0 : Int32) = nI 0 from rfl, nI_eq b4 (by decide)] at q
    rw [e5, Decidable.not_not, show (0 : Int32) = nI 0 from rfl, nI_eq (by omega) (by decide)] at q1
    rw [hcnt, e1, nmin (by omega) (by omega)]
    exact key _ (by unfold p_eIn1; rw [if_pos q1]; exact rc_w (c := 5) (k := 5) h hl rfl (by omega) rfl) q
  · rintro v M1 ⟨rfl, h1⟩
    rw [e4, show (0 : Int32) = nI 0 from rfl, nI_eq b4 (by decide)] at q
    refine bb_82_13 ⟨rfl, ?_⟩
    unfold p_eIn
    rw [if_pos q]
    exact h1
/-- ACK -/
def p_eAck (P : pP) (e : Nat) : pP := pS (pS (pB P 1 (1 + e) ((b_ P 1 (1 + e)).drop (s_ P 105 e))) 105 e 0) 103 e (1 - s_ P 103 e)
theorem c_eAck {e : Nat} (h : RC g P M) (hl : g.2.1 5 e = true) (ht : s_ P 103 e ≤ 1) : sm_Run (D + 2) 83 0 (sm_ent 83 [.inr (some (g.1 5 e))]) [] M (fun v M' => v = none ∧ RC g (p_eAck P e) M') := by
  have e5 : sm_I M (g.1 5 e) 5 = nI (s_ P 105 e) := rc_I h hl rfl
  have b5 : s_ P 105 e < 2 ^ 31 := rc_b h (c := 5) (k := 5) hl rfl
  refine bb_83_0 ⟨rc_K h hl, _, (rc_EB h hl).1, rc_K h (rc_EB h hl).2, ?_⟩
  rw [e5]
  refine ru_mono (c_rdrop h (rc_EB h hl).2 b5) ?_
  rintro v M1 ⟨rfl, h1⟩
  have h2 := rc_w (c := 5) (k := 5) (v := 0) h1 hl rfl (show 0 < 2 ^ 31 by decide) rfl
  refine bb_83_11 ⟨rc_K h1 hl, rfl, ?_⟩
  have e3 : sm_I (sm_putI M1 (g.1 5 e) 5 0) (g.1 5 e) 3 = nI (s_ P 103 e) := rc_I h2 hl rfl
  rw [e3, nx1 ht]
  exact rc_w (c := 5) (k := 3) h2 hl rfl (by omega) rfl
end EN
