/-! Wire: carry, hasAnswer, levels -/
section CB
variable {g : pG} {P : pP} {M M' : sm_M} {D : Nat}
def p_hears (P : pP) (s : Nat) (r : Option Nat) : Nat → pP
  | 0 => P
  | n + 1 => if s = n + 1 ∨ s_ (p_hears P s r n) 83 n = 0 then p_hears P s r n else p_hear (p_hears P s r n) n r
def p_carry1 (P : pP) : pP × Option Nat := if s_ P 227 0 = 0 then (P, some (nk P)) else p_strike P (nk P)
def p_carry (P : pP) : pP × Option Nat := (p_hears (pS (p_carry1 P).1 228 0 (s_ P 228 0 + 1)) (s_ P 140 (nk P)) (p_carry1 P).2 6, (p_carry1 P).2)
/-- what the loop over the devices needs -/
def HearOk (P : pP) (j s : Nat) (r : Option Nat) : Prop := ∀ n, n < 6 → s_ (p_hears P s r n) 140 j = s ∧ (s_ (p_hears P s r n) 83 n ≠ 0 → DI (p_hears P s r n) n) ∧ ∀ j', r = some j' → j' < 60 ∧ s_ (p_hears P s r n) 141 j' < 16 ∧ ∀ x ∈ b_ (p_hears P s r n) 7 j', x < 256
theorem c_hears {j s : Nat} {r : Option Nat} (hj : j < 60) (hH : HearOk P j s r) : ∀ (m i : Nat) (M : sm_M), i + m = 6 → RC g (p_hears P s r i) M →
    sm_Run (D + 5) 143 42 [some (.inr (some (g.1 11 0))), some (.inr (some (g.1 7 j))), some (.inr (r.map (fun j => g.1 7 j))), some (.inl (nI i))] [] M (fun v M' => v = some (.inr (r.map (fun j => g.1 7 j))) ∧ RC g (p_hears P s r 6) M') := by
  intro m
  induction m with
  | zero =>
    intro i M hi h
    obtain rfl : i = 6 := by omega
    exact bb_143_42 ⟨fun _ => ⟨rfl, h⟩, fun q => absurd (by decide) q⟩
  | succ m ih =>
    intro i M hi h
    have hi6 : i < 6 := by omega
    obtain ⟨a1, a2, a3⟩ := hH i hi6
    have l4 := (lq_s h hi6).1
    have l7 := (lq_p h (show j < 66 by omega)).1
    have l11 := rc_st h (c := 11) (i := 0) (by decide)
    have l25 := rc_st h (c := 25) (i := 0) (by decide)
    have hj66 : j < 66 := by omega
    have b0 := rc_B h 140 j
    have eN : ∀ {Q : pP}, Q = p_hears P s r (i + 1) → RC g Q M → sm_Run (D + 5) 143 42 [some (.inr (some (g.1 11 0))), some (.inr (some (g.1 7 j))), some (.inr (r.map (fun j => g.1 7 j))), some (.inl (nI (i + 1)))] [] M (fun v M' => v = some (.inr (r.map (fun j => g.1 7 j))) ∧ RC g (p_hears P s r 6) M') := by
      rintro Q rfl hQ
      exact ih (i + 1) M (by omega) hQ
    refine bb_143_42 ?_
    simp (disch := first | assumption | exact rc_B (by assumption) _ _ | omega | decide) only [kK_4 h, kK_7 h, kK_11 h, kK_25 h, rd_11_3 h, rd_25_i h, kN_25 h, rI_140 h, rI_83 h, li_0, li_1, li_6, nI_add, nI_eq, nI_leI, nI_E, nI_clamp, eK_16, Option.some.injEq, exists_eq_left', true_and]
    rw [a1]
    rw [a1] at b0
    refine ⟨fun q => by omega, fun _ => ⟨fun q => ?_, fun q => ⟨fun q1 => ?_, fun q1 => ?_⟩⟩⟩
    · exact eN (by show _ = if s = i + 1 ∨ _ then _ else _; rw [if_pos (Or.inl q)]) h
    · exact eN (by show _ = if s = i + 1 ∨ _ then _ else _; rw [if_pos (Or.inr q1)]) h
    · refine ru_mono (c_hear h hi6 (a2 q1) (fun j' hj' => ?_)) ?_
      · obtain ⟨z1, z2, z3⟩ := a3 j' hj'
        exact ⟨by omega, by omega, z2, z3⟩
      · rintro v M1 ⟨rfl, h1⟩
        refine bb_143_78 ?_
        rw [nI_1]
        refine ih (i + 1) M1 (by omega) ?_
        show RC g (if s = i + 1 ∨ _ then _ else _) M1
        rw [if_neg]
        · exact h1
        · rintro (c | c)
          · exact q c
          · exact q1 c
theorem c_carry (h : RC g P M) (hs : s_ P 228 0 + 1 < 2 ^ 31) (hP : PKo P (nk P)) (hH : HearOk (pS (p_carry1 P).1 228 0 (s_ P 228 0 + 1)) (nk P) (s_ P 140 (nk P)) (p_carry1 P).2) (h8 : s_ (p_carry1 P).1 228 0 = s_ P 228 0) : sm_Run (D + 5) 143 0 (sm_ent 143 [.inr (some (g.1 11 0))]) [] M (fun v M' => v = some (.inr ((p_carry P).2.map (fun j => g.1 7 j))) ∧ RC g (p_carry P).1 M') := by
  have l11 := rc_st h (c := 11) (i := 0) (by decide)
  have l22 := rc_st h (c := 22) (i := 0) (by decide)
  have hn : nk P < 60 := Nat.mod_lt _ (by decide)
  have hn' : s_ P 228 0 % 60 < 60 := hn
  have e1 := (rc_e h).1
  have e2 := (rc_e h).2.1
  refine bb_143_0 ?_
  simp (disch := first | assumption | exact rc_B (by assumption) _ _ | omega | decide) only [kK_11 h, kK_22 h, rd_11_0 h, rd_22_i h, kN_22 h, rI_228 h, pk_rem, e1, li_0, li_1, li_60, nI_add, nI_eq, nI_clamp, eK_25, Decidable.not_not, Option.some.injEq, exists_eq_left', true_and]
  refine ⟨fun q => ?_, fun q => ?_⟩
  · refine ru_mono (c_strike h (show nk P < 66 by omega) hP) ?_
    rintro v M1 ⟨rfl, h1⟩
    have ec : p_carry1 P = p_strike P (nk P) := by unfold p_carry1; rw [if_neg q]
    unfold p_carry
    rw [ec] at hH h8 ⊢
    refine bb_143_29 ⟨rc_K h1 l11, ?_⟩
    have e8 : sm_I M1 (g.1 11 0) 8 = nI (s_ P 228 0) := (rI_228 h1).trans (congrArg nI h8)
    rw [e8, nI_1]
    exact c_hears hn hH 6 0 _ rfl (rc_w' h1 l11 hs)
  · have ec : p_carry1 P = (P, some (nk P)) := by unfold p_carry1; rw [if_pos q]
    unfold p_carry
    rw [ec] at hH h8 ⊢
    exact c_hears hn hH 6 0 _ rfl (rc_w' h l11 hs)
/-- Packet.copyBytesTo -/
theorem c_copy {i j : Nat} (h : RC g P M) (hi : i < 66) (hj : j < 66) (hij : i ≠ j) : sm_Run (D + 1) 110 0 (sm_ent 110 [.inr (some (g.1 7 i)), .inr (some (g.1 7 j))]) [] M (fun v M' => v = none ∧ RC g (pB P 7 j (b_ P 7 i)) M') := by
  have l7i := lq_p h hi
  have l7j := lq_p h hj
  have n1 : g.1 7 i ≠ g.1 7 j := rf_ne h.1.1 l7i.1 l7j.1 (by omega)
  have n2 : g.1 27 i ≠ g.1 27 j := rf_ne h.1.1 l7i.2 l7j.2 (by omega)
  have n3 : g.1 7 j ≠ g.1 27 j := rf_ne h.1.1 l7j.1 l7j.2 (by omega)
  have n4 : g.1 27 i ≠ g.1 7 j := rf_ne h.1.1 l7i.2 l7j.1 (by omega)
  have e4 := rl_7 h hi
  have h64 := rl_64 h hi
  have L1 : sm_L M (g.1 27 i) = 64 := kL_27 h l7i.2
  have L2 : sm_L M (g.1 27 j) = 64 := kL_27 h l7j.2
  have hr : sm_I (sm_putI M (g.1 7 j) 4 (sm_I M (g.1 7 i) 4)) (g.1 7 i) 4 = nI (b_ P 7 i).length := by rw [I_put_a n1, e4]
  refine bb_110_0 ⟨rc_K h l7i.1, _, rfl, rc_K h l7j.1, _, (rd_7_3 h hj :), _, (rd_7_3 h hi :), rc_iA h l7i.2 (by decide), rc_wA h l7j.2 (by decide), ?_, ?_, rfl, ?_⟩
  · rw [hr, nI_toInt (by omega)]
    exact ⟨by decide, by decide, by omega⟩
  · rw [hr, nI_toInt (by omega), L1, L2]
    show (0 : Int) + _ ≤ _ ∧ (0 : Int) + _ ≤ _
    omega
  · rw [hr, nI_clamp (by omega), show (0 : Int32).toNatClampNeg = 0 from rfl, e4]
    refine rc_pk h hj (ch_tr (ch_tp l7j.1 (Or.inl ⟨rfl, rfl, rfl⟩)) (ch_mo ch_row (fun b k q => ⟨27, j, Or.inr ⟨rfl, rfl⟩, l7j.2, q⟩))) ?_ h64 (fun k hk => ?_)
    · rw [I_row_ne n3, I_put_s]
    · rw [I_row]
      unfold va_cpy
      rw [if_pos (by omega), I_put_a n4, Nat.zero_add]
      exact (h.2.2.1 i hi).2.2 _ hk
/-- Wire.hasAnswer -/
def ansD (P : pP) : Option Nat := (List.range 6).find? (fun d => s_ P 83 d != 0 && s_ P 91 d != 0)
def p_bring (P : pP) (d : Nat) : pP := pS (pB (p_rst P (nk P) (d + 1) (s_ P 141 (60 + d))) 7 (nk P) (b_ P 7 (60 + d))) 91 d 0
def p_hasAns (P : pP) : pP × Bool := match ansD P with
  | none => (P, false)
  | some d => (p_bring P d, true)
theorem c_hasAns (h : RC g P M) : sm_Run (D + 2) 145 0 (sm_ent 145 [.inr (some (g.1 11 0))]) [] M (fun v M' => v = some (.inl (bI (p_hasAns P).2)) ∧ RC g (p_hasAns P).1 M') := by
  have l11 := rc_st h (c := 11) (i := 0) (by decide)
  have l25 := rc_st h (c := 25) (i := 0) (by decide)
  have hn : nk P < 60 := Nat.mod_lt _ (by decide)
  have key : ∀ (m i : Nat), i + m = 6 → (∀ k, k < i → (s_ P 83 k != 0 && s_ P 91 k != 0) = false) → sm_Run (D + 2) 145 2 [some (.inr (some (g.1 11 0))), some (.inl (nI i)), none] [] M (fun v M' => v = some (.inl (bI (p_hasAns P).2)) ∧ RC g (p_hasAns P).1 M') := by
    intro m
    induction m with
    | zero =>
      intro i hi hn
      obtain rfl : i = 6 := by omega
      have e : ansD P = none := List.find?_eq_none.mpr (fun x hx => by rw [hn x (List.mem_range.mp hx)]; decide)
      unfold p_hasAns
      rw [e]
      exact bb_145_2 ⟨fun _ => ⟨rfl, h⟩, fun q => absurd (by decide) q⟩
    | succ m ih =>
      intro i hi hn'
      have hi6 : i < 6 := by omega
      obtain ⟨l4, l3, l8, l7, l26, l28, l29, l35, l67⟩ := lq_s h hi6
      have nx : (s_ P 83 i != 0 && s_ P 91 i != 0) = false → ∀ k, k < i + 1 → (s_ P 83 k != 0 && s_ P 91 k != 0) = false := by
        intro q k hk
        rcases Nat.lt_or_ge k i with h1 | h1
        · exact hn' k h1
        · obtain rfl : k = i := by omega
          exact q
      refine bb_145_2 ?_
      simp (disch := first | assumption | exact rc_B (by assumption) _ _ | omega | decide) only [kK_4 h, kK_7 h, kK_11 h, kK_25 h, rd_11_3 h, rd_4_12 h, rd_25_i h, kN_25 h, rI_83 h, rI_91 h, rI_141 h, li_0, li_1, li_6, nI_add, nI_eq, nI_leI, nI_clamp, eK_16, Option.some.injEq, exists_eq_left', true_and]
      refine ⟨fun q => by omega, fun _ => ⟨fun q => ?_, fun q => ⟨fun q1 => ?_, fun q1 => ?_⟩⟩⟩
      · exact ih (i + 1) (by omega) (nx (by rw [q]; rfl))
      · exact ih (i + 1) (by omega) (nx (by rw [q1]; simp))
      · have e : ansD P = some i := by
          unfold ansD
          rw [rf_r (i := i) (by omega) hn', show 6 - i = (6 - i - 1) + 1 by omega, List.range'_succ]
          exact List.find?_cons_of_pos (by simp [q, q1])
        have := c_blank (D := D) (s := i + 1) (k := s_ P 141 (60 + i)) h (by omega) (rc_B h _ _)
        rw [nE_s] at this
        refine ru_mono this ?_
        rintro v M1 ⟨rfl, h1⟩
        refine bb_145_52 ⟨_, rfl, rc_K h1 l7, ?_⟩
        refine ru_mono (c_copy h1 (show 60 + i < 66 by omega) (show nk P < 66 by omega) (by omega)) ?_
        rintro v M2 ⟨rfl, h2⟩
        have eb : b_ (p_rst P (nk P) (i + 1) (s_ P 141 (60 + i))) 7 (60 + i) = b_ P 7 (60 + i) := by
          unfold p_rst
          rw [b_S, b_B, if_neg (by omega), b_S, b_S, b_S]
        rw [eb] at h2
        refine bb_145_55 ⟨rc_K h2 l11, _, rd_11_3 h2, ⟨4, rc_K h2 l25⟩, rc_in h2 l25 (by decide) (show i < 6 by omega) (by decide), _, by rw [nI_clamp (by omega)]; exact rd_25_i h2 hi6, rc_K h2 l4, ?_⟩
        unfold p_hasAns
        rw [e]
        exact ⟨rfl, rc_w' h2 l4 (show 0 < 2 ^ 31 by decide)⟩
  exact bb_145_0 (key 6 0 rfl (fun k hk => absurd hk (Nat.not_lt_zero _)))
/-- Wire.recent -/
def rec_ (P : pP) (p : Nat) : Prop := p < s_ P 228 0 ∧ s_ P 228 0 ≤ p + 60
theorem c_recent {p : Nat} (h : RC g P M) (hp : p < 2 ^ 31) (hs : s_ P 228 0 < 2 ^ 30) : sm_Run D 146 0 (sm_ent 146 [.inr (some (g.1 11 0)), .inl (nI p)]) [] M (fun v M' => v = some (.inr (if p < s_ P 228 0 ∧ s_ P 228 0 ≤ p + 60 then some (g.1 7 (p % 60)) else none)) ∧ M = M') := by
  have l11 := rc_st h (c := 11) (i := 0) (by decide)
  have l22 := rc_st h (c := 22) (i := 0) (by decide)
  have e8 := rI_228 h
  have b8 := rc_B h 228 0
  have hm : nI p - nI p / 60 * 60 = nI (p % 60) := pk_rem hp (by decide) (by decide)
  refine bb_146_0 ⟨fun q => absurd q (nI_pos hp), fun _ => ⟨rc_K h l11, fun q => ?_, fun q => ⟨fun q1 => ?_, fun q1 => ⟨_, rd_11_0 h, ⟨7, rc_K h l22⟩, ?_, ?_⟩⟩⟩⟩
  · rw [e8, nI_leI b8 hp] at q
    rw [if_neg (by omega)]
    exact ⟨rfl, rfl⟩
  · rw [e8, nI_leI b8 hp] at q
    rw [e8, Int32.lt_iff_toInt_lt, nI_toInt hp, show (60 : Int32) = nI 60 from rfl, pk_sub_toInt hs (by decide)] at q1
    rw [if_neg (by omega)]
    exact ⟨rfl, rfl⟩
  · rw [hm]
    exact rc_in h l22 (by decide) (show p % 60 < 60 from Nat.mod_lt _ (by decide)) (by decide)
  · rw [e8, nI_leI b8 hp] at q
    rw [e8, Int32.lt_iff_toInt_lt, nI_toInt hp, show (60 : Int32) = nI 60 from rfl, pk_sub_toInt hs (by decide)] at q1
    rw [if_pos (by omega), hm, nI_clamp (by omega), rd_22_i h (Nat.mod_lt _ (by decide))]
    exact ⟨rfl, rfl⟩
theorem c_recent_neg {x : Int32} (hx : x < 0) : sm_Run D 146 0 (sm_ent 146 [.inr (some (g.1 11 0)), .inl x]) [] M (fun v M' => v = some (.inr none) ∧ M = M') :=
  bb_146_0 ⟨fun _ => ⟨rfl, rfl⟩, fun q => absurd hx q⟩
/-- Wire.layOut, countLevels, levelOf -/
def p_lay (P : pP) (p : Nat) : pP := if s_ P 229 0 = p + 1 then P else pS (pB P 24 0 (p_lev P (p % 60))) 229 0 (p + 1)
theorem c_lay {p : Nat} (h : RC g P M) (hp : p + 1 < 2 ^ 31) (hP : PKo P (p % 60)) : sm_Run (D + 4) 147 0 (sm_ent 147 [.inr (some (g.1 11 0)), .inl (nI p)]) [] M (fun v M' => v = none ∧ RC g (p_lay P p) M') := by
  have l11 := rc_st h (c := 11) (i := 0) (by decide)
  have l22 := rc_st h (c := 22) (i := 0) (by decide)
  have l2 := rc_st h (c := 2) (i := 0) (by decide)
  have hm : nI p - nI p / 60 * 60 = nI (p % 60) := pk_rem (by omega) (by decide) (by decide)
  have h60 : p % 60 < 60 := Nat.mod_lt _ (by decide)
  refine bb_147_0 ⟨rc_K h l11, fun q => ?_, fun q => ⟨_, rd_11_0 h, ⟨7, rc_K h l22⟩, ?_, _, rd_11_2 h, rc_K h l2, ?_⟩⟩
  · rw [rI_229 h, nE_I (rc_B h _ _) hp] at q
    unfold p_lay
    rw [if_pos q]
    exact ⟨rfl, h⟩
  · rw [hm]; exact rc_in h l22 (by decide) (show p % 60 < 60 from h60) (by decide)
  · rw [rI_229 h, nE_I (rc_B h _ _) hp] at q
    rw [hm, nI_clamp (by omega), rd_22_i h h60]
    refine ru_mono (c_encode h (show p % 60 < 66 by omega) hP) ?_
    rintro v M1 ⟨rfl, h1⟩
    refine bb_147_24 ⟨rc_K h1 l11, rfl, ?_⟩
    unfold p_lay
    rw [if_neg q]
    exact rc_w' h1 l11 hp rfl (nE_s _).symm
theorem c_countLevels {p : Nat} (h : RC g P M) (hp : p + 1 < 2 ^ 31) (hP : PKo P (p % 60)) : sm_Run (D + 5) 148 0 (sm_ent 148 [.inr (some (g.1 11 0)), .inl (nI p)]) [] M (fun v M' => v = some (.inl (nI (b_ (p_lay P p) 24 0).length)) ∧ RC g (p_lay P p) M') := by
  have l11 := rc_st h (c := 11) (i := 0) (by decide)
  have l2 := rc_st h (c := 2) (i := 0) (by decide)
  refine bb_148_0 ⟨rc_K h l11, ru_mono (c_lay h hp hP) ?_⟩
  rintro v M1 ⟨rfl, h1⟩
  refine bb_148_5 ⟨rc_K h1 l11, _, rd_11_2 h1, rc_K h1 l2, ?_, h1⟩
  rw [(rc_f h1).1]
theorem c_levelOf {p i : Nat} (h : RC g P M) (hp : p + 1 < 2 ^ 31) (hi : i < 2 ^ 31) (hP : PKo P (p % 60)) : sm_Run (D + 5) 149 0 (sm_ent 149 [.inr (some (g.1 11 0)), .inl (nI p), .inl (nI i)]) [] M (fun v M' => if s_ P 145 (p % 60) = 2 ∧ i = s_ P 146 (p % 60) then v = some (.inl (nI (s_ P 147 (p % 60)))) ∧ RC g P M' else v = some (.inl (if i < (b_ (p_lay P p) 24 0).length then nI ((b_ (p_lay P p) 24 0).getD i 0) else -1)) ∧ RC g (p_lay P p) M') := by
  have l11 := rc_st h (c := 11) (i := 0) (by decide)
  have l22 := rc_st h (c := 22) (i := 0) (by decide)
  have l2 := rc_st h (c := 2) (i := 0) (by decide)
  have l24 := rc_st h (c := 24) (i := 0) (by decide)
  have hm : nI p - nI p / 60 * 60 = nI (p % 60) := pk_rem (by omega) (by decide) (by decide)
  have h60 : p % 60 < 60 := Nat.mod_lt _ (by decide)
  have h66 : p % 60 < 66 := by omega
  have l7 := (lq_p h h66).1
  have b6 := rc_B h 146 (p % 60)
  have tail : ¬ (s_ P 145 (p % 60) = 2 ∧ i = s_ P 146 (p % 60)) → sm_Run (D + 4) 147 0 (sm_ent 147 [.inr (some (g.1 11 0)), .inl (nI p)]) [] M (fun v M1 => sm_Run (D + 5) 149 36 [some (.inr (some (g.1 11 0))), some (.inl (nI p)), some (.inl (nI i)), some (.inr (some (g.1 7 (p % 60))))] (v.toList ++ []) M1 (fun v M' => if s_ P 145 (p % 60) = 2 ∧ i = s_ P 146 (p % 60) then v = some (.inl (nI (s_ P 147 (p % 60)))) ∧ RC g P M' else v = some (.inl (if i < (b_ (p_lay P p) 24 0).length then nI ((b_ (p_lay P p) 24 0).getD i 0) else -1)) ∧ RC g (p_lay P p) M')) := by
    intro c
    simp only [if_neg c]
    refine ru_mono (c_lay h hp hP) ?_
    rintro v M1 ⟨rfl, h1⟩
    obtain ⟨f1, f2, f3⟩ := rc_f h1
    refine bb_149_36 ⟨fun q => absurd q (nI_pos hi), fun _ => ⟨rc_K h1 l11, _, rd_11_2 h1, rc_K h1 l2, fun q => ⟨?_, h1⟩, fun q => ⟨_, rd_11_2 h1, rc_K h1 l2, _, rd_2_2 h1, rc_iA h1 l24 (by decide), ?_, ?_, h1⟩⟩⟩
    · rw [f1, nI_leI (by omega) hi] at q
      rw [if_neg (by omega)]
    · rw [f1, nI_leI (by omega) hi] at q
      exact rc_in h1 l24 (by decide) (show i < 660 by omega) (by decide)
    · rw [f1, nI_leI (by omega) hi] at q
      rw [if_pos (by omega), nI_clamp hi, f3 i (by omega)]
  refine bb_149_0 ⟨rc_K h l11, _, rd_11_0 h, ⟨7, rc_K h l22⟩, ?_, g.1 7 (p % 60), ?_, rc_K h l7, fun q => ?_, fun q => ⟨fun q1 => ?_, fun q1 => ?_⟩⟩
  · rw [hm]; exact rc_in h l22 (by decide) (show p % 60 < 60 from h60) (by decide)
  · rw [hm, nI_clamp (by omega)]; exact rd_22_i h h60
  · rw [rI_145 h h66, li_2, nI_eq (rc_B h _ _) (by decide)] at q
    exact tail (fun c => q c.1)
  · rw [rI_146 h h66, nI_eq hi b6] at q1
    exact tail (fun c => q1 c.2)
  · rw [rI_145 h h66, li_2, Decidable.not_not, nI_eq (rc_B h _ _) (by decide)] at q
    rw [rI_146 h h66, Decidable.not_not, nI_eq hi b6] at q1
    show if s_ P 145 (p % 60) = 2 ∧ i = s_ P 146 (p % 60) then _ else _
    rw [if_pos ⟨q, q1⟩]
    exact ⟨by rw [rI_147 h h66], h⟩
end CB
