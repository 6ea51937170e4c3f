/-! Transfer -/
section TR
variable {g : pG} {P : pP} {M M' : sm_M} {D : Nat}
abbrev asks (P : pP) (t : Nat) : Prop := (s_ P 209 t = 2 ∧ (s_ P 203 t = 0 ∨ (b_ P 36 t).length = 0)) ∨ (s_ P 209 t = 1 ∧ s_ P 203 t ≠ 0)
/-- of a transfer that is served -/
def TI (P : pP) (t : Nat) : Prop := s_ P 210 t ≤ (b_ P 36 t).length ∧ s_ P 185 (s_ P 213 t) ≤ 1 ∧ s_ P 212 t < 3 ∧ s_ P 209 t ≤ 2 ∧ s_ P 202 t ≤ 64
theorem c_asksIn {t : Nat} (h : RC g P M) (ht : t < s_ P 122 0) : sm_Run D 126 0 (sm_ent 126 [.inr (some (g.1 10 t))]) [] M (fun v M' => v = some (.inl (bI (decide (asks P t)))) ∧ M = M') := by
  obtain ⟨l10, l36, l9⟩ := lq_10 h ht
  have h100 := (r_36 h ht).2.1
  refine bb_126_0 ?_
  simp (disch := first | assumption | exact rc_B (by assumption) _ _ | omega | decide) only [kK_10 h, rd_10_4 h, aK_36 h, kL_36 h, oN, rI_209 h, rI_203 h, li_0, li_1, li_2, nI_eq, Decidable.not_not, Option.some.injEq, exists_eq_left', true_and, and_true]
  refine ⟨fun q => ⟨fun q1 => ?_, fun q1 => ⟨fun q2 => ?_, fun q2 => ?_⟩⟩, fun q => ⟨fun q2 => ?_, fun q2 => ⟨fun q3 => ?_, fun q3 => ?_⟩⟩⟩
  · rw [decide_eq_false (by unfold asks; omega)]; rfl
  · rw [decide_eq_false (by unfold asks; omega)]; rfl
  · rw [decide_eq_true (show asks P t by unfold asks; omega)]; rfl
  · rw [decide_eq_true (show asks P t by unfold asks; omega)]; rfl
  · rw [decide_eq_false (by unfold asks; omega)]; rfl
  · rw [decide_eq_true (show asks P t by unfold asks; omega)]; rfl
def tKind (P : pP) (t : Nat) : Nat := if s_ P 209 t = 0 then 13 else if asks P t then 9 else 1
theorem c_tokenKind {t : Nat} (h : RC g P M) (ht : t < s_ P 122 0) : sm_Run (D + 1) 127 0 (sm_ent 127 [.inr (some (g.1 10 t))]) [] M (fun v M' => v = some (.inl (nI (tKind P t))) ∧ M = M') := by
  obtain ⟨l10, l36, l9⟩ := lq_10 h ht
  unfold tKind
  refine bb_127_0 ?_
  simp (disch := first | assumption | exact rc_B (by assumption) _ _ | omega | decide) only [kK_10 h, rI_209 h, li_0, li_13, nI_eq, Decidable.not_not, Option.some.injEq, true_and, and_true]
  refine ⟨fun q => ru_mono (c_asksIn h ht) ?_, fun q => ?_⟩
  · rintro v M1 ⟨rfl, rfl⟩
    rw [if_neg q]
    refine bb_127_16 ⟨fun q1 => ?_, fun q1 => ?_⟩
    · rw [bI_t] at q1; rw [if_neg q1]; exact ⟨rfl, rfl⟩
    · rw [bI_t, Decidable.not_not] at q1; rw [if_pos q1]; exact ⟨rfl, rfl⟩
  · rw [if_pos q]
def tNum (P : pP) (t : Nat) : Nat := (if s_ P 208 t = 1 ∨ s_ P 208 t = 2 then 0 else s_ P 200 t + 1) + 128 * (s_ P 180 (s_ P 213 t) % 16)
theorem c_tokenNumber {t : Nat} (h : RC g P M) (ht : t < s_ P 122 0) : sm_Run D 128 0 (sm_ent 128 [.inr (some (g.1 10 t))]) [] M (fun v M' => v = some (.inl (nI (tNum P t))) ∧ M = M') := by
  obtain ⟨l10, l36, l9⟩ := lq_10 h ht
  have b0 := rc_B h 180 (s_ P 213 t)
  have ha : nI (s_ P 180 (s_ P 213 t)) &&& nI 15 = nI (s_ P 180 (s_ P 213 t) % 16) := pk_andN (by omega) 4 (by decide)
  have h16 : s_ P 208 t = 1 ∨ s_ P 208 t = 2 → sm_Run D 128 16 [some (.inr (some (g.1 10 t))), none] [] M (fun v M' => v = some (.inl (nI (tNum P t))) ∧ M = M') := by
    intro q
    refine bb_128_16 ?_
    simp (disch := first | assumption | exact rc_B (by assumption) _ _ | omega | decide) only [kK_9 h, kK_10 h, rd_10_1 h, rI_180 h, show (15 : Int32) = nI 15 from rfl, ha, li_0, li_128, nI_add, pk_mul, Option.some.injEq, exists_eq_left', true_and, and_true]
    unfold tNum
    rw [if_pos q]
  refine bb_128_0 ?_
  simp (disch := first | assumption | exact rc_B (by assumption) _ _ | omega | decide) only [kK_9 h, kK_10 h, rd_10_1 h, rI_208 h, rI_200 h, rI_180 h, show (15 : Int32) = nI 15 from rfl, ha, li_1, li_2, li_128, nI_add, pk_mul, nI_eq, Decidable.not_not, Option.some.injEq, exists_eq_left', true_and, and_true]
  refine ⟨fun q => h16 (Or.inl q), fun q => ⟨fun q1 => ?_, fun q1 => h16 (Or.inr q1)⟩⟩
  unfold tNum
  rw [if_neg (by omega)]
def chk (P : pP) (t : Nat) : Nat := if s_ P 209 t = 1 then min (s_ P 202 t) ((b_ P 36 t).length - s_ P 210 t) else 0
theorem c_chunk {t : Nat} (h : RC g P M) (ht : t < s_ P 122 0) (ho : s_ P 210 t ≤ (b_ P 36 t).length) : sm_Run (D + 1) 129 0 (sm_ent 129 [.inr (some (g.1 10 t))]) [] M (fun v M' => v = some (.inl (nI (chk P t))) ∧ M = M') := by
  obtain ⟨l10, l36, l9⟩ := lq_10 h ht
  have h100 := (r_36 h ht).2.1
  have b2 := rc_B h 202 t
  unfold chk
  refine bb_129_0 ?_
  simp (disch := first | assumption | exact rc_B (by assumption) _ _ | omega | decide) only [kK_10 h, rd_10_4 h, aK_36 h, kL_36 h, oN, rI_209 h, rI_210 h, rI_202 h, li_0, li_1, nI_eq, nI_ltI, pk_sub, Decidable.not_not, Option.some.injEq, exists_eq_left', true_and, and_true]
  refine ⟨fun q => ?_, fun q => ?_⟩
  · rw [if_neg q]
  · rw [if_pos q]
    by_cases hc : (b_ P 36 t).length - s_ P 210 t < s_ P 202 t
    · rw [if_pos hc, Nat.min_eq_right (by omega)]
    · rw [if_neg hc, Nat.min_eq_left (by omega)]
def tDat (P : pP) (t : Nat) : Nat := if s_ P 209 t = 0 then 3 else if s_ P 209 t = 2 then 11 else dkn (s_ P 185 (s_ P 213 t))
theorem c_dataToSend {t : Nat} (h : RC g P M) (ht : t < s_ P 122 0) : sm_Run (D + 1) 130 0 (sm_ent 130 [.inr (some (g.1 10 t))]) [] M (fun v M' => v = some (.inl (nI (tDat P t))) ∧ M = M') := by
  obtain ⟨l10, l36, l9⟩ := lq_10 h ht
  unfold tDat
  refine bb_130_0 ?_
  simp (disch := first | assumption | exact rc_B (by assumption) _ _ | omega | decide) only [kK_9 h, kK_10 h, rd_10_1 h, rI_209 h, rI_185 h, li_0, li_2, li_3, li_11, nI_eq, Decidable.not_not, Option.some.injEq, exists_eq_left', true_and, and_true]
  refine ⟨fun q => ⟨fun q1 => ru_mono (c_dataKind (rc_B h _ _)) ?_, fun q1 => ?_⟩, fun q => ?_⟩
  · rintro v M1 ⟨rfl, rfl⟩
    rw [if_neg q, if_neg q1]
    exact bb_130_34 ⟨rfl, rfl⟩
  · rw [if_neg q, if_pos q1]
  · rw [if_pos q]
/-- Transfer.fill -/
def fillB (P : pP) (t : Nat) : List Nat :=
  if s_ P 209 t = 0 then [s_ P 205 t / 256, s_ P 205 t % 256, s_ P 206 t % 256, s_ P 206 t / 256 % 256, s_ P 207 t % 256, s_ P 207 t / 256 % 256, (b_ P 36 t).length % 256, (b_ P 36 t).length / 256 % 256]
  else ((b_ P 36 t).drop (s_ P 210 t)).take (chk P t)
theorem c_fill_loop {t j n : Nat} (hj : j < 66) (ht : t < s_ P 122 0) (hn : s_ P 210 t + n ≤ (b_ P 36 t).length) (h64 : n ≤ 64) : ∀ (m i : Nat) (M : sm_M), i + m = n → RC g (pB P 7 j (((b_ P 36 t).drop (s_ P 210 t)).take i)) M →
    sm_Run (D + 1) 131 63 [some (.inr (some (g.1 10 t))), some (.inr (some (g.1 7 j))), some (.inl (nI n)), some (.inl (nI i))] [] M (fun v M' => v = none ∧ RC g (pB P 7 j (((b_ P 36 t).drop (s_ P 210 t)).take n)) M') := by
  intro m
  induction m with
  | zero =>
    intro i M hi h
    obtain rfl : i = n := by omega
    exact bb_131_63 ⟨fun _ => ⟨rfl, h⟩, fun q => absurd (nI_le (Nat.le_refl _) (by omega)) q⟩
  | succ m ih =>
    intro i M hi h
    have ht' : t < s_ (pB P 7 j (((b_ P 36 t).drop (s_ P 210 t)).take i)) 122 0 := ht
    obtain ⟨l10, l36, l9⟩ := lq_10 h ht'
    have l7 := (lq_p h hj).1
    have e36 : b_ (pB P 7 j (((b_ P 36 t).drop (s_ P 210 t)).take i)) 36 t = b_ P 36 t := by rw [b_B, if_neg (by omega)]
    have e210 : s_ (pB P 7 j (((b_ P 36 t).drop (s_ P 210 t)).take i)) 210 t = s_ P 210 t := rfl
    have h100 := (r_36 h ht').2.1
    rw [e36] at h100
    have hlt : s_ P 210 t + i < (b_ (pB P 7 j (((b_ P 36 t).drop (s_ P 210 t)).take i)) 36 t).length := by rw [e36]; omega
    refine bb_131_63 ?_
    simp (disch := first | assumption | exact rc_B (by assumption) _ _ | omega | decide) only [kK_7 h, kK_10 h, rd_10_4 h, kI_36 h, kN_36 h, kR_36 h, rI_210 h, e210, nI_add, nI_leI, nI_clamp, Option.some.injEq, exists_eq_left', true_and]
    refine ⟨fun q => by omega, fun _ => ?_⟩
    rw [e36]
    refine ru_mono (c_add h hj ?_) ?_
    · rw [b_Bs, List.length_take, List.length_drop]; omega
    rintro v M2 ⟨rfl, h2⟩
    refine bb_131_83 ?_
    rw [nI_1]
    refine ih (i + 1) M2 (by omega) ?_
    unfold p_add at h2
    rw [b_Bs, pBB, ← getD_dropN, ← take_sN (by rw [List.length_drop]; omega)] at h2
    exact h2
theorem c_fill {t j : Nat} (h : RC g P M) (hj : j < 66) (ht : t < s_ P 122 0) (hI : TI P t) (he : b_ P 7 j = []) (hw : s_ P 205 t < 65536) : sm_Run (D + 2) 131 0 (sm_ent 131 [.inr (some (g.1 10 t)), .inr (some (g.1 7 j))]) [] M (fun v M' => v = none ∧ RC g (pB P 7 j (fillB P t)) M') := by
  obtain ⟨l10, l36, l9⟩ := lq_10 h ht
  obtain ⟨t1, t2, t3, t4, t5⟩ := hI
  have l7 := (lq_p h hj).1
  have h100 := (r_36 h ht).2.1
  unfold fillB
  refine bb_131_0 ?_
  simp (disch := first | assumption | exact rc_B (by assumption) _ _ | omega | decide) only [kK_7 h, kK_10 h, rI_209 h, li_0, li_8, nI_eq, Decidable.not_not, Option.some.injEq, exists_eq_left', true_and]
  refine ⟨fun q => ru_mono (c_chunk h ht t1) ?_, fun q => ?_⟩
  · rintro v M1 ⟨rfl, rfl⟩
    rw [if_neg q]
    refine bb_131_60 ?_
    have hc : chk P t ≤ (b_ P 36 t).length - s_ P 210 t ∧ chk P t ≤ 64 := by
      unfold chk; split <;> omega
    exact c_fill_loop hj ht (by omega) hc.2 (chk P t) 0 M (by omega) (by rw [List.take_zero, ← he, pBe]; exact h)
  · rw [if_pos q, rI_205 h l10, pk_shrN (by omega) _ 8 (by decide)]
    refine ru_mono (c_add h hj (by rw [he]; decide)) ?_
    rintro v M1 ⟨rfl, h1⟩
    have x1 : p_add P j (s_ P 205 t / 2 ^ 8) = pB P 7 j [s_ P 205 t / 256] := by unfold p_add; rw [he]; rfl
    rw [x1] at h1
    have ee : ∀ {l : List Nat} {f i : Nat}, s_ (pB P 7 j l) f i = s_ P f i := rfl
    have e36 : ∀ {l : List Nat}, b_ (pB P 7 j l) 36 t = b_ P 36 t := by intro l; rw [b_B, if_neg (by omega)]
    refine bb_131_18 ⟨rc_K h1 l10, _, rfl, rc_K h1 l7, ?_⟩
    rw [rI_205 h1 l10, ee, pk_andN (by omega) 8 (by decide)]
    refine ru_mono (c_add h1 hj (by rw [b_Bs]; show 1 < 64; decide)) ?_
    rintro v M2 ⟨rfl, h2⟩
    have x2 : p_add (pB P 7 j [s_ P 205 t / 256]) j (s_ P 205 t % 2 ^ 8) = pB P 7 j [s_ P 205 t / 256, s_ P 205 t % 256] := by unfold p_add; rw [b_Bs, pBB]; rfl
    rw [x2] at h2
    refine bb_131_30 ⟨rc_K h2 l10, _, rfl, rc_K h2 l7, ?_⟩
    rw [rI_206 h2 l10, ee]
    refine ru_mono (c_addPair h2 hj (by rw [b_Bs]; show 3 < 64; decide) (rc_B h _ _)) ?_
    rintro v M3 ⟨rfl, h3⟩
    have x3 : ∀ {l : List Nat} {x : Nat}, p_addPair (pB P 7 j l) j x = pB P 7 j (l ++ [x % 256] ++ [x / 256 % 256]) := by intro l x; unfold p_addPair p_add; rw [b_Bs, b_Bs, pBB, pBB]
    rw [x3] at h3
    refine bb_131_38 ⟨rc_K h3 l10, _, rfl, rc_K h3 l7, ?_⟩
    rw [rI_207 h3 l10, ee]
    refine ru_mono (c_addPair h3 hj (by rw [b_Bs]; show 5 < 64; decide) (rc_B h _ _)) ?_
    rintro v M4 ⟨rfl, h4⟩
    rw [x3] at h4
    have ht4 : ∀ {l : List Nat}, t < s_ (pB P 7 j l) 122 0 := ht
    refine bb_131_46 ⟨rc_K h4 l10, _, rd_10_4 h4 ht4, rc_aK h4 l36 (by decide), _, rfl, rc_K h4 l7, ?_⟩
    rw [kL_36 h4 ht4, e36, oN]
    refine ru_mono (c_addPair h4 hj (by rw [b_Bs]; show 7 < 64; decide) (by omega)) ?_
    rintro v M5 ⟨rfl, h5⟩
    rw [x3] at h5
    exact bb_131_55 ⟨rfl, h5⟩
/-- Transfer.load -/
def p_load (P : pP) (t : Nat) : pP := pB (pB P 36 t ((b_ P 1 0).take (b_ P 36 t).length)) 1 0 ((b_ P 1 0).drop (b_ P 36 t).length)
def ldL (l tp : List Nat) (i : Nat) : List Nat := tp.take i ++ l.drop i
theorem ldL_len {l tp : List Nat} {i : Nat} (h : i ≤ l.length) (h2 : i ≤ tp.length) : (ldL l tp i).length = l.length := by
  unfold ldL; rw [List.length_append, List.length_take, List.length_drop]; omega
theorem ldL_set {l tp : List Nat} {i : Nat} (h : i < l.length) (h2 : i < tp.length) : (ldL l tp i).set i (tp.getD i 0) = ldL l tp (i + 1) := by
  have e1 : (tp.take i).length = i := by rw [List.length_take]; omega
  unfold ldL
  rw [List.set_append_right _ _ (by omega), e1, Nat.sub_self, take_sN h2, List.drop_eq_getElem_cons h, List.set_cons_zero, List.append_assoc]
  rfl
abbrev ldP (P : pP) (t i : Nat) : pP := pB (pB P 36 t (ldL (b_ P 36 t) (b_ P 1 0) i)) 1 0 ((b_ P 1 0).drop i)
theorem c_load {t : Nat} (h : RC g P M) (ht : t < s_ P 122 0) (hl : (b_ P 36 t).length ≤ (b_ P 1 0).length) : sm_Run (D + 3) 123 0 (sm_ent 123 [.inr (some (g.1 10 t)), .inr (some (g.1 1 0))]) [] M (fun v M' => v = none ∧ RC g (p_load P t) M') := by
  have h100 := (r_36 h ht).2.1
  have key : ∀ (m i : Nat) (M : sm_M), i + m = (b_ P 36 t).length → RC g (ldP P t i) M → sm_Run (D + 3) 123 2 [some (.inr (some (g.1 10 t))), some (.inr (some (g.1 1 0))), some (.inl (nI i))] [] M (fun v M' => v = none ∧ RC g (ldP P t (b_ P 36 t).length) M') := by
    intro m
    induction m with
    | zero =>
      intro i M hi h
      obtain rfl : i = (b_ P 36 t).length := by omega
      have ht' : t < s_ (ldP P t (b_ P 36 t).length) 122 0 := ht
      obtain ⟨l10, l36, l9⟩ := lq_10 h ht'
      have e36 : b_ (ldP P t (b_ P 36 t).length) 36 t = ldL (b_ P 36 t) (b_ P 1 0) (b_ P 36 t).length := by unfold ldP; rw [b_B, if_neg (by omega), b_Bs]
      have eL : (ldL (b_ P 36 t) (b_ P 1 0) (b_ P 36 t).length).length = (b_ P 36 t).length := ldL_len (Nat.le_refl _) hl
      refine bb_123_2 ?_
      simp (disch := first | assumption | exact rc_B (by assumption) _ _ | omega | decide) only [kK_10 h, rd_10_4 h, aK_36 h, kL_36 h, oN, e36, eL, nI_leI, Option.some.injEq, exists_eq_left', true_and]
      exact ⟨fun _ => h, fun q => absurd (Nat.le_refl _) q⟩
    | succ m ih =>
      intro i M hi h
      have ht' : t < s_ (ldP P t i) 122 0 := ht
      obtain ⟨l10, l36, l9⟩ := lq_10 h ht'
      have l1 : g.2.1 1 0 = true := rc_st h (by decide)
      have e36 : b_ (ldP P t i) 36 t = ldL (b_ P 36 t) (b_ P 1 0) i := by unfold ldP; rw [b_B, if_neg (by omega), b_Bs]
      have e1 : b_ (ldP P t i) 1 0 = (b_ P 1 0).drop i := by unfold ldP; rw [b_Bs]
      have eL : (ldL (b_ P 36 t) (b_ P 1 0) i).length = (b_ P 36 t).length := ldL_len (by omega) (by omega)
      refine bb_123_2 ?_
      simp (disch := first | assumption | exact rc_B (by assumption) _ _ | omega | decide) only [kK_1 h, kK_10 h, rd_10_4 h, aK_36 h, kL_36 h, oN, e36, eL, nI_leI, Option.some.injEq, exists_eq_left', true_and]
      refine ⟨fun q => by omega, fun _ => ru_mono (c_rpoll h l1) ?_⟩
      rintro v M1 ⟨rfl, h1⟩
      rw [e1, if_pos (by rw [List.length_drop]; omega), getD_dropN, Nat.add_zero]
      rw [e1, List.drop_drop] at h1
      have ht1 : t < s_ (pB (ldP P t i) 1 0 ((b_ P 1 0).drop (i + 1))) 122 0 := ht
      have e36' : b_ (pB (ldP P t i) 1 0 ((b_ P 1 0).drop (i + 1))) 36 t = ldL (b_ P 36 t) (b_ P 1 0) i := by rw [b_B, if_neg (by omega), e36]
      have hlt : i < (b_ (pB (ldP P t i) 1 0 ((b_ P 1 0).drop (i + 1))) 36 t).length := by rw [e36', eL]; omega
      have ha := (r_36 h1 ht1).2.2
      rw [e36'] at ha
      refine bb_123_20 ⟨_, rfl, rc_wA h1 l36 (by decide), of_eq_true (kN_36 h1 ht1 hlt), ?_⟩
      rw [nI_clamp (by omega), nI_1]
      have h2 := rc_row (c := 36) (i := t) h1 (Or.inr (Or.inr (Or.inr ⟨rfl, ht1, by rw [List.length_set, e36']⟩))) (ch_put rfl) (ar_set (j := i) (x := (b_ P 1 0).getD i 0) ha)
      rw [ldL_set (by omega) (by omega)] at h2
      refine ih (i + 1) _ (by omega) ?_
      have : pB (pB (ldP P t i) 1 0 ((b_ P 1 0).drop (i + 1))) 36 t (ldL (b_ P 36 t) (b_ P 1 0) (i + 1)) = ldP P t (i + 1) := by
        unfold ldP
        rw [pBB]
        unfold pB
        congr 2
        funext a b
        simp only [sm_u2]
        by_cases q1 : a = 36 ∧ b = t
        · rw [if_pos q1, if_neg (by omega), if_pos q1]
        · rw [if_neg q1]
          by_cases q2 : a = 1 ∧ b = 0
          · rw [if_pos q2, if_pos q2]
          · rw [if_neg q2, if_neg q2, if_neg q1, if_neg q1]
      rw [this] at h2
      exact h2
  have e0 : ldP P t 0 = P := by
    unfold ldP ldL
    rw [List.take_zero, List.nil_append, List.drop_zero, List.drop_zero, pBe, pBe]
  have e9 : ldP P t (b_ P 36 t).length = p_load P t := by
    unfold ldP ldL p_load
    rw [List.drop_length, List.append_nil]
  rw [← e9]
  exact bb_123_0 (key (b_ P 36 t).length 0 M (by omega) (by rw [e0]; exact h))
end TR
