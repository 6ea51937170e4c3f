/-! The reference's devices hear a packet: who answers; the loop's end. -/
section RP
variable {a : Nat} {ra : Nat → Nat} {R : Nat → Nat → Int32} {M : sm_M} {D : Nat} {P P' : pP} {d : Nat}
theorem ans_83 {k f : Nat} (hf : f = 83) : s_ (p_ans P d k) f d = s_ P f d := by subst hf; unfold p_ans; simp only [s_S, s_B, s_F, b_S, b_B, b_F, f_S, f_B, Nat.reduceEqDiff, false_and, and_false, true_and, and_true, and_self, if_true, if_false, reduceIte, ite_self]
theorem hIn_83 {e : Nat} : s_ (p_hIn P d e) 83 d = s_ P 83 d := by
  unfold p_hIn p_zIn p_zIn2 p_zIn1 p_eIn p_eIn1 p_ansD p_ans
  repeat' split
  all_goals (try simp only [s_S, s_B, s_F, b_S, b_B, b_F, f_S, f_B, Nat.reduceEqDiff, false_and, and_false, true_and, and_true, and_self, if_true, if_false, reduceIte, ite_self])
theorem hOut_83 {j : Nat} : s_ (p_hOut P d j) 83 d = s_ P 83 d := by
  unfold p_hOut p_zOut p_zTake p_zTk1 p_keep p_eOut p_ans
  repeat' split
  all_goals (try simp only [s_S, s_B, s_F, b_S, b_B, b_F, f_S, f_B, Nat.reduceEqDiff, false_and, and_false, true_and, and_true, and_self, if_true, if_false, reduceIte, ite_self])
theorem hAck_83 : s_ (p_hAck P d) 83 d = 0 → s_ P 83 d = 0 := by
  unfold p_hAck p_zAck p_eAck
  repeat' split
  all_goals (try simp only [s_S, s_B, s_F, b_S, b_B, b_F, f_S, f_B, Nat.reduceEqDiff, false_and, and_false, true_and, and_true, and_self, if_true, if_false, reduceIte, ite_self])
  all_goals first | exact id | (intro q; cases q)
theorem hAck_91 : s_ (p_hAck P d) 91 d = s_ P 91 d := by
  unfold p_hAck p_zAck p_eAck
  repeat' split
  all_goals first | rfl | simp only [s_S, s_B, s_F, b_S, b_B, b_F, f_S, f_B, Nat.reduceEqDiff, false_and, and_false, true_and, and_true, and_self, if_true, if_false, reduceIte, ite_self]
theorem obey_83 {w v ix : Nat} : s_ (p_obey P d w v ix).1 83 d = 0 → s_ P 83 d = 0 := by
  unfold p_obey p_eRs
  repeat' split
  all_goals (try rw [s_rsAll (by decide)])
  all_goals (try simp only [s_S, s_B, s_F, b_S, b_B, b_F, f_S, f_B, Nat.reduceEqDiff, false_and, and_false, true_and, and_true, and_self, if_true, if_false, reduceIte, ite_self])
  all_goals first | exact id | (intro q; omega)
theorem zBeg_83 {l : List Nat} : s_ (p_zBeg P d l) 83 d = 0 → s_ P 83 d = 0 := by
  unfold p_zBeg
  split
  · rw [s_S, if_neg (by omega)]
    intro q
    have e : s_ (pB (p_zB1 P d l) 29 d []) 83 d = s_ P 83 d := by unfold p_zB1; simp only [s_S, s_B, s_F, b_S, b_B, b_F, f_S, f_B, Nat.reduceEqDiff, false_and, and_false, true_and, and_true, and_self, if_true, if_false, reduceIte, ite_self]
    rw [← e]
    revert q
    unfold p_bfh
    repeat' split
    all_goals (try simp only [s_S, s_B, s_F, b_S, b_B, b_F, f_S, f_B, Nat.reduceEqDiff, false_and, and_false, true_and, and_true, and_self, if_true, if_false, reduceIte, ite_self])
    all_goals first | exact id | exact obey_83
  · split
    · unfold p_zB1; simp only [s_S, s_B, s_F, b_S, b_B, b_F, f_S, f_B, Nat.reduceEqDiff, false_and, and_false, true_and, and_true, and_self, if_true, if_false, reduceIte, ite_self]; exact id
    · unfold p_zB1; simp only [s_S, s_B, s_F, b_S, b_B, b_F, f_S, f_B, Nat.reduceEqDiff, false_and, and_false, true_and, and_true, and_self, if_true, if_false, reduceIte, ite_self]; exact id
theorem h0_83 : s_ (p_h0 P d) 83 d = s_ P 83 d := by unfold p_h0; simp only [s_S, s_B, s_F, b_S, b_B, b_F, f_S, f_B, Nat.reduceEqDiff, false_and, and_false, true_and, and_true, and_self, if_true, if_false, reduceIte, ite_self]
theorem h0_91 : s_ (p_h0 P d) 91 d = 0 := by unfold p_h0; simp only [s_S, s_B, s_F, b_S, b_B, b_F, f_S, f_B, Nat.reduceEqDiff, false_and, and_false, true_and, and_true, and_self, if_true, if_false, reduceIte, ite_self]
theorem hear_83 {o : Option Nat} : s_ (p_hear P d o) 83 d = 0 → s_ P 83 d = 0 := by
  unfold p_hear
  repeat' split
  all_goals intro q
  · rwa [h0_83] at q
  · rwa [hIn_83, h0_83] at q
  · rw [s_S, if_neg (by omega), s_S, if_neg (by omega), h0_83] at q; exact q
  · rw [ans_83 rfl] at q
    have := zBeg_83 q
    rwa [h0_83] at this
  · rwa [hOut_83, h0_83] at q
  · have := hAck_83 q
    rwa [h0_83] at this
  · rwa [h0_83] at q
theorem hear_91 {j : Nat} (h : s_ (p_hear P d (some j)) 91 d ≠ 0) : (s_ P 141 j = 9 ∧ s_ P 142 j % 128 = s_ P 84 d) ∨ (isDat (s_ P 141 j) ∧ s_ P 89 d ≠ 0) := by
  unfold p_hear at h
  dsimp only at h
  by_cases q : isTok (s_ P 141 j) ∧ s_ P 142 j % 128 = s_ P 84 d
  · rw [if_pos q] at h
    by_cases q1 : s_ P 141 j = 9
    · exact Or.inl ⟨q1, q.2⟩
    · rw [if_neg q1] at h
      exfalso; apply h
      rw [s_S, if_neg (by omega), s_S, if_neg (by omega), h0_91]
  · rw [if_neg q] at h
    by_cases q1 : s_ P 89 d = 14 ∧ s_ P 90 d = 0 ∧ s_ P 141 j = 3 ∧ (b_ P 7 j).length = 8
    · exact Or.inr ⟨Or.inl q1.2.2.1, by omega⟩
    · rw [if_neg q1] at h
      by_cases q2 : s_ P 89 d = 2 ∧ isDat (s_ P 141 j)
      · exact Or.inr ⟨q2.2, by omega⟩
      · rw [if_neg q2] at h
        exfalso; apply h
        split
        · rw [hAck_91, h0_91]
        · exact h0_91
def cand (P : pP) (j k : Nat) : Prop := s_ P 83 k ≠ 0 ∧ ((s_ P 141 j = 9 ∧ s_ P 142 j % 128 = s_ P 84 k) ∨ (isDat (s_ P 141 j) ∧ s_ P 89 k ≠ 0))
def FrA (R R' : Nat → Nat → Int32) : Prop := ∀ f i, ¬ ((4 ≤ f ∧ f ≤ 31) ∨ (51 ≤ f ∧ f ≤ 54)) → R' f i = R f i
theorem frA_rf : FrA R R := fun _ _ _ => rfl
theorem frA_t {R' R'' : Nat → Nat → Int32} (h : FrA R R') (k : FrA R' R'') : FrA R R'' := fun f i n => (k f i n).trans (h f i n)
theorem frA_d {R' : Nat → Nat → Int32} (h : FrR d R R') : FrA R R' := fun f i n => h f i (fun q => by unfold ownR at q; omega)
def AnsI (P : pP) (R : Nat → Nat → Int32) : Prop := (∀ d, d < 6 → s_ P 91 d ≠ 0 → s_ P 83 d ≠ 0 ∧ R 51 0 = nI d ∧ AnsR P R d) ∧ ((∀ d, d < 6 → s_ P 91 d = 0) → R 51 0 = nE 0)
theorem own_j {j f : Nat} (hj : j < 60) (hf : 140 ≤ f ∧ f < 160) (d : Nat) : ¬ own d f j := by unfold own; omega
theorem ownB_j {j : Nat} (hj : j < 60) (d : Nat) : ¬ ownB d 7 j := by unfold ownB; omega
theorem relK_cg {j : Nat} {R' : Nat → Nat → Int32} (hk : RelK P R j) (hs : ∀ f, 140 ≤ f ∧ f < 160 → s_ P' f j = s_ P f j) (hb : b_ P' 7 j = b_ P 7 j) (hr : ∀ f i, 37 ≤ f ∧ f ≤ 45 → R' f i = R f i) : RelK P' R' j := by
  unfold RelK at *
  rw [hb, hs 140 (by decide), hs 141 (by decide), hs 142 (by decide), hs 145 (by decide), hs 146 (by decide), hs 147 (by decide)]
  simp (disch := decide) only [hr]
  exact hk
theorem sh_ID (h : ID (sh P d) d) (hp : s_ P 83 d ≠ 0) : ID P d := by rw [sh_p hp] at h; exact h
theorem id_sh (h : ID P d) : ID (sh P d) d := by
  by_cases q : s_ P 83 d = 0
  · rw [sh_a q]
    obtain ⟨hE, hZ, hW⟩ := h
    refine ⟨fun k hk => ?_, ?_, ?_⟩
    · have := hE k (by revert hk; simp only [s_S, s_B, s_F, b_S, b_B, b_F, f_S, f_B, Nat.reduceEqDiff, false_and, and_false, true_and, and_true, and_self, if_true, if_false, reduceIte, ite_self]; exact id)
      simp only [s_S, s_B, s_F, b_S, b_B, b_F, f_S, f_B, Nat.reduceEqDiff, false_and, and_false, true_and, and_true, and_self, if_true, if_false, reduceIte, ite_self]; exact this
    · unfold IZ at *; simp only [s_S, s_B, s_F, b_S, b_B, b_F, f_S, f_B, Nat.reduceEqDiff, false_and, and_false, true_and, and_true, and_self, if_true, if_false, reduceIte, ite_self]
      exact ⟨hZ.1, by omega, hZ.2.2.1, hZ.2.2.2.1, hZ.2.2.2.2.1, fun q => q.elim, fun q => q.elim⟩
    · unfold IW; simp only [s_S, s_B, s_F, b_S, b_B, b_F, f_S, f_B, Nat.reduceEqDiff, false_and, and_false, true_and, and_true, and_self, if_true, if_false, reduceIte, ite_self]
      exact ⟨Or.inl trivial, fun q => q.elim, fun q => q.elim⟩
  · rw [sh_p q]; exact h
theorem sh_IE (h : ID (sh P d) d) : IE P d := by
  intro k hk
  have := h.1 k (by rw [sh_s (by decide)]; exact hk)
  rw [sh_s (by decide), sh_s (by decide), sh_s (by decide), sh_b] at this
  exact this
theorem hears_ex {s j : Nat} (hx : EX P) (hI : ∀ d, d < 6 → ID (sh P d) d) (hj : j < 60) (hp : PKo P j) : ∀ n, n ≤ 6 → EX (p_hears P s (some j) n)
  | 0, _ => hx
  | n + 1, hn => by
    have h6 : ∀ d, d < 6 → s_ P 86 d ≤ 6 := fun d hd => ex_86 hx hd
    have ih := hears_ex hx hI hj hp (s := s) n (by omega)
    rw [hears_S]
    split
    · exact ih
    · rename_i c
      have so := hears_so (s := s) (r := some j) h6 (show n < 6 by omega) n (Nat.le_refl _)
      have c2 : s_ P 83 n ≠ 0 := by rw [← so_s so (by decide)]; exact fun q => c (Or.inr q)
      refine ex_hear ih (by omega) (so_DI so (h6 n (by omega)) (id_HD (sh_ID (hI n (by omega)) c2)).1) ?_
      intro j' e
      cases e
      refine ⟨by omega, by omega, ?_, ?_⟩
      · rw [hears_K h6 (own_j hj (by decide)) n (by omega)]; exact hp.1
      · rw [hears_KB h6 (ownB_j hj) n (by omega)]; exact hp.2.2
theorem so_ID (h : SO d P P') (h6 : s_ P 86 d ≤ 6) (hI : ID P d) : ID P' d := by
  obtain ⟨hE, hZ, w1, w2, w3⟩ := hI
  refine ⟨fun k hk => ?_, ?_, ?_, ?_, fun q1 q2 => ?_⟩
  · rw [so_s h (by decide)] at hk
    have k6 : k < 6 := by omega
    rw [so_e h (by decide) k6, so_e h (by decide) k6, so_e h (by decide) k6, so_1 h k6]
    exact hE k hk
  · unfold IZ at *
    simp (disch := decide) only [so_s h, so_29 h]
    exact hZ
  · rw [so_s h (by decide)]; exact w1
  · rw [so_nfl h]; simp (disch := decide) only [so_s h]; exact w2
  · rw [so_s h (by decide)] at q1 q2
    obtain ⟨k, f1, f2⟩ := w3 q1 q2
    refine ⟨k, ?_, ?_⟩
    · rw [so_s h (by decide), so_find h h6]; exact f1
    · rw [so_e h (by decide) (by have := (find_lt f1).1; omega)]; exact f2
theorem so_IDs (h : SO d P P') (h6 : s_ P 86 d ≤ 6) (hI : ID (sh P d) d) : ID (sh P' d) d := so_ID (so_sh h) (by rw [sh_s (by decide)]; exact h6) hI
theorem hears_ID {s j : Nat} (hx : EX P) (hI : ∀ d, d < 6 → ID (sh P d) d) (hj : j < 60) (hp : PKo P j) : ∀ n, n ≤ 6 → ∀ d, d < 6 → ID (sh (p_hears P s (some j) n) d) d
  | 0, _, d, hd => hI d hd
  | n + 1, hn, d, hd => by
    have h6 : ∀ d, d < 6 → s_ P 86 d ≤ 6 := fun d hd => ex_86 hx hd
    have ih := hears_ID (s := s) hx hI hj hp n (by omega) d hd
    have xi := hears_ex (s := s) hx hI hj hp n (by omega)
    by_cases q : d = n
    · subst q
      rw [hears_S]
      split
      · exact ih
      · rename_i c
        have c2 : s_ (p_hears P s (some j) d) 83 d ≠ 0 := fun q => c (Or.inr q)
        rw [sh_p (fun q => c2 (hear_83 q))]
        refine id_hear (sh_ID ih c2) xi hd (fun j' e => ?_)
        cases e
        rw [hears_KB h6 (ownB_j hj) d (by omega)]; exact hp.2.2
    · exact so_IDs (so_fr (hears_fr h6 (by omega)) hd (by omega) q) (ex_86 xi hd) ih
theorem nI_nE {i s : Nat} (hi : i < 100) (hs : s < 100) : nI i = nE s ↔ s = i + 1 := by
  rw [show nI i = nE (i + 1) from (nE_s i).symm, nE_E (by omega) (by omega)]
  omega
/-- WireBusModel.comes -/
theorem r_comes {j s : Nat} (h : RM a ra R M) (hx : EX P) (hX : ∀ d, d < 6 → RelX P R d) (hI : ∀ d, d < 6 → ID (sh P d) d) (hj : j < 60) (h50 : R 50 0 = nI j) (hs : s < 7) (hk : RelK P R j) (hp : PKo P j) (h55 : ∀ i, i < 18 → R 55 i = nI (hd0.getD i 0)) (h91 : ∀ d, d < 6 → s_ P 91 d = 0) (hU : ∀ d d', d < 6 → d' < 6 → cand P j d → cand P j d' → d = d') : sm_Run (D + 4) 161 0 (sm_ent 161 [.inr (some a), .inl (nE s)]) [] M (fun v M' => v = none ∧ ∃ R', RM a ra R' M' ∧ (∀ d, d < 6 → RelX (p_hears P s (some j) 6) R' d) ∧ FrA R R' ∧ AnsI (p_hears P s (some j) 6) R') := by
  have h6 : ∀ d, d < 6 → s_ P 86 d ≤ 6 := fun d hd => ex_86 hx hd
  have hH : ∀ d, d < 6 → HD (sh P d) d := fun d hd => id_HD (hI d hd)
  have key : ∀ (m i : Nat) (M : sm_M) (R1 : Nat → Nat → Int32) (z4 z5 z6 : Option sm_V), i + m = 6 → RM a ra R1 M → (∀ d, d < 6 → RelX (p_hears P s (some j) i) R1 d) → FrA R R1 → AnsI (p_hears P s (some j) i) R1 → (∀ d, d < 6 → s_ (p_hears P s (some j) i) 91 d ≠ 0 → d < i ∧ cand P j d) → sm_Run (D + 4) 161 17 [some (.inr (some a)), some (.inl (nE s)), some (.inl (nI (s_ P 141 j))), some (.inl (nI i)), z4, z5, z6] [] M (fun v M' => v = none ∧ ∃ R', RM a ra R' M' ∧ (∀ d, d < 6 → RelX (p_hears P s (some j) 6) R' d) ∧ FrA R R' ∧ AnsI (p_hears P s (some j) 6) R') := by
    intro m
    induction m with
    | zero =>
      intro i M R1 z4 z5 z6 hi h1 hX1 hF hA hC
      obtain rfl : i = 6 := by omega
      exact bb_161_17 ⟨fun _ => ⟨rfl, R1, h1, hX1, hF, hA⟩, fun q => absurd (by decide) q⟩
    | succ m ih =>
      intro i M R1 z4 z5 z6 hi h1 hX1 hF hA hC
      have i6 : i < 6 := by omega
      have xi := hears_ex (s := s) hx hI hj hp i (by omega)
      have so := hears_so (s := s) (r := some j) h6 i6 i (Nat.le_refl _)
      have e141 : s_ (p_hears P s (some j) i) 141 j = s_ P 141 j := hears_K h6 (own_j hj (by decide)) i (by omega)
      have e142 : s_ (p_hears P s (some j) i) 142 j = s_ P 142 j := hears_K h6 (own_j hj (by decide)) i (by omega)
      have e83 : s_ (p_hears P s (some j) i) 83 i = s_ P 83 i := so_s so (by decide)
      have b83 := ex_b xi 83 i
      by_cases c : s = i + 1 ∨ s_ (p_hears P s (some j) i) 83 i = 0
      · have e : p_hears P s (some j) (i + 1) = p_hears P s (some j) i := by rw [hears_S, if_pos c]
        have nx := fun z4 z5 z6 => ih (i + 1) M R1 z4 z5 z6 (by omega) h1 (by rw [e]; exact hX1) hF (by rw [e]; exact hA) (by rw [e]; intro d hd q; have := hC d hd q; exact ⟨by omega, this.2⟩)
        have r4 : R1 4 i = nI (s_ (p_hears P s (some j) i) 83 i) := relX_4 (hX1 i i6)
        refine bb_161_17 ?_
        simp (disch := first | assumption | omega | decide) only [rd_r4 h1, rR_4 h1, rN_4 h1, rW_4 h1, rA_4 h1, rk_39 h1, r4, nI_nE, ↓li_m1, li_0, li_1, li_2, li_3, li_4, li_5, li_6, li_7, li_8, li_9, li_10, li_11, li_12, li_13, li_14, li_16, li_18, li_20, li_32, li_36, li_40, li_50, li_60, li_64, li_100, li_127, li_128, li_200, li_255, li_256, li_290, li_300, li_336, li_512, li_513, li_515, li_660, li_2048, li_16385, li_32768, li_32774, li_32776, li_33280, li_49153, nI_add, pk_mul, nI_eq, nI_leI, nI_ltI, pk_sub, nI_clamp, Decidable.not_not, Nat.reduceAdd, Nat.reduceMul, Option.some.injEq, exists_eq_left', exists_eq_left, forall_eq', reduceCtorEq, false_implies, forall_const, true_and, and_true, not_false_eq_true, not_true_eq_false, Nat.reduceEqDiff, Ip_r h1, Ip_a h1, Ip_b h1, I_put_s, I_put_k, Rp_j, u2_r, rowU_r, false_and, and_false, if_false, if_true, reduceIte]
        refine ⟨fun q => by omega, fun _ => ⟨fun _ => nx _ _ _, fun q => ⟨fun _ => nx _ _ _, fun q' => by omega⟩⟩⟩
      · have e : p_hears P s (some j) (i + 1) = p_hear (p_hears P s (some j) i) i (some j) := by rw [hears_S, if_neg c]
        have c1 : s ≠ i + 1 := fun q => c (Or.inl q)
        have c2 : s_ (p_hears P s (some j) i) 83 i ≠ 0 := fun q => c (Or.inr q)
        rw [← e141]
        have fR := hears_fr (s := s) (r := some j) h6 i6
        refine r_hear h1 xi (relD_X (hX1 i i6) c2) i6 (so_HD so (h6 i i6) (id_HD (sh_ID (hI i i6) (by rw [← e83]; exact c2)))) c2 (fun q => c1 ((nI_nE (by omega) (by omega)).mp q)) ?_ hj ?_ ?_ ?_ ?_
        · rw [hF _ _ (by decide)]; exact h50
        · exact relK_cg hk (fun f hf => hears_K h6 (own_j hj hf) i (by omega)) (hears_KB h6 (ownB_j hj) i (by omega)) (fun f i hf => hF f i (by omega))
        · refine ⟨by rw [e141]; exact hp.1, by rw [e142]; exact hp.2.1, ?_⟩
          rw [hears_KB h6 (ownB_j hj) i (by omega)]; exact hp.2.2
        · intro i hi; rw [hF _ _ (by decide)]; exact h55 i hi
        · intro R' M' z4 z5 z6 h2 ds
          rw [← e] at ds
          obtain ⟨ds1, ds2, ds3, ds4⟩ := ds
          rw [e141]
          have o91 : ∀ d, d < 6 → d ≠ i → s_ (p_hears P s (some j) (i + 1)) 91 d = s_ (p_hears P s (some j) i) 91 d := fun d hd hn => so_s (so_fr fR hd i6 hn) (by decide)
          have o83 : ∀ d, d < 6 → d ≠ i → s_ (p_hears P s (some j) (i + 1)) 83 d = s_ (p_hears P s (some j) i) 83 d := fun d hd hn => so_s (so_fr fR hd i6 hn) (by decide)
          have ci : s_ (p_hears P s (some j) (i + 1)) 91 i ≠ 0 → cand P j i := by
            intro q
            rw [e] at q
            have := hear_91 q
            rw [e141, e142, so_s so (by decide), so_s so (by decide)] at this
            exact ⟨by rw [← e83]; exact c2, this⟩
          refine ih (i + 1) M' R' z4 z5 z6 (by omega) h2 (fun d hd => ?_) (frA_t hF (frA_d ds2)) ⟨fun d hd q => ?_, fun q => ?_⟩ (fun d hd q => ?_)
          · by_cases qd : d = i
            · subst qd; exact relX_D ds1
            · exact relX_cg (so_fr fR hd i6 qd) (sr_fr ds2 hd i6 qd) xi hd (id_HD (hears_ID hx hI hj hp i (by omega) d hd)) (hX1 d hd)
          · by_cases qd : d = i
            · subst qd
              refine ⟨fun q' => c2 ?_, (ds4 q).1, ds4 q⟩
              rw [e] at q'; exact hear_83 q'
            · rw [o91 d hd qd] at q
              obtain ⟨y1, y2, y3⟩ := hA.1 d hd q
              have q0 : s_ (p_hears P s (some j) (i + 1)) 91 i = 0 := Decidable.byContradiction (fun q0 => qd (hU d i hd i6 (hC d hd q).2 (ci q0)))
              obtain ⟨m1, m2, m3, m4⟩ := ds3 q0
              refine ⟨by rw [o83 d hd qd]; exact y1, by rw [m1]; exact y2, ?_⟩
              obtain ⟨w1, w2, w3, w4⟩ := y3
              have so' := so_fr fR hd i6 qd
              unfold AnsR
              rw [m1, m2, m3, so_p so' (by decide), so_7 so']
              exact ⟨w1, w2, w3, fun j' hj' => by rw [m4]; exact w4 j' hj'⟩
          · obtain ⟨m1, -⟩ := ds3 (q i i6)
            rw [m1]
            refine hA.2 (fun d hd => ?_)
            by_cases qd : d = i
            · subst qd
              rw [so_s so (by decide)]; exact h91 d hd
            · rw [← o91 d hd qd]; exact q d hd
          · by_cases qd : d = i
            · subst qd; exact ⟨by omega, ci q⟩
            · rw [o91 d hd qd] at q
              have := hC d hd q
              exact ⟨by omega, this.2⟩
  have k38 : R 38 j = nI (s_ P 141 j) := hk.2.1
  refine bb_161_0 ?_
  simp (disch := first | assumption | omega | decide) only [rd_r38 h, rR_38 h, rN_38 h, rW_38 h, rA_38 h, rS_50 h, rk_39 h, h50, k38, ↓li_m1, li_0, li_1, li_2, li_3, li_4, li_5, li_6, li_7, li_8, li_9, li_10, li_11, li_12, li_13, li_14, li_16, li_18, li_20, li_32, li_36, li_40, li_50, li_60, li_64, li_100, li_127, li_128, li_200, li_255, li_256, li_290, li_300, li_336, li_512, li_513, li_515, li_660, li_2048, li_16385, li_32768, li_32774, li_32776, li_33280, li_49153, nI_add, pk_mul, nI_eq, nI_leI, nI_ltI, pk_sub, nI_clamp, Decidable.not_not, Nat.reduceAdd, Nat.reduceMul, Option.some.injEq, exists_eq_left', exists_eq_left, forall_eq', reduceCtorEq, false_implies, forall_const, true_and, and_true, not_false_eq_true, not_true_eq_false, Nat.reduceEqDiff, Ip_r h, Ip_a h, Ip_b h, I_put_s, I_put_k, Rp_j, u2_r, rowU_r, false_and, and_false, if_false, if_true, reduceIte]
  refine key 6 0 _ _ _ _ _ (by omega) (rm_sr h) (fun d hd => ?_) ?_ ⟨fun d hd q => absurd (h91 d hd) q, fun _ => ?_⟩ (fun d hd q => absurd (h91 d hd) q)
  · refine relX_cg so_rf (fun f i o n => ?_) hx hd (hH d hd) (hX d hd)
    rw [u2_r, if_neg (by omega)]
  · intro f i n
    rw [u2_r, if_neg (by omega)]
  · simp only [u2_r, rowU_r, s_S, s_B, s_F, b_S, b_B, b_F, f_S, f_B, nfl_S, nfl_B, Nat.reduceEqDiff, false_and, and_false, true_and, and_true, and_self, if_true, if_false, reduceIte, ite_self, or_self, or_false, false_or, or_true, true_or, false_implies, implies_true, true_implies, Nat.reduceLeDiff, not_true_eq_false, not_false_eq_true, ne_eq]
end RP
