/-! The reference sends a packet: goes. -/
section RS2
variable {a : Nat} {ra : Nat → Nat} {R : Nat → Nat → Int32} {M : sm_M} {D : Nat} {P : pP}
/-- the end: a sound packet -/
theorem r_go3 {j S : Nat} {x1 x2 x3 x4 x5 x7 x8 : Int32} {z9 z10 : Option sm_V} (h : RM a ra R M) (h32 : R 32 0 = nI S) (hj : j < 60) (h43 : R 43 j = nI 0) : sm_Run (D + 1) 159 321 [some (.inr (some a)), some (.inl x1), some (.inl x2), some (.inl x3), some (.inl x4), some (.inl x5), some (.inl (nI j)), some (.inl x7), some (.inl x8), z9, z10] [] M (fun v M' => v = some (.inl (nI 1)) ∧ RM a ra (sm_u2 (sm_u2 R 50 0 (nI j)) 32 0 (nI (S + 1))) M') := by
  have h1 := rm_sr (rm_sr h (f := 50) (v := nI j)) (f := 32) (v := nI (S + 1))
  refine bb_159_321 ?_
  simp (disch := first | assumption | omega | decide) only [rS_32 h, rk_39 h, h32, ↓li_m1, li_0, li_1, li_2, li_3, li_4, li_5, li_6, li_7, li_8, li_9, li_10, li_11, li_12, li_13, li_14, li_16, li_18, li_20, li_32, li_36, li_40, li_50, li_60, li_64, li_100, li_127, li_128, li_200, li_255, li_256, li_290, li_300, li_336, li_512, li_513, li_515, li_660, li_2048, li_16385, li_32768, li_32774, li_32776, li_33280, li_49153, nI_add, pk_mul, nI_eq, nI_leI, nI_ltI, pk_sub, nI_clamp, Decidable.not_not, Nat.reduceAdd, Nat.reduceMul, Option.some.injEq, exists_eq_left', exists_eq_left, forall_eq', reduceCtorEq, false_implies, forall_const, true_and, and_true, not_false_eq_true, not_true_eq_false, Nat.reduceEqDiff, Ip_r h, Ip_a h, Ip_b h, I_put_s, I_put_k, Rp_j, u2_r, rowU_r, false_and, and_false, if_false, if_true, reduceIte]
  exact r_goE0 hj (by simp only [u2_r, rowU_r, s_S, s_B, s_F, b_S, b_B, b_F, f_S, f_B, nfl_S, nfl_B, Nat.reduceEqDiff, false_and, and_false, true_and, and_true, and_self, if_true, if_false, reduceIte, ite_self, or_self, or_false, false_or, or_true, true_or, false_implies, implies_true, true_implies, Nat.reduceLeDiff, not_true_eq_false, not_false_eq_true, ne_eq]; exact h43) 6 0 _ (by omega) h1
theorem r_go4 {j S s c : Nat} {x2 x3 x4 x5 x7 x8 : Int32} {z9 z10 : Option sm_V} (h : RM a ra R M) (h32 : R 32 0 = nI S) (hj : j < 60) (hs : s < 7) (hc : c = 1 ∨ c = 2) (h43 : R 43 j = nI c) : sm_Run (D + 1) 159 321 [some (.inr (some a)), some (.inl (nE s)), some (.inl x2), some (.inl x3), some (.inl x4), some (.inl x5), some (.inl (nI j)), some (.inl x7), some (.inl x8), z9, z10] [] M (fun v M' => v = some (.inl (nI 0)) ∧ RM a ra (rs19 (sm_u2 (sm_u2 R 50 0 (nI j)) 32 0 (nI (S + 1))) s 6) M') := by
  have h1 := rm_sr (rm_sr h (f := 50) (v := nI j)) (f := 32) (v := nI (S + 1))
  refine bb_159_321 ?_
  simp (disch := first | assumption | omega | decide) only [rS_32 h, rk_39 h, h32, ↓li_m1, li_0, li_1, li_2, li_3, li_4, li_5, li_6, li_7, li_8, li_9, li_10, li_11, li_12, li_13, li_14, li_16, li_18, li_20, li_32, li_36, li_40, li_50, li_60, li_64, li_100, li_127, li_128, li_200, li_255, li_256, li_290, li_300, li_336, li_512, li_513, li_515, li_660, li_2048, li_16385, li_32768, li_32774, li_32776, li_33280, li_49153, nI_add, pk_mul, nI_eq, nI_leI, nI_ltI, pk_sub, nI_clamp, Decidable.not_not, Nat.reduceAdd, Nat.reduceMul, Option.some.injEq, exists_eq_left', exists_eq_left, forall_eq', reduceCtorEq, false_implies, forall_const, true_and, and_true, not_false_eq_true, not_true_eq_false, Nat.reduceEqDiff, Ip_r h, Ip_a h, Ip_b h, I_put_s, I_put_k, Rp_j, u2_r, rowU_r, false_and, and_false, if_false, if_true, reduceIte]
  exact r_goE1 hj hs hc (by simp only [u2_r, rowU_r, s_S, s_B, s_F, b_S, b_B, b_F, f_S, f_B, nfl_S, nfl_B, Nat.reduceEqDiff, false_and, and_false, true_and, and_true, and_self, if_true, if_false, reduceIte, ite_self, or_self, or_false, false_or, or_true, true_or, false_implies, implies_true, true_implies, Nat.reduceLeDiff, not_true_eq_false, not_false_eq_true, ne_eq]; exact h43) 6 0 _ (by omega) (by rw [rs19_0]; exact h1)
theorem carry1_rf (h : RF P R) : p_carry1 P = p_strike P (nk P) := by
  unfold p_carry1
  split
  · rename_i q
    unfold p_strike
    cases hf : f_ P (s_ P 228 0) with
    | none => rfl
    | some w =>
      obtain ⟨-, i, hi, -⟩ := h.2.2.2.2 _ _ hf
      omega
  · rfl
/-- WireBusModel.goes -/
theorem r_goes {j s : Nat} {x3 x4 : Int32} (h : RM a ra R M) (hx : EX P) (h32 : R 32 0 = nI (s_ P 228 0)) (hS : s_ P 228 0 + 1 < 2 ^ 31) (hF : RF P R) (hj : nk P = j) (h140 : s_ P 140 j = s) (hs : s < 7) (hp : PKo P j) (kk : okK (s_ P 141 j)) (h145 : s_ P 145 j = 0) (ht : isTok (s_ P 141 j) → x3 = nI (s_ P 142 j % 128) ∧ x4 = nI (s_ P 142 j / 128)) (h5 : s_ P 141 j = 5 → x3 = nI (s_ P 142 j)) (hb : ∀ i, i < (b_ P 7 j).length → R 52 i = nI ((b_ P 7 j).getD i 0)) : sm_Run (D + 2) 159 0 (sm_ent 159 [.inr (some a), .inl (nE s), .inl (nI (s_ P 141 j)), .inl x3, .inl x4, .inl (nI (b_ P 7 j).length)]) [] M (fun v M' => v = some (.inl (nI (if (p_carry1 P).2 = none then 0 else 1))) ∧ ∃ R', RM a ra R' M' ∧ GOr P R R') := by
  have j60 : j < 60 := by rw [← hj]; exact Nat.mod_lt _ (by decide)
  have l7 := ex_7 hx (show j < 66 by omega)
  have hS0 : s_ P 228 0 < 2 ^ 31 := by omega
  refine r_goA h h32 hS0 hj l7 ?_
  intro M1 h1
  generalize hR1 : rowU (gpR R j (b_ P 7 j).length (nE s) (nI (s_ P 141 j)) x3 x4) 42 (100 * j) (b_ P 7 j).length (fun i => R 52 i) = R1 at h1
  have K1 : RelK P R1 j := by
    rw [← hR1]
    unfold RelK; simp only [u2_r, rowU_r, s_S, s_B, s_F, b_S, b_B, b_F, f_S, f_B, nfl_S, nfl_B, Nat.reduceEqDiff, false_and, and_false, true_and, and_true, and_self, if_true, if_false, reduceIte, ite_self, or_self, or_false, false_or, or_true, true_or, false_implies, implies_true, true_implies, Nat.reduceLeDiff, not_true_eq_false, not_false_eq_true, ne_eq]
    refine ⟨by rw [h140], ht, h5, fun i hi => ?_, by rw [h145], fun q => by omega⟩
    rw [if_pos (by omega), show 100 * j + i - 100 * j = i by omega]; exact hb i hi
  have F1 : RF P R1 := rf_cg hF rfl rfl (fun f i hf => by
    rw [← hR1, rowU_r, if_neg (by omega)]; unfold gpR; rw [u2_r, if_neg (by omega), u2_r, if_neg (by omega), u2_r, if_neg (by omega), u2_r, if_neg (by omega), u2_r, if_neg (by omega), u2_r, if_neg (by omega), u2_r, if_neg (by omega)])
  have g32 : R1 32 0 = nI (s_ P 228 0) := by rw [← hR1]; simp only [u2_r, rowU_r, s_S, s_B, s_F, b_S, b_B, b_F, f_S, f_B, nfl_S, nfl_B, Nat.reduceEqDiff, false_and, and_false, true_and, and_true, and_self, if_true, if_false, reduceIte, ite_self, or_self, or_false, false_or, or_true, true_or, false_implies, implies_true, true_implies, Nat.reduceLeDiff, not_true_eq_false, not_false_eq_true, ne_eq]; exact h32
  have g43 : R1 43 j = nI 0 := by rw [← hR1]; simp only [u2_r, rowU_r, s_S, s_B, s_F, b_S, b_B, b_F, f_S, f_B, nfl_S, nfl_B, Nat.reduceEqDiff, false_and, and_false, true_and, and_true, and_self, if_true, if_false, reduceIte, ite_self, or_self, or_false, false_or, or_true, true_or, false_implies, implies_true, true_implies, Nat.reduceLeDiff, not_true_eq_false, not_false_eq_true, ne_eq]
  have fr1 : ∀ f i, ¬ (37 ≤ f ∧ f ≤ 45) → R1 f i = R f i := fun f i hf => by
    rw [← hR1, rowU_r, if_neg (by omega)]; unfold gpR; rw [u2_r, if_neg (by omega), u2_r, if_neg (by omega), u2_r, if_neg (by omega), u2_r, if_neg (by omega), u2_r, if_neg (by omega), u2_r, if_neg (by omega), u2_r, if_neg (by omega)]
  have ot1 : ∀ j', j' < 60 → j' ≠ j → ∀ f i, (37 ≤ f ∧ f ≤ 45 ∧ f ≠ 42 ∧ i = j') ∨ (f = 42 ∧ 100 * j' ≤ i ∧ i < 100 * j' + 100) → R1 f i = R f i := fun j' h1 h2 f i hf => by
    rw [← hR1, rowU_r, if_neg (by omega)]; unfold gpR; rw [u2_r, if_neg (by omega), u2_r, if_neg (by omega), u2_r, if_neg (by omega), u2_r, if_neg (by omega), u2_r, if_neg (by omega), u2_r, if_neg (by omega), u2_r, if_neg (by omega)]
  have ec := carry1_rf hF
  rw [hj] at ec
  clear hR1
  cases hf : f_ P (s_ P 228 0) with
  | none =>
    have e : p_carry1 P = (P, some j) := by rw [ec]; unfold p_strike; rw [hf]
    rw [e]
    refine r_goN h1 g32 F1.1 F1.2.1 (rf_none F1 hS0 hf) (fun x8 => ?_) (s_ P 227 0) 0 (by omega)
    refine ru_mono (r_go3 h1 g32 j60 g43) ?_
    rintro v M2 ⟨rfl, h2⟩
    refine ⟨rfl, _, h2, ?_⟩
    unfold GOr
    rw [e, hj]
    refine ⟨relK_cg K1 (fun _ _ => rfl) rfl (fun f i hf => by simp only [u2_r, rowU_r, s_S, s_B, s_F, b_S, b_B, b_F, f_S, f_B, nfl_S, nfl_B, show ¬ f = 50 by omega, show ¬ f = 32 by omega, Nat.reduceEqDiff, false_and, and_false, true_and, and_true, and_self, if_true, if_false, reduceIte, ite_self, or_self, or_false, false_or, or_true, true_or, false_implies, implies_true, true_implies, Nat.reduceLeDiff, not_true_eq_false, not_false_eq_true, ne_eq]), rf_cg F1 rfl rfl (fun f i hf => by simp only [u2_r, rowU_r, s_S, s_B, s_F, b_S, b_B, b_F, f_S, f_B, nfl_S, nfl_B, show ¬ f = 50 by omega, show ¬ f = 32 by omega, Nat.reduceEqDiff, false_and, and_false, true_and, and_true, and_self, if_true, if_false, reduceIte, ite_self, or_self, or_false, false_or, or_true, true_or, false_implies, implies_true, true_implies, Nat.reduceLeDiff, not_true_eq_false, not_false_eq_true, ne_eq]), by simp only [u2_r, rowU_r, s_S, s_B, s_F, b_S, b_B, b_F, f_S, f_B, nfl_S, nfl_B, Nat.reduceEqDiff, false_and, and_false, true_and, and_true, and_self, if_true, if_false, reduceIte, ite_self, or_self, or_false, false_or, or_true, true_or, false_implies, implies_true, true_implies, Nat.reduceLeDiff, not_true_eq_false, not_false_eq_true, ne_eq], by simp only [u2_r, rowU_r, s_S, s_B, s_F, b_S, b_B, b_F, f_S, f_B, nfl_S, nfl_B, Nat.reduceEqDiff, false_and, and_false, true_and, and_true, and_self, if_true, if_false, reduceIte, ite_self, or_self, or_false, false_or, or_true, true_or, false_implies, implies_true, true_implies, Nat.reduceLeDiff, not_true_eq_false, not_false_eq_true, ne_eq], fun d hd => ?_, fun f i h19 hf => ?_, fun j' h1 h2 f i hf => ?_⟩
    · rw [if_pos (Or.inl (by simp))]; simp only [u2_r, rowU_r, s_S, s_B, s_F, b_S, b_B, b_F, f_S, f_B, nfl_S, nfl_B, Nat.reduceEqDiff, false_and, and_false, true_and, and_true, and_self, if_true, if_false, reduceIte, ite_self, or_self, or_false, false_or, or_true, true_or, false_implies, implies_true, true_implies, Nat.reduceLeDiff, not_true_eq_false, not_false_eq_true, ne_eq]; exact fr1 _ _ (by decide)
    · rw [u2_r, if_neg (by omega), u2_r, if_neg (by omega)]; exact fr1 f i (by omega)
    · rw [u2_r, if_neg (by omega), u2_r, if_neg (by omega)]; exact ot1 j' h1 h2 f i hf
  | some wx =>
    obtain ⟨w, x⟩ := wx
    obtain ⟨-, i0, hi0, hp0⟩ := F1.2.2.2.2 _ _ hf
    obtain ⟨p, w', x', p1, p2, p3, p4, p5, p6, p7⟩ := F1.2.2.1 i0 hi0
    obtain rfl : p = s_ P 228 0 := by rw [p4, nI_eq p1 hS0] at hp0; exact hp0
    rw [hf] at p7
    obtain ⟨rfl, rfl⟩ : w = w' ∧ x = x' := by cases p7; exact ⟨rfl, rfl⟩
    have hinj : ∀ i, i < s_ P 227 0 → i ≠ i0 → R1 34 i ≠ nI (s_ P 228 0) := fun i hi hn q => hn (F1.2.2.2.1 i i0 hi hi0 (by rw [q, p4]))
    have hd := rf_drop F1 hS0 hi0 p4
    have := r_goF (D := D + 1) (x1 := nE s) (x2 := nI (s_ P 141 j)) (x3 := x3) (x4 := x4) (x5 := nI (b_ P 7 j).length) (x6 := nI j) (Q := (fun v M' => v = some (.inl (nI (if (p_carry1 P).2 = none then 0 else 1))) ∧ ∃ R', RM a ra R' M' ∧ GOr P R R')) h1 g32 F1.1 F1.2.1 hi0 p4 hinj (fun M2 h2 => ?_) (s_ P 227 0) 0 (by omega)
    · rw [if_neg (by omega)] at this; exact this
    refine r_goS (R := sm_u2 R1 33 0 (nI (s_ P 227 0 - 1))) (n := s_ P 227 0 - 1) (i0 := i0) (by simp only [u2_r, rowU_r, s_S, s_B, s_F, b_S, b_B, b_F, f_S, f_B, nfl_S, nfl_B, Nat.reduceEqDiff, false_and, and_false, true_and, and_true, and_self, if_true, if_false, reduceIte, ite_self, or_self, or_false, false_or, or_true, true_or, false_implies, implies_true, true_implies, Nat.reduceLeDiff, not_true_eq_false, not_false_eq_true, ne_eq]) (by have := F1.1; omega) (fun M3 x10 h3 => Or.inl ?_) (s_ P 227 0 - 1 - i0) i0 M2 (Nat.le_refl _) (by omega) (by rw [shR_0]; exact h2)
    generalize hR3 : shR (sm_u2 R1 33 0 (nI (s_ P 227 0 - 1))) i0 (s_ P 227 0 - 1) = R3 at h3 hd
    have fr3 : ∀ f i, ¬ (33 ≤ f ∧ f ≤ 36) → R3 f i = R1 f i := fun f i hf => by
      rw [← hR3]; unfold shR; rw [if_neg (by omega), u2_r, if_neg (by omega)]
    have r33 : R3 33 0 = nI (s_ P 227 0 - 1) := by rw [← hR3]; unfold shR; rw [if_neg (by omega)]; simp only [u2_r, rowU_r, s_S, s_B, s_F, b_S, b_B, b_F, f_S, f_B, nfl_S, nfl_B, Nat.reduceEqDiff, false_and, and_false, true_and, and_true, and_self, if_true, if_false, reduceIte, ite_self, or_self, or_false, false_or, or_true, true_or, false_implies, implies_true, true_implies, Nat.reduceLeDiff, not_true_eq_false, not_false_eq_true, ne_eq]
    have K3 : RelK P R3 j := relK_cg K1 (fun _ _ => rfl) rfl (fun f i hf => fr3 f i (by omega))
    have n50 := F1.1
    clear hR3
    refine bb_159_185 ?_
    simp (disch := first | assumption | omega | decide) only [rS_33 h3, rk_39 h3, r33, Nat.le_refl, ↓li_m1, li_0, li_1, li_2, li_3, li_4, li_5, li_6, li_7, li_8, li_9, li_10, li_11, li_12, li_13, li_14, li_16, li_18, li_20, li_32, li_36, li_40, li_50, li_60, li_64, li_100, li_127, li_128, li_200, li_255, li_256, li_290, li_300, li_336, li_512, li_513, li_515, li_660, li_2048, li_16385, li_32768, li_32774, li_32776, li_33280, li_49153, nI_add, pk_mul, nI_eq, nI_leI, nI_ltI, pk_sub, nI_clamp, Decidable.not_not, Nat.reduceAdd, Nat.reduceMul, Option.some.injEq, exists_eq_left', exists_eq_left, forall_eq', reduceCtorEq, false_implies, forall_const, true_and, and_true, not_false_eq_true, not_true_eq_false, Nat.reduceEqDiff, Ip_r h3, Ip_a h3, Ip_b h3, I_put_s, I_put_k, Rp_j, u2_r, rowU_r, false_and, and_false, if_false, if_true, reduceIte]
    refine ru_mono (r_make h3 K3 j60 hp l7 kk) ?_
    rintro v M4 ⟨rfl, R4, h4, zv, f4⟩
    have g4 : ∀ f i, ¬ (33 ≤ f ∧ f ≤ 36) → ¬ (46 ≤ f ∧ f ≤ 49) → R4 f i = R1 f i := fun f i q1 q2 => (f4 f i q2).trans (fr3 f i q1)
    have g432 : R4 32 0 = nI (s_ P 228 0) := by rw [g4 _ _ (by decide) (by decide)]; exact g32
    have g443 : R4 43 j = nI 0 := by rw [g4 _ _ (by decide) (by decide)]; exact g43
    have K4 : RelK P R4 j := relK_cg K1 (fun _ _ => rfl) rfl (fun f i hf => g4 f i (by omega) (by omega))
    have F4 : RF (p_drop P (s_ P 228 0)) R4 := rf_cg hd rfl rfl (fun f i hf => f4 f i (by omega))
    have zl : R4 46 0 = nI (p_lev P j).length := by have := zv.1; rw [List.length_map] at this; exact this
    have zi : ∀ i, i < (p_lev P j).length → R4 47 i = nI ((p_lev P j).getD i 0) := fun i hi => by
      have := zv.2 i (by rw [List.length_map]; exact hi)
      rw [getD_map hi] at this; exact this
    have ll : (p_lev P j).length ≤ 660 := by
      obtain ⟨g, M0, hrc⟩ := hx
      obtain ⟨v0, M0', -, h0'⟩ := ru_ex (c_encode (D := 0) hrc (show j < 66 by omega) hp)
      have := (rc_f h0').2.1
      rw [b_B, if_pos ⟨rfl, rfl⟩] at this
      exact this
    have l3 : ∀ i, (p_lev P j).getD i 0 < 2 ^ 31 := fun i => by
      rw [List.getD_eq_getElem?_getD]
      rcases Nat.lt_or_ge i (p_lev P j).length with q | q
      · rw [List.getElem?_eq_getElem q]
        have := lev_3 _ (List.getElem_mem q)
        exact Nat.lt_trans this (by decide)
      · rw [List.getElem?_eq_none q]; decide
    have pd : ∀ f i, f ≠ 227 → s_ (p_drop P (s_ P 228 0)) f i = s_ P f i := fun f i hf => by unfold p_drop; rw [s_S, if_neg (by omega)]; rfl
    -- sound after all
    have snd : p_carry1 P = (pS (pB (p_drop P (s_ P 228 0)) 24 0 (p_lev P j)) 229 0 0, some j) → sm_Run (D + 2) 159 321 [some (.inr (some a)), some (.inl (nE s)), some (.inl (nI (s_ P 141 j))), some (.inl x3), some (.inl x4), some (.inl (nI (b_ P 7 j).length)), some (.inl (nI j)), some (.inl (nI i0)), some (.inl (R1 35 i0)), some (.inl (R1 36 i0)), some (.inl (nI (s_ P 227 0 - 1)))] [] M4 (fun v M' => v = some (.inl (nI (if (p_carry1 P).2 = none then 0 else 1))) ∧ ∃ R', RM a ra R' M' ∧ GOr P R R') := by
      intro e
      refine ru_mono (r_go3 h4 g432 j60 g443) ?_
      rintro v M5 ⟨rfl, h5⟩
      rw [e]
      refine ⟨rfl, _, h5, ?_⟩
      unfold GOr
      rw [e, hj]
      refine ⟨relK_cg K4 (fun f hf => ?_) ?_ (fun f i hf => by simp only [u2_r, rowU_r, s_S, s_B, s_F, b_S, b_B, b_F, f_S, f_B, nfl_S, nfl_B, show ¬ f = 50 by omega, show ¬ f = 32 by omega, Nat.reduceEqDiff, false_and, and_false, true_and, and_true, and_self, if_true, if_false, reduceIte, ite_self, or_self, or_false, false_or, or_true, true_or, false_implies, implies_true, true_implies, Nat.reduceLeDiff, not_true_eq_false, not_false_eq_true, ne_eq]), rf_cg F4 (by simp only [s_S, s_B, s_F, b_S, b_B, b_F, f_S, f_B, Nat.reduceEqDiff, false_and, and_false, true_and, and_true, and_self, if_true, if_false, reduceIte, ite_self]) rfl (fun f i hf => by simp only [u2_r, rowU_r, s_S, s_B, s_F, b_S, b_B, b_F, f_S, f_B, nfl_S, nfl_B, show ¬ f = 50 by omega, show ¬ f = 32 by omega, Nat.reduceEqDiff, false_and, and_false, true_and, and_true, and_self, if_true, if_false, reduceIte, ite_self, or_self, or_false, false_or, or_true, true_or, false_implies, implies_true, true_implies, Nat.reduceLeDiff, not_true_eq_false, not_false_eq_true, ne_eq]), by simp only [u2_r, rowU_r, s_S, s_B, s_F, b_S, b_B, b_F, f_S, f_B, nfl_S, nfl_B, Nat.reduceEqDiff, false_and, and_false, true_and, and_true, and_self, if_true, if_false, reduceIte, ite_self, or_self, or_false, false_or, or_true, true_or, false_implies, implies_true, true_implies, Nat.reduceLeDiff, not_true_eq_false, not_false_eq_true, ne_eq], by simp only [u2_r, rowU_r, s_S, s_B, s_F, b_S, b_B, b_F, f_S, f_B, nfl_S, nfl_B, Nat.reduceEqDiff, false_and, and_false, true_and, and_true, and_self, if_true, if_false, reduceIte, ite_self, or_self, or_false, false_or, or_true, true_or, false_implies, implies_true, true_implies, Nat.reduceLeDiff, not_true_eq_false, not_false_eq_true, ne_eq], fun d hd => ?_, fun f i h19 hf => ?_, fun j' h1 h2 f i hf => ?_⟩
      · rw [s_S, if_neg (by omega), s_B, pd f j (by omega)]
      · rw [b_S, b_B, if_neg (by omega)]; rfl
      · rw [if_pos (Or.inl (by simp))]; simp only [u2_r, rowU_r, s_S, s_B, s_F, b_S, b_B, b_F, f_S, f_B, nfl_S, nfl_B, Nat.reduceEqDiff, false_and, and_false, true_and, and_true, and_self, if_true, if_false, reduceIte, ite_self, or_self, or_false, false_or, or_true, true_or, false_implies, implies_true, true_implies, Nat.reduceLeDiff, not_true_eq_false, not_false_eq_true, ne_eq]; rw [g4 _ _ (by decide) (by decide)]; exact fr1 _ _ (by decide)
      · rw [u2_r, if_neg (by omega), u2_r, if_neg (by omega), g4 f i (by omega) (by omega)]; exact fr1 f i (by omega)
      · rw [u2_r, if_neg (by omega), u2_r, if_neg (by omega), g4 f i (by omega) (by omega)]; exact ot1 j' h1 h2 f i hf
    -- struck
    have str : ∀ (P2 : pP) (c : Nat) (R5 : Nat → Nat → Int32) (M5 : sm_M), RM a ra R5 M5 → p_carry1 P = (P2, none) → (c = 1 ∨ c = 2) → R5 43 j = nI c → RelK P2 R5 j → s_ P2 227 0 = s_ (p_drop P (s_ P 228 0)) 227 0 → f_ P2 = f_ (p_drop P (s_ P 228 0)) → (∀ f i, ¬ ((f = 43 ∨ f = 44 ∨ f = 45) ∧ i = j) → R5 f i = R4 f i) → sm_Run (D + 2) 159 321 [some (.inr (some a)), some (.inl (nE s)), some (.inl (nI (s_ P 141 j))), some (.inl x3), some (.inl x4), some (.inl (nI (b_ P 7 j).length)), some (.inl (nI j)), some (.inl (nI i0)), some (.inl (R1 35 i0)), some (.inl (R1 36 i0)), some (.inl (nI (s_ P 227 0 - 1)))] [] M5 (fun v M' => v = some (.inl (nI (if (p_carry1 P).2 = none then 0 else 1))) ∧ ∃ R', RM a ra R' M' ∧ GOr P R R') := by
      intro P2 c R5 M5 h5 e hc q43 K5 e227 ef q5
      have g532 : R5 32 0 = nI (s_ P 228 0) := by rw [q5 _ _ (by omega)]; exact g432
      refine ru_mono (r_go4 h5 g532 j60 hs hc q43) ?_
      rintro v M6 ⟨rfl, h6⟩
      rw [e]
      refine ⟨rfl, _, h6, ?_⟩
      have g6 : ∀ f i, f ≠ 19 → f ≠ 50 → f ≠ 32 → rs19 (sm_u2 (sm_u2 R5 50 0 (nI j)) 32 0 (nI (s_ P 228 0 + 1))) s 6 f i = R5 f i := fun f i n1 n2 n3 => by
        unfold rs19; rw [if_neg (by omega), u2_r, if_neg (by omega), u2_r, if_neg (by omega)]
      unfold GOr
      rw [e, hj]
      refine ⟨relK_cg K5 (fun _ _ => rfl) rfl (fun f i hf => g6 f i (by omega) (by omega) (by omega)), rf_cg F4 e227 ef (fun f i hf => (g6 f i (by omega) (by omega) (by omega)).trans (q5 f i (by omega))), ?_, ?_, fun d hd => ?_, fun f i h19 hf => ?_, fun j' h1 h2 f i hf => ?_⟩
      · unfold rs19; rw [if_neg (by omega)]; simp only [u2_r, rowU_r, s_S, s_B, s_F, b_S, b_B, b_F, f_S, f_B, nfl_S, nfl_B, Nat.reduceEqDiff, false_and, and_false, true_and, and_true, and_self, if_true, if_false, reduceIte, ite_self, or_self, or_false, false_or, or_true, true_or, false_implies, implies_true, true_implies, Nat.reduceLeDiff, not_true_eq_false, not_false_eq_true, ne_eq]
      · unfold rs19; rw [if_neg (by omega)]; simp only [u2_r, rowU_r, s_S, s_B, s_F, b_S, b_B, b_F, f_S, f_B, nfl_S, nfl_B, Nat.reduceEqDiff, false_and, and_false, true_and, and_true, and_self, if_true, if_false, reduceIte, ite_self, or_self, or_false, false_or, or_true, true_or, false_implies, implies_true, true_implies, Nat.reduceLeDiff, not_true_eq_false, not_false_eq_true, ne_eq]
      · unfold rs19
        rw [h140]
        by_cases q : d + 1 = s
        · rw [if_neg (by omega), if_pos (Or.inr q)]; simp only [u2_r, rowU_r, s_S, s_B, s_F, b_S, b_B, b_F, f_S, f_B, nfl_S, nfl_B, Nat.reduceEqDiff, false_and, and_false, true_and, and_true, and_self, if_true, if_false, reduceIte, ite_self, or_self, or_false, false_or, or_true, true_or, false_implies, implies_true, true_implies, Nat.reduceLeDiff, not_true_eq_false, not_false_eq_true, ne_eq]
          rw [q5 _ _ (by omega), g4 _ _ (by decide) (by decide)]; exact fr1 _ _ (by decide)
        · rw [if_pos (by omega), if_neg]
          rintro (q' | q')
          · exact q' rfl
          · exact q q'
      · rw [g6 f i h19 (by omega) (by omega), q5 f i (by omega), g4 f i (by omega) (by omega)]; exact fr1 f i (by omega)
      · rw [g6 f i (by omega) (by omega) (by omega), q5 f i (by omega), g4 f i (by omega) (by omega)]; exact ot1 j' h1 h2 f i hf
    have es : p_strike P j = if w = 0 then (pS (p_drop P (s_ P 228 0)) 145 j 1, none)
        else if (p_lev P j).length ≤ x ∨ (p_lev P j).getD x 0 = w - 1 then (pS (pB (p_drop P (s_ P 228 0)) 24 0 (p_lev P j)) 229 0 0, some j)
        else (pB (pS (pS (pS (pS (pB (p_drop P (s_ P 228 0)) 24 0 (p_lev P j)) 229 0 0) 145 j 2) 146 j x) 147 j (w - 1)) 24 0 ((p_lev P j).set x (w - 1)), none) := by
      unfold p_strike; rw [hf]
    rw [es] at ec
    refine bb_159_254 ?_
    by_cases w0 : w = 0
    · rw [if_pos w0] at ec
      subst w0
      rw [p5]
      simp (disch := first | assumption | omega | decide) only [rd_r43 h4, rR_43 h4, rN_43 h4, rW_43 h4, rA_43 h4, rk_39 h4, ↓li_m1, li_0, li_1, li_2, li_3, li_4, li_5, li_6, li_7, li_8, li_9, li_10, li_11, li_12, li_13, li_14, li_16, li_18, li_20, li_32, li_36, li_40, li_50, li_60, li_64, li_100, li_127, li_128, li_200, li_255, li_256, li_290, li_300, li_336, li_512, li_513, li_515, li_660, li_2048, li_16385, li_32768, li_32774, li_32776, li_33280, li_49153, nI_add, pk_mul, nI_eq, nI_leI, nI_ltI, pk_sub, nI_clamp, Decidable.not_not, Nat.reduceAdd, Nat.reduceMul, Option.some.injEq, exists_eq_left', exists_eq_left, forall_eq', reduceCtorEq, false_implies, forall_const, true_and, and_true, not_false_eq_true, not_true_eq_false, Nat.reduceEqDiff, Ip_r h4, Ip_a h4, Ip_b h4, I_put_s, I_put_k, Rp_j, u2_r, rowU_r, false_and, and_false, if_false, if_true, reduceIte]
      have h5 := rm_wr h4 (f := 43) (j := j) (v := nI 1)
      rw [← p5]
      refine str _ 1 _ _ h5 ec (Or.inl rfl) (by simp only [u2_r, rowU_r, s_S, s_B, s_F, b_S, b_B, b_F, f_S, f_B, nfl_S, nfl_B, Nat.reduceEqDiff, false_and, and_false, true_and, and_true, and_self, if_true, if_false, reduceIte, ite_self, or_self, or_false, false_or, or_true, true_or, false_implies, implies_true, true_implies, Nat.reduceLeDiff, not_true_eq_false, not_false_eq_true, ne_eq]) ?_ (by simp only [s_S, s_B, s_F, b_S, b_B, b_F, f_S, f_B, Nat.reduceEqDiff, false_and, and_false, true_and, and_true, and_self, if_true, if_false, reduceIte, ite_self]) rfl (fun f i hf => by rw [u2_r, if_neg (by omega)])
      obtain ⟨k37, k38, kt, k5, k41, k42, k43, k44⟩ := K4
      unfold RelK
      have e7 : b_ (pS (p_drop P (s_ P 228 0)) 145 j 1) 7 j = b_ P 7 j := rfl
      rw [e7]; simp only [u2_r, rowU_r, s_S, s_B, s_F, b_S, b_B, b_F, f_S, f_B, nfl_S, nfl_B, Nat.reduceEqDiff, false_and, and_false, true_and, and_true, and_self, if_true, if_false, reduceIte, ite_self, or_self, or_false, false_or, or_true, true_or, false_implies, implies_true, true_implies, Nat.reduceLeDiff, not_true_eq_false, not_false_eq_true, ne_eq]
      rw [pd _ _ (by decide), pd _ _ (by decide), pd _ _ (by decide)]
      exact ⟨k37, k38, kt, k5, k41, k42⟩
    · rw [if_neg w0] at ec
      have p6' := p6 w0
      rw [p5, p6']
      have ew : nI w - 1 = nI (w - 1) := by rw [show (1 : Int32) = nI 1 from rfl, pk_sub (by omega)]
      rw [ew]
      refine ⟨fun _ => ⟨h4.1, fun q => ?_, fun q => ?_⟩, fun q => ?_⟩
      · rw [rS_46 h4, zl, nI_leI (by omega) p3] at q
        rw [if_pos (Or.inl q)] at ec
        have := snd ec
        rw [p5, p6'] at this; exact this
      · rw [rS_46 h4, zl, nI_leI (by omega) p3] at q
        have zx := zi x (by omega)
        have lx := l3 x
        simp (disch := first | assumption | omega | decide) only [rd_r47 h4, rR_47 h4, rN_47 h4, rW_47 h4, rA_47 h4, rd_r43 h4, rR_43 h4, rN_43 h4, rW_43 h4, rA_43 h4, rd_r44 h4, rR_44 h4, rN_44 h4, rW_44 h4, rA_44 h4, rd_r45 h4, rR_45 h4, rN_45 h4, rW_45 h4, rA_45 h4, rk_39 h4, zx, ↓li_m1, li_0, li_1, li_2, li_3, li_4, li_5, li_6, li_7, li_8, li_9, li_10, li_11, li_12, li_13, li_14, li_16, li_18, li_20, li_32, li_36, li_40, li_50, li_60, li_64, li_100, li_127, li_128, li_200, li_255, li_256, li_290, li_300, li_336, li_512, li_513, li_515, li_660, li_2048, li_16385, li_32768, li_32774, li_32776, li_33280, li_49153, nI_add, pk_mul, nI_eq, nI_leI, nI_ltI, pk_sub, nI_clamp, Decidable.not_not, Nat.reduceAdd, Nat.reduceMul, Option.some.injEq, exists_eq_left', exists_eq_left, forall_eq', reduceCtorEq, false_implies, forall_const, true_and, and_true, not_false_eq_true, not_true_eq_false, Nat.reduceEqDiff, Ip_r h4, Ip_a h4, Ip_b h4, I_put_s, I_put_k, Rp_j, u2_r, rowU_r, false_and, and_false, if_false, if_true, reduceIte]
        refine ⟨fun q1 => ?_, fun q1 => ?_⟩
        · rw [if_pos (Or.inr q1)] at ec
          have := snd ec
          rw [p5, p6'] at this; exact this
        · rw [if_neg (by omega)] at ec
          have h5 := rm_wr (rm_wr (rm_wr h4 (f := 43) (j := j) (v := nI 2)) (f := 44) (j := j) (v := nI x)) (f := 45) (j := j) (v := nI (w - 1))
          have := str _ 2 _ _ h5 ec (Or.inr rfl) (by simp only [u2_r, rowU_r, s_S, s_B, s_F, b_S, b_B, b_F, f_S, f_B, nfl_S, nfl_B, Nat.reduceEqDiff, false_and, and_false, true_and, and_true, and_self, if_true, if_false, reduceIte, ite_self, or_self, or_false, false_or, or_true, true_or, false_implies, implies_true, true_implies, Nat.reduceLeDiff, not_true_eq_false, not_false_eq_true, ne_eq]) ?_ (by simp only [s_S, s_B, s_F, b_S, b_B, b_F, f_S, f_B, Nat.reduceEqDiff, false_and, and_false, true_and, and_true, and_self, if_true, if_false, reduceIte, ite_self]) rfl (fun f i hf => by rw [u2_r, if_neg (by omega), u2_r, if_neg (by omega), u2_r, if_neg (by omega)])
          · rw [p5, p6'] at this; exact this
          · obtain ⟨k37, k38, kt, k5, k41, k42, k43, k44⟩ := K4
            unfold RelK; simp only [u2_r, rowU_r, s_S, s_B, s_F, b_S, b_B, b_F, f_S, f_B, nfl_S, nfl_B, Nat.reduceEqDiff, false_and, and_false, true_and, and_true, and_self, if_true, if_false, reduceIte, ite_self, or_self, or_false, false_or, or_true, true_or, false_implies, implies_true, true_implies, Nat.reduceLeDiff, not_true_eq_false, not_false_eq_true, ne_eq]
            rw [pd _ _ (by decide), pd _ _ (by decide), pd _ _ (by decide)]
            exact ⟨k37, k38, kt, k5, k41, k42⟩
      · rw [Decidable.not_not, show (0 : Int32) = nI 0 from rfl, nI_eq (by omega) (by decide)] at q
        exact absurd q w0
end RS2
