/-! The reference's levels of a packet. -/
section RM_
variable {a : Nat} {ra : Nat → Nat} {R R0 : Nat → Nat → Int32} {M : sm_M} {D : Nat} {P : pP}
theorem nuB_split (n : Nat) : nuB n 11 = nuB (n % 128) 7 ++ nuB (n / 128) 4 := by
  unfold nuB
  rw [show List.range 11 = List.range 7 ++ (List.range 4).map (fun x => 7 + x) from rfl, List.map_append, List.map_map]
  congr 1
  · apply List.map_congr_left
    intro i hi
    have := List.mem_range.mp hi
    rw [show (128 : Nat) = 2 ^ 7 from rfl, Nat.testBit_mod_two_pow]
    simp [this]
  · apply List.map_congr_left
    intro i hi
    rw [show (128 : Nat) = 2 ^ 7 from rfl, Nat.testBit_div_two_pow]
    show n.testBit (7 + i) = n.testBit (i + 7)
    rw [Nat.add_comm]
def okK (k : Nat) : Prop := isTok k ∨ k = 5 ∨ isDat k ∨ k = 2 ∨ k = 10 ∨ k = 14
theorem bs_r {l : List Bool} (h : BS a ra R0 l M) : ∃ R, RM a ra R M ∧ ∀ f i, ¬ (46 ≤ f ∧ f ≤ 49) → R f i = R0 f i := by
  obtain ⟨R, h, -, hf⟩ := h
  exact ⟨R, h, hf⟩
theorem relK_bs {j : Nat} (hk : RelK P R0 j) (hf : ∀ f i, ¬ (46 ≤ f ∧ f ≤ 49) → R f i = R0 f i) : RelK P R j := by
  unfold RelK at *
  simp (disch := decide) only [hf]
  exact hk
theorem r_171 {l : List Bool} {x1 x2 : Int32} {z3 z4 z5 : Option sm_V} (h : BS a ra R0 l M) (hl : l.length ≤ 560) : sm_Run (D + 1) 158 171 [some (.inr (some a)), some (.inl x1), some (.inl x2), z3, z4, z5] [] M (fun w M' => w = none ∧ LvS a ra R0 l (co_lev true 0 l) M') := by
  obtain ⟨R, h, hz, hf⟩ := h
  refine bb_158_171 ⟨h.1, ?_⟩
  have := r_lay (D := D) (a := a) (ra := ra) (R0 := R0) (l := l) (x1 := x1) (x2 := x2) (by omega) l.length 0 0 true (sm_putI M a 46 0) [] (by omega) (by omega) ⟨_, rm_sr h, ⟨?_, fun i hi => ?_⟩, ⟨rfl, fun i hi => absurd hi (Nat.not_lt_zero _)⟩, fun f i hn => ?_⟩ ?_
  · exact this
  · simp only [u2_r, rowU_r, s_S, s_B, s_F, b_S, b_B, b_F, f_S, f_B, nfl_S, nfl_B, Nat.reduceEqDiff, false_and, and_false, true_and, and_true, and_self, if_true, if_false, reduceIte, ite_self, or_self, or_false, false_or, or_true, true_or, false_implies, implies_true, true_implies, Nat.reduceLeDiff, not_true_eq_false, not_false_eq_true, ne_eq]; exact hz.1
  · simp only [u2_r, rowU_r, s_S, s_B, s_F, b_S, b_B, b_F, f_S, f_B, nfl_S, nfl_B, Nat.reduceEqDiff, false_and, and_false, true_and, and_true, and_self, if_true, if_false, reduceIte, ite_self, or_self, or_false, false_or, or_true, true_or, false_implies, implies_true, true_implies, Nat.reduceLeDiff, not_true_eq_false, not_false_eq_true, ne_eq]; exact hz.2 i hi
  · rw [u2_r, if_neg (by omega)]; exact hf f i hn
  · have := pu_st_len l 0 (by omega)
    show 0 + (pu_st 0 l).length + 3 ≤ 800
    omega
theorem r_dat {j : Nat} {h0 : List Bool} {x2 : Int32} {z4 z5 : Option sm_V} {Q : Option sm_V → sm_M → Prop} (hj : j < 60) (hk : RelK P R0 j) (hp : PKo P j) (h64 : (b_ P 7 j).length ≤ 64) (hh : h0.length = 16) (hQ : ∀ M z3, BS a ra R0 (h0 ++ pk_wck 16 (pk_dat (b_ P 7 j))) M → sm_Run (D + 1) 158 171 [some (.inr (some a)), some (.inl (nI j)), some (.inl x2), z3, z4, z5] [] M Q) : ∀ (k i : Nat) (M : sm_M), i + k = (b_ P 7 j).length → BS a ra R0 (h0 ++ pk_dat ((b_ P 7 j).take i)) M →
    sm_Run (D + 1) 158 128 [some (.inr (some a)), some (.inl (nI j)), some (.inl x2), some (.inl (nI i)), z4, z5] [] M Q := by
  obtain ⟨k37, k38, kt, k5, k41, k42, k43, k44⟩ := hk
  intro k
  induction k with
  | zero =>
    intro i M hi h
    obtain rfl : i = (b_ P 7 j).length := by omega
    rw [List.take_length] at h
    obtain ⟨R, h1, hf⟩ := bs_r h
    have r41 : R 41 j = nI (b_ P 7 j).length := by rw [hf _ _ (by decide)]; exact k41
    have ll : (h0 ++ pk_dat (b_ P 7 j)).length = 16 + 8 * (b_ P 7 j).length := by rw [List.length_append, pk_dat_len, hh]
    refine bb_158_128 ?_
    simp (disch := first | assumption | omega | decide) only [rd_r41 h1, rR_41 h1, rN_41 h1, rW_41 h1, rA_41 h1, rk_39 h1, r41, Nat.le_refl, ↓li_m1, li_0, li_1, li_2, li_3, li_4, li_5, li_6, li_7, li_8, li_9, li_10, li_11, li_12, li_13, li_14, li_16, li_18, li_20, li_32, li_36, li_40, li_50, li_60, li_64, li_100, li_127, li_128, li_200, li_255, li_256, li_290, li_300, li_336, li_512, li_513, li_515, li_660, li_2048, li_16385, li_32768, li_32774, li_32776, li_33280, li_49153, nI_add, pk_mul, nI_eq, nI_leI, nI_ltI, pk_sub, nI_clamp, Decidable.not_not, Nat.reduceAdd, Nat.reduceMul, Option.some.injEq, exists_eq_left', exists_eq_left, forall_eq', reduceCtorEq, false_implies, forall_const, true_and, and_true, not_false_eq_true, not_true_eq_false, Nat.reduceEqDiff, Ip_r h1, Ip_a h1, Ip_b h1, I_put_s, I_put_k, Rp_j, u2_r, rowU_r, false_and, and_false, if_false, if_true, reduceIte]
    have := r_check (D := D) h (w := 16) (Or.inr rfl) (by omega) (by omega)
    refine ru_mono this ?_
    rintro v M1 ⟨rfl, h2⟩
    refine hQ M1 _ ?_
    rw [List.drop_append_of_le_length (by omega), List.drop_of_length_le (by omega), List.nil_append, List.append_assoc] at h2
    exact h2
  | succ k ih =>
    intro i M hi h
    have hi' : i < (b_ P 7 j).length := by omega
    obtain ⟨R, h1, hf⟩ := bs_r h
    have r41 : R 41 j = nI (b_ P 7 j).length := by rw [hf _ _ (by decide)]; exact k41
    have r42 : R 42 (100 * j + i) = nI ((b_ P 7 j).getD i 0) := by rw [hf _ _ (by decide)]; exact k42 i hi'
    have bb := byte_getD hp.2.2 i
    refine bb_158_128 ?_
    simp (disch := first | assumption | omega | decide) only [rd_r41 h1, rR_41 h1, rN_41 h1, rW_41 h1, rA_41 h1, rd_r42 h1, rR_42 h1, rN_42 h1, rW_42 h1, rA_42 h1, rk_39 h1, r41, r42, ↓li_m1, li_0, li_1, li_2, li_3, li_4, li_5, li_6, li_7, li_8, li_9, li_10, li_11, li_12, li_13, li_14, li_16, li_18, li_20, li_32, li_36, li_40, li_50, li_60, li_64, li_100, li_127, li_128, li_200, li_255, li_256, li_290, li_300, li_336, li_512, li_513, li_515, li_660, li_2048, li_16385, li_32768, li_32774, li_32776, li_33280, li_49153, nI_add, pk_mul, nI_eq, nI_leI, nI_ltI, pk_sub, nI_clamp, Decidable.not_not, Nat.reduceAdd, Nat.reduceMul, Option.some.injEq, exists_eq_left', exists_eq_left, forall_eq', reduceCtorEq, false_implies, forall_const, true_and, and_true, not_false_eq_true, not_true_eq_false, Nat.reduceEqDiff, Ip_r h1, Ip_a h1, Ip_b h1, I_put_s, I_put_k, Rp_j, u2_r, rowU_r, false_and, and_false, if_false, if_true, reduceIte]
    refine ⟨fun q => by omega, fun _ => ?_⟩
    refine ru_mono (r_bits h (by omega) (by omega) ?_) ?_
    · rw [List.length_append, pk_dat_len, List.length_take, hh]; omega
    rintro v M1 ⟨rfl, h2⟩
    refine bb_158_155 ?_
    rw [nI_1]
    refine ih (i + 1) M1 (by omega) ?_
    rw [pk_dat_s hi', ← List.append_assoc]
    exact h2
/-- WireBusModel.makeLevels -/
theorem r_make {j : Nat} (h : RM a ra R M) (hk : RelK P R j) (hj : j < 60) (hp : PKo P j) (h64 : (b_ P 7 j).length ≤ 64) (kk : okK (s_ P 141 j)) : sm_Run (D + 1) 158 0 (sm_ent 158 [.inr (some a), .inl (nI j)]) [] M (fun v M' => v = none ∧ ∃ R', RM a ra R' M' ∧ ZV R' ((p_lev P j).map nI) ∧ ∀ f i, ¬ (46 ≤ f ∧ f ≤ 49) → R' f i = R f i) := by
  have hk0 := hk
  obtain ⟨k37, k38, kt, k5, k41, k42, k43, k44⟩ := hk
  obtain ⟨p1, p2, p3⟩ := id hp
  have fin : ∀ (M1 : sm_M) (z3 z4 z5 : Option sm_V) x2, BS a ra R (pk_bits (s_ P 141 j) (s_ P 142 j) (b_ P 7 j)) M1 → (pk_bits (s_ P 141 j) (s_ P 142 j) (b_ P 7 j)).length ≤ 560 → sm_Run (D + 1) 158 171 [some (.inr (some a)), some (.inl (nI j)), some (.inl x2), z3, z4, z5] [] M1 (fun v M' => v = none ∧ ∃ R', RM a ra R' M' ∧ ZV R' ((p_lev P j).map nI) ∧ ∀ f i, ¬ (46 ≤ f ∧ f ≤ 49) → R' f i = R f i) := by
    intro M1 z3 z4 z5 x2 h1 hl
    refine ru_mono (r_171 h1 hl) ?_
    rintro v M2 ⟨rfl, R2, h2, -, hV, hf⟩
    refine ⟨rfl, R2, h2, ?_, hf⟩
    unfold p_lev; rw [lev_map]; exact hV
  have hl16 := pk_head_len (s_ P 141 j)
  refine bb_158_0 ⟨h.1, ?_⟩
  have h0 : BS a ra R [] (sm_putI M a 48 0) := ⟨_, rm_sr h, ⟨rfl, fun i hi => absurd hi (Nat.not_lt_zero _)⟩, fun f i hn => by rw [u2_r, if_neg (by omega)]⟩
  refine ru_mono (r_bits (n := 128) (w := 8) h0 (by decide) (by decide) (by decide)) ?_
  rintro v M1 ⟨rfl, h1⟩
  obtain ⟨R1, g1, f1⟩ := bs_r h1
  have e38 : R1 38 j = nI (s_ P 141 j) := by rw [f1 _ _ (by decide)]; exact k38
  refine bb_158_14 ?_
  rw [rd_r38 g1]
  refine ⟨g1.1, ra 38, rfl, by rw [rA_38 g1]; trivial, by rw [rN_38 g1 hj]; trivial, ?_⟩
  rw [nI_clamp (by omega), rR_38 g1, e38, en_fst p1]
  refine ru_mono (r_bits (w := 8) h1 (by omega) (by decide) (by decide)) ?_
  rintro v M2 ⟨rfl, h2⟩
  have h2 : BS a ra R (pk_head (s_ P 141 j)) M2 := h2
  obtain ⟨R2, g2, f2⟩ := bs_r h2
  have q39 : R2 39 j = R 39 j := f2 _ _ (by decide)
  have q40 : R2 40 j = R 40 j := f2 _ _ (by decide)
  refine bb_158_36 ?_
  have bk : ∀ b, ¬ (s_ P 141 j = 3 ∨ s_ P 141 j = 11) → ¬ (s_ P 141 j = 2 ∨ s_ P 141 j = 10 ∨ s_ P 141 j = 14) → b = pk_bits (s_ P 141 j) (s_ P 142 j) (b_ P 7 j) → b = pk_head (s_ P 141 j) ++ pk_wck 5 (nuB (s_ P 142 j) 11) := by
    intro b n1 n2 e
    rw [e]; unfold pk_bits; rw [if_neg n1, if_neg n2]
  have ck : ∀ (M3 : sm_M) n pc x2, BS a ra R (pk_head (s_ P 141 j) ++ nuB (s_ P 142 j) 11) M3 → ¬ (s_ P 141 j = 3 ∨ s_ P 141 j = 11) → ¬ (s_ P 141 j = 2 ∨ s_ P 141 j = 10 ∨ s_ P 141 j = 14) → (∀ M4, BS a ra R (pk_bits (s_ P 141 j) (s_ P 142 j) (b_ P 7 j)) M4 → (pk_bits (s_ P 141 j) (s_ P 142 j) (b_ P 7 j)).length ≤ 560 → sm_Run (D + 1) 158 pc [some (.inr (some a)), some (.inl (nI j)), some (.inl x2), none, none, none] [] M4 (fun v M' => v = none ∧ ∃ R', RM a ra R' M' ∧ ZV R' ((p_lev P j).map nI) ∧ ∀ f i, ¬ (46 ≤ f ∧ f ≤ 49) → R' f i = R f i)) → n = 5 → sm_Run D 157 0 (sm_ent 157 [.inr (some a), .inl (nI 16), .inl (nI n), .inl (nI n)]) [] M3 (fun v M1 => sm_Run (D + 1) 158 pc [some (.inr (some a)), some (.inl (nI j)), some (.inl x2), none, none, none] (v.toList ++ []) M1 (fun v M' => v = none ∧ ∃ R', RM a ra R' M' ∧ ZV R' ((p_lev P j).map nI) ∧ ∀ f i, ¬ (46 ≤ f ∧ f ≤ 49) → R' f i = R f i)) := by
    rintro M3 n pc x2 h3 n1 n2 hQ rfl
    have ll : (pk_head (s_ P 141 j) ++ nuB (s_ P 142 j) 11).length = 27 := by rw [List.length_append, hl16, nuB_len]
    refine ru_mono (r_check (w := 5) h3 (Or.inl rfl) (by omega) (by omega)) ?_
    rintro v M4 ⟨rfl, h4⟩
    rw [List.drop_append_of_le_length (by omega), List.drop_of_length_le (by omega), List.nil_append, List.append_assoc] at h4
    have e := bk _ n1 n2 rfl
    rw [e] at hQ
    refine hQ M4 h4 ?_
    unfold pk_wck
    rw [List.length_append, List.length_append, List.length_map, cr_b_len, nuB_len, hl16]; omega
  have tok : isTok (s_ P 141 j) → ∀ x, x = R 39 j → sm_Run D 156 0 (sm_ent 156 [.inr (some a), .inl x, .inl (nI 7)]) [] M2 (fun v M1 => sm_Run (D + 1) 158 65 [some (.inr (some a)), some (.inl (nI j)), some (.inl (nI (s_ P 141 j))), none, none, none] (v.toList ++ []) M1 (fun v M' => v = none ∧ ∃ R', RM a ra R' M' ∧ ZV R' ((p_lev P j).map nI) ∧ ∀ f i, ¬ (46 ≤ f ∧ f ≤ 49) → R' f i = R f i)) := by
    rintro t x rfl
    obtain ⟨k39, k40⟩ := kt t
    rw [k39]
    refine ru_mono (r_bits (w := 7) h2 (by omega) (by decide) (by omega)) ?_
    rintro v M3 ⟨rfl, h3⟩
    obtain ⟨R3, g3, f3⟩ := bs_r h3
    have e40 : R3 40 j = nI (s_ P 142 j / 128) := by rw [f3 _ _ (by decide)]; exact k40
    refine bb_158_65 ?_
    simp (disch := first | assumption | omega | decide) only [rd_r40 g3, rR_40 g3, rN_40 g3, rW_40 g3, rA_40 g3, rk_39 g3, e40, ↓li_m1, li_0, li_1, li_2, li_3, li_4, li_5, li_6, li_7, li_8, li_9, li_10, li_11, li_12, li_13, li_14, li_16, li_18, li_20, li_32, li_36, li_40, li_50, li_60, li_64, li_100, li_127, li_128, li_200, li_255, li_256, li_290, li_300, li_336, li_512, li_513, li_515, li_660, li_2048, li_16385, li_32768, li_32774, li_32776, li_33280, li_49153, nI_add, pk_mul, nI_eq, nI_leI, nI_ltI, pk_sub, nI_clamp, Decidable.not_not, Nat.reduceAdd, Nat.reduceMul, Option.some.injEq, exists_eq_left', exists_eq_left, forall_eq', reduceCtorEq, false_implies, forall_const, true_and, and_true, not_false_eq_true, not_true_eq_false, Nat.reduceEqDiff, Ip_r g3, Ip_a g3, Ip_b g3, I_put_s, I_put_k, Rp_j, u2_r, rowU_r, false_and, and_false, if_false, if_true, reduceIte]
    refine ru_mono (r_bits (w := 4) h3 (by omega) (by decide) (by rw [List.length_append, nuB_len]; omega)) ?_
    rintro v M4 ⟨rfl, h4⟩
    rw [List.append_assoc, ← nuB_split] at h4
    obtain ⟨R4, g4, -⟩ := bs_r h4
    refine bb_158_76 ⟨g4.1, ?_⟩
    refine ck M4 5 84 _ h4 (by unfold isTok at t; omega) (by unfold isTok at t; omega) (fun M5 h5 l5 => bb_158_84 (fin M5 _ _ _ _ h5 l5)) rfl
  have dat : isDat (s_ P 141 j) → sm_Run (D + 1) 158 128 [some (.inr (some a)), some (.inl (nI j)), some (.inl (nI (s_ P 141 j))), some (.inl (nI 0)), none, none] [] M2 (fun v M' => v = none ∧ ∃ R', RM a ra R' M' ∧ ZV R' ((p_lev P j).map nI) ∧ ∀ f i, ¬ (46 ≤ f ∧ f ≤ 49) → R' f i = R f i) := by
    intro t
    have e : pk_bits (s_ P 141 j) (s_ P 142 j) (b_ P 7 j) = pk_head (s_ P 141 j) ++ pk_wck 16 (pk_dat (b_ P 7 j)) := by unfold pk_bits; rw [if_pos t]
    refine r_dat (D := D) hj hk0 hp h64 hl16 (fun M3 z3 h3 => ?_) (b_ P 7 j).length 0 M2 (by omega) (by rw [show pk_dat ((b_ P 7 j).take 0) = [] from rfl, List.append_nil]; exact h2)
    refine fin M3 _ _ _ _ (by rw [e]; exact h3) ?_
    rw [e]; unfold pk_wck
    rw [List.length_append, List.length_append, List.length_map, cr_b_len, pk_dat_len, hl16]; omega
  simp (disch := first | assumption | omega | decide) only [rd_r39 g2, rR_39 g2, rN_39 g2, rW_39 g2, rA_39 g2, rk_39 g2, ↓li_m1, li_0, li_1, li_2, li_3, li_4, li_5, li_6, li_7, li_8, li_9, li_10, li_11, li_12, li_13, li_14, li_16, li_18, li_20, li_32, li_36, li_40, li_50, li_60, li_64, li_100, li_127, li_128, li_200, li_255, li_256, li_290, li_300, li_336, li_512, li_513, li_515, li_660, li_2048, li_16385, li_32768, li_32774, li_32776, li_33280, li_49153, nI_add, pk_mul, nI_eq, nI_leI, nI_ltI, pk_sub, nI_clamp, Decidable.not_not, Nat.reduceAdd, Nat.reduceMul, Option.some.injEq, exists_eq_left', exists_eq_left, forall_eq', reduceCtorEq, false_implies, forall_const, true_and, and_true, not_false_eq_true, not_true_eq_false, Nat.reduceEqDiff, Ip_r g2, Ip_a g2, Ip_b g2, I_put_s, I_put_k, Rp_j, u2_r, rowU_r, false_and, and_false, if_false, if_true, reduceIte]
  refine ⟨fun q => tok (Or.inl q) _ q39, fun q1 => ⟨fun q => tok (Or.inr (Or.inl q)) _ q39, fun q9 => ⟨fun q13 => ⟨fun q5 => ⟨fun q3 => dat (Or.inl q3), fun q3 => ⟨fun q11 => ?_, fun q11 => dat (Or.inr q11)⟩⟩, fun q5 => ?_⟩, fun q => tok (Or.inr (Or.inr q)) _ q39⟩⟩⟩
  · have e : pk_bits (s_ P 141 j) (s_ P 142 j) (b_ P 7 j) = pk_head (s_ P 141 j) := by
      unfold pk_bits
      rw [if_neg (by omega), if_pos (by unfold okK isTok isDat at kk; omega), List.append_nil]
    exact fin M2 _ _ _ _ (by rw [e]; exact h2) (by rw [e, hl16]; omega)
  · rw [q39, k5 q5]
    refine ru_mono (r_bits (w := 11) h2 (by omega) (by decide) (by omega)) ?_
    rintro v M3 ⟨rfl, h3⟩
    obtain ⟨R3, g3, f3⟩ := bs_r h3
    refine bb_158_104 ⟨g3.1, ?_⟩
    exact ck M3 5 112 _ h3 (by omega) (by omega) (fun M5 h5 l5 => bb_158_112 (fin M5 _ _ _ _ h5 l5)) rfl
end RM_
