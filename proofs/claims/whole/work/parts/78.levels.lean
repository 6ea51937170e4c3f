/-! The reference's levels. -/
section RL
variable {a : Nat} {ra : Nat → Nat} {R R0 : Nat → Nat → Int32} {M : sm_M} {D : Nat} {P : pP}
theorem bI_1 (b : Bool) : (1 : Int32) - bI b = bI (!b) := by cases b <;> decide
theorem bI_1n (b : Bool) : nI 1 - bI b = bI (!b) := bI_1 b
theorem bI_n0 {b : Bool} : bI b = nI 0 ↔ b = false := by cases b <;> decide
def ZB (R : Nat → Nat → Int32) (l : List Bool) : Prop := R 48 0 = nI l.length ∧ ∀ i, i < l.length → R 49 i = bI (l.getD i false)
def ZV (R : Nat → Nat → Int32) (v : List Int32) : Prop := R 46 0 = nI v.length ∧ ∀ i, i < v.length → R 47 i = v.getD i 0
def BS (a : Nat) (ra : Nat → Nat) (R0 : Nat → Nat → Int32) (l : List Bool) (M : sm_M) : Prop := ∃ R, RM a ra R M ∧ ZB R l ∧ ∀ f i, ¬ (46 ≤ f ∧ f ≤ 49) → R f i = R0 f i
theorem appB_gd {l m : List Bool} {i : Nat} : (l ++ m).getD i false = if i < l.length then l.getD i false else m.getD (i - l.length) false := by
  simp only [List.getD_eq_getElem?_getD]
  split
  · rename_i h; rw [List.getElem?_append_left h]
  · rename_i h; rw [List.getElem?_append_right (by omega)]
theorem appI_gd {l m : List Int32} {i : Nat} : (l ++ m).getD i 0 = if i < l.length then l.getD i 0 else m.getD (i - l.length) 0 := by
  simp only [List.getD_eq_getElem?_getD]
  split
  · rename_i h; rw [List.getElem?_append_left h]
  · rename_i h; rw [List.getElem?_append_right (by omega)]
theorem zb_put {l : List Bool} {b : Bool} (h : ZB R l) : ZB (sm_u2 (sm_u2 R 49 l.length (bI b)) 48 0 (nI (l.length + 1))) (l ++ [b]) := by
  refine ⟨?_, fun i hi => ?_⟩
  · simp only [u2_r, rowU_r, s_S, s_B, s_F, b_S, b_B, b_F, f_S, f_B, nfl_S, nfl_B, List.length_append, List.length_singleton, Nat.reduceEqDiff, false_and, and_false, true_and, and_true, and_self, if_true, if_false, reduceIte, ite_self, or_self, or_false, false_or, or_true, true_or, false_implies, implies_true, true_implies, Nat.reduceLeDiff, not_true_eq_false, not_false_eq_true, ne_eq]
  · rw [List.length_append, List.length_singleton] at hi
    rw [appB_gd]; simp only [u2_r, rowU_r, s_S, s_B, s_F, b_S, b_B, b_F, f_S, f_B, nfl_S, nfl_B, Nat.reduceEqDiff, false_and, and_false, true_and, and_true, and_self, if_true, if_false, reduceIte, ite_self, or_self, or_false, false_or, or_true, true_or, false_implies, implies_true, true_implies, Nat.reduceLeDiff, not_true_eq_false, not_false_eq_true, ne_eq]
    by_cases q : i < l.length
    · rw [if_neg (by omega), if_pos q]; exact h.2 i q
    · obtain rfl : i = l.length := by omega
      rw [if_pos rfl, if_neg q, Nat.sub_self]; rfl
theorem zv_put {v : List Int32} {x : Int32} (h : ZV R v) : ZV (sm_u2 (sm_u2 R 47 v.length x) 46 0 (nI (v.length + 1))) (v ++ [x]) := by
  refine ⟨?_, fun i hi => ?_⟩
  · simp only [u2_r, rowU_r, s_S, s_B, s_F, b_S, b_B, b_F, f_S, f_B, nfl_S, nfl_B, List.length_append, List.length_singleton, Nat.reduceEqDiff, false_and, and_false, true_and, and_true, and_self, if_true, if_false, reduceIte, ite_self, or_self, or_false, false_or, or_true, true_or, false_implies, implies_true, true_implies, Nat.reduceLeDiff, not_true_eq_false, not_false_eq_true, ne_eq]
  · rw [List.length_append, List.length_singleton] at hi
    rw [appI_gd]; simp only [u2_r, rowU_r, s_S, s_B, s_F, b_S, b_B, b_F, f_S, f_B, nfl_S, nfl_B, Nat.reduceEqDiff, false_and, and_false, true_and, and_true, and_self, if_true, if_false, reduceIte, ite_self, or_self, or_false, false_or, or_true, true_or, false_implies, implies_true, true_implies, Nat.reduceLeDiff, not_true_eq_false, not_false_eq_true, ne_eq]
    by_cases q : i < v.length
    · rw [if_neg (by omega), if_pos q]; exact h.2 i q
    · obtain rfl : i = v.length := by omega
      rw [if_pos rfl, if_neg q, Nat.sub_self]; rfl
theorem bs_put {l : List Bool} {b : Bool} (h : RM a ra R M) (hz : ZB R l) (hf : ∀ f i, ¬ (46 ≤ f ∧ f ≤ 49) → R f i = R0 f i) : BS a ra R0 (l ++ [b]) (sm_putI (sm_putI M (ra 49) l.length (bI b)) a 48 (nI (l.length + 1))) := by
  refine ⟨_, rm_sr (rm_wr h), zb_put hz, fun f i hn => ?_⟩
  rw [u2_r, if_neg (by omega), u2_r, if_neg (by omega)]
  exact hf f i hn
/-- WireBusModel.bitsOf -/
theorem r_bits_loop {n w : Nat} {l : List Bool} (hn : n < 2 ^ 31) (hw : w ≤ 31) (hl : l.length + w ≤ 700) : ∀ (k i : Nat) (M : sm_M), i + k = w → BS a ra R0 (l ++ nuB n i) M → sm_Run D 156 2 [some (.inr (some a)), some (.inl (nI n)), some (.inl (nI w)), some (.inl (nI i))] [] M (fun v M' => v = none ∧ BS a ra R0 (l ++ nuB n w) M') := by
  intro k
  induction k with
  | zero =>
    intro i M hi h
    obtain rfl : i = w := by omega
    refine bb_156_2 ⟨fun _ => ⟨rfl, h⟩, fun q => absurd (nI_le (Nat.le_refl i) (by omega)) q⟩
  | succ k ih =>
    intro i M hi h
    obtain ⟨R, h, hz, hf⟩ := h
    have h48 := hz.1
    have ll : (l ++ nuB n i).length < 700 := by rw [List.length_append, nuB_len]; omega
    refine bb_156_2 ?_
    rw [co_bit hn (by omega)]
    simp (disch := first | assumption | omega | decide) only [rS_48 h, rd_r49 h, rR_49 h, rN_49 h, rW_49 h, rA_49 h, rk_39 h, h48, ↓li_m1, li_0, li_1, li_2, li_3, li_4, li_5, li_6, li_7, li_8, li_9, li_10, li_11, li_12, li_13, li_14, li_16, li_18, li_20, li_32, li_36, li_40, li_50, li_60, li_64, li_100, li_127, li_128, li_200, li_255, li_256, li_290, li_300, li_336, li_512, li_513, li_515, li_660, li_2048, li_16385, li_32768, li_32774, li_32776, li_33280, li_49153, nI_add, pk_mul, nI_eq, nI_leI, nI_ltI, pk_sub, nI_clamp, Decidable.not_not, Nat.reduceAdd, Nat.reduceMul, Option.some.injEq, exists_eq_left', exists_eq_left, forall_eq', reduceCtorEq, false_implies, forall_const, true_and, and_true, not_false_eq_true, not_true_eq_false, Nat.reduceEqDiff, Ip_r h, Ip_a h, Ip_b h, I_put_s, I_put_k, Rp_j, u2_r, rowU_r, false_and, and_false, if_false, if_true, reduceIte]
    refine ⟨fun q => by omega, fun _ => ?_⟩
    refine ih (i + 1) _ (by omega) ?_
    rw [nuB_s, ← List.append_assoc]
    exact bs_put h hz hf
theorem r_bits {n w : Nat} {l : List Bool} (h : BS a ra R0 l M) (hn : n < 2 ^ 31) (hw : w ≤ 31) (hl : l.length + w ≤ 700) : sm_Run D 156 0 (sm_ent 156 [.inr (some a), .inl (nI n), .inl (nI w)]) [] M (fun v M' => v = none ∧ BS a ra R0 (l ++ nuB n w) M') := by
  refine bb_156_0 (r_bits_loop hn hw hl w 0 M (by omega) ?_)
  rw [show nuB n 0 = [] from rfl, List.append_nil]; exact h
/-- WireBusModel.check -/
theorem r_ck_loop {w p : Nat} {l : List Bool} {x1 : Int32} {Q : Option sm_V → sm_M → Prop} (h : RM a ra R M) (hz : ZB R l) (hl : l.length ≤ 700) (hw0 : 0 < w) (hw : w ≤ 16) (hP : p < 2 ^ w) : ∀ (k i c : Nat) (z : Option sm_V), i + k = l.length → c < 2 ^ w → (∀ z', sm_Run D 157 76 [some (.inr (some a)), some (.inl x1), some (.inl (nI w)), some (.inl (nI p)), some (.inl (nI (2 ^ w - 1))), some (.inl (nI (cr_F w p c (l.drop i)))), some (.inl (nI w - 1)), z'] [] M Q) →
    sm_Run D 157 14 [some (.inr (some a)), some (.inl x1), some (.inl (nI w)), some (.inl (nI p)), some (.inl (nI (2 ^ w - 1))), some (.inl (nI c)), some (.inl (nI i)), z] [] M Q := by
  have h16 : 2 ^ w ≤ 2 ^ 16 := Nat.pow_le_pow_right (by decide) hw
  have h48 := hz.1
  intro k
  induction k with
  | zero =>
    intro i c z hi hc hQ
    obtain rfl : i = l.length := by omega
    refine bb_157_14 ⟨h.1, fun _ => ?_, fun q => ?_⟩
    · have := hQ z
      rw [List.drop_length] at this
      exact this
    · exfalso; apply q
      rw [rS_48 h, h48]; exact nI_le (Nat.le_refl _) (by omega)
  | succ k ih =>
    intro i c z hi hc hQ
    have hlt : i < l.length := by omega
    have h49 := hz.2 i hlt
    have hdr : l.drop i = l.getD i false :: l.drop (i + 1) := drop_cons hlt
    refine bb_157_14 ?_
    rw [show (nI w - 1 : Int32) = nI (w - 1) from by rw [show (1 : Int32) = nI 1 from rfl, pk_sub hw0], co_bit (by omega) (by omega), co_shl hc hw]
    simp (disch := first | assumption | omega | decide) only [rS_48 h, rd_r49 h, rR_49 h, rN_49 h, rW_49 h, rA_49 h, rk_39 h, h48, h49, bI_inj, nx_xor, ↓li_m1, li_0, li_1, li_2, li_3, li_4, li_5, li_6, li_7, li_8, li_9, li_10, li_11, li_12, li_13, li_14, li_16, li_18, li_20, li_32, li_36, li_40, li_50, li_60, li_64, li_100, li_127, li_128, li_200, li_255, li_256, li_290, li_300, li_336, li_512, li_513, li_515, li_660, li_2048, li_16385, li_32768, li_32774, li_32776, li_33280, li_49153, nI_add, pk_mul, nI_eq, nI_leI, nI_ltI, pk_sub, nI_clamp, Decidable.not_not, Nat.reduceAdd, Nat.reduceMul, Option.some.injEq, exists_eq_left', exists_eq_left, forall_eq', reduceCtorEq, false_implies, forall_const, true_and, and_true, not_false_eq_true, not_true_eq_false, Nat.reduceEqDiff, Ip_r h, Ip_a h, Ip_b h, I_put_s, I_put_k, Rp_j, u2_r, rowU_r, false_and, and_false, if_false, if_true, reduceIte]
    refine ⟨fun q => by omega, fun _ => ⟨fun q => ?_, fun q => ?_⟩⟩
    · have e9 : cr_s w p c (l.getD i false) = (c <<< 1) % 2 ^ w := by
        unfold cr_s
        rw [q]; simp
      refine ih (i + 1) _ _ (by omega) (Nat.mod_lt _ (Nat.two_pow_pos w)) (fun z' => ?_)
      have := hQ z'
      rw [hdr] at this
      rw [← e9]; exact this
    · have e9 : cr_s w p c (l.getD i false) = (c <<< 1) % 2 ^ w ^^^ p := by
        unfold cr_s
        rw [if_pos (by simpa using q), Nat.xor_comm]
      refine ih (i + 1) _ _ (by omega) (Nat.xor_lt_two_pow (Nat.mod_lt _ (Nat.two_pow_pos w)) hP) (fun z' => ?_)
      have := hQ z'
      rw [hdr] at this
      rw [← e9]; exact this
theorem r_ck2 {c : Nat} {x1 x2 x3 x4 : Int32} {z : Option sm_V} (hc : c < 2 ^ 31) : ∀ (k : Nat) (M : sm_M) (l : List Bool), k ≤ 31 → l.length + k ≤ 700 → BS a ra R0 l M → sm_Run D 157 76 [some (.inr (some a)), some (.inl x1), some (.inl x2), some (.inl x3), some (.inl x4), some (.inl (nI c)), some (.inl (nI k + (-1))), z] [] M (fun v M' => v = none ∧ BS a ra R0 (l ++ (cr_b c k).map (fun b => !b)) M') := by
  intro k
  induction k with
  | zero =>
    intro M l _ _ h
    refine bb_157_76 ⟨fun _ => ⟨rfl, by rw [show (cr_b c 0).map (fun b => !b) = [] from rfl, List.append_nil]; exact h⟩, fun q => absurd (by decide) q⟩
  | succ k ih =>
    intro M l hk hl h
    obtain ⟨R, h, hz, hf⟩ := h
    have h48 := hz.1
    rw [pk_m1]
    refine bb_157_76 ⟨fun q => absurd q (nI_pos (by omega)), fun _ => ?_⟩
    rw [co_bit hc (by omega), bI_1]
    simp (disch := first | assumption | omega | decide) only [rS_48 h, rd_r49 h, rR_49 h, rN_49 h, rW_49 h, rA_49 h, rk_39 h, h48, ↓li_m1, li_0, li_1, li_2, li_3, li_4, li_5, li_6, li_7, li_8, li_9, li_10, li_11, li_12, li_13, li_14, li_16, li_18, li_20, li_32, li_36, li_40, li_50, li_60, li_64, li_100, li_127, li_128, li_200, li_255, li_256, li_290, li_300, li_336, li_512, li_513, li_515, li_660, li_2048, li_16385, li_32768, li_32774, li_32776, li_33280, li_49153, nI_add, pk_mul, nI_eq, nI_leI, nI_ltI, pk_sub, nI_clamp, Decidable.not_not, Nat.reduceAdd, Nat.reduceMul, Option.some.injEq, exists_eq_left', exists_eq_left, forall_eq', reduceCtorEq, false_implies, forall_const, true_and, and_true, not_false_eq_true, not_true_eq_false, Nat.reduceEqDiff, Ip_r h, Ip_a h, Ip_b h, I_put_s, I_put_k, Rp_j, u2_r, rowU_r, false_and, and_false, if_false, if_true, reduceIte]
    have := ih _ (l ++ [!c.testBit k]) (by omega) (by rw [List.length_append, List.length_singleton]; omega) (bs_put (R0 := R0) h hz hf)
    rw [List.append_assoc] at this
    exact this
theorem r_check {w : Nat} {l : List Bool} (h : BS a ra R0 l M) (hw : w = 5 ∨ w = 16) (h16 : 16 ≤ l.length) (hl : l.length + w ≤ 700) : sm_Run D 157 0 (sm_ent 157 [.inr (some a), .inl (nI 16), .inl (nI w), .inl (nI (cr_poly w))]) [] M (fun v M' => v = none ∧ BS a ra R0 (l ++ (cr_b (cr_F w (cr_poly w) (2 ^ w - 1) (l.drop 16)) w).map (fun b => !b)) M') := by
  have hP : cr_poly w < 2 ^ w := by rcases hw with rfl | rfl <;> decide
  have hF : cr_F w (cr_poly w) (2 ^ w - 1) (l.drop 16) < 2 ^ w := cr_F_lt hP _ _ (by have := Nat.two_pow_pos w; omega)
  have h31 : 2 ^ w ≤ 2 ^ 16 := Nat.pow_le_pow_right (by decide) (by omega)
  obtain ⟨R, h1, hz, hf⟩ := id h
  refine bb_157_0 ?_
  rw [co_all w hw]
  refine r_ck_loop h1 hz (by omega) (by omega) (by omega) hP (l.length - 16) 16 _ _ (by omega) (by have := Nat.two_pow_pos w; omega) (fun z' => ?_)
  have e9 : nI w - 1 = nI w + (-1) := by rcases hw with rfl | rfl <;> decide
  rw [e9]
  exact r_ck2 (by omega) w M l (by omega) hl h
/-- the levels are laid -/
def LvS (a : Nat) (ra : Nat → Nat) (R0 : Nat → Nat → Int32) (l : List Bool) (v : List Int32) (M : sm_M) : Prop := ∃ R, RM a ra R M ∧ ZB R l ∧ ZV R v ∧ ∀ f i, ¬ (46 ≤ f ∧ f ≤ 49) → R f i = R0 f i
theorem ls_put {l : List Bool} {v : List Int32} {x : Int32} (h : RM a ra R M) (hz : ZB R l) (hv : ZV R v) (hf : ∀ f i, ¬ (46 ≤ f ∧ f ≤ 49) → R f i = R0 f i) : LvS a ra R0 l (v ++ [x]) (sm_putI (sm_putI M (ra 47) v.length x) a 46 (nI (v.length + 1))) := by
  refine ⟨_, rm_sr (rm_wr h), ?_, zv_put hv, fun f i hn => ?_⟩
  · refine ⟨?_, fun i hi => ?_⟩
    · simp only [u2_r, rowU_r, s_S, s_B, s_F, b_S, b_B, b_F, f_S, f_B, nfl_S, nfl_B, Nat.reduceEqDiff, false_and, and_false, true_and, and_true, and_self, if_true, if_false, reduceIte, ite_self, or_self, or_false, false_or, or_true, true_or, false_implies, implies_true, true_implies, Nat.reduceLeDiff, not_true_eq_false, not_false_eq_true, ne_eq]; exact hz.1
    · simp only [u2_r, rowU_r, s_S, s_B, s_F, b_S, b_B, b_F, f_S, f_B, nfl_S, nfl_B, Nat.reduceEqDiff, false_and, and_false, true_and, and_true, and_self, if_true, if_false, reduceIte, ite_self, or_self, or_false, false_or, or_true, true_or, false_implies, implies_true, true_implies, Nat.reduceLeDiff, not_true_eq_false, not_false_eq_true, ne_eq]; exact hz.2 i hi
  · rw [u2_r, if_neg (by omega), u2_r, if_neg (by omega)]
    exact hf f i hn
theorem r_lay {l : List Bool} {x1 x2 : Int32} (hl : l.length ≤ 700) : ∀ (k i o : Nat) (now : Bool) (M : sm_M) (v : List Int32), i + k = l.length → o ≤ 5 → LvS a ra R0 l v M → v.length + (pu_st o (l.drop i)).length + 3 ≤ 800 →
    sm_Run (D + 1) 158 184 [some (.inr (some a)), some (.inl x1), some (.inl x2), some (.inl (bI now)), some (.inl (nI o)), some (.inl (nI i))] [] M (fun w M' => w = none ∧ LvS a ra R0 l (v ++ co_lev now o (l.drop i)) M') := by
  intro k
  induction k with
  | zero =>
    intro i o now M v hi ho h hv
    obtain rfl : i = l.length := by omega
    obtain ⟨R, h, hz, hV, hf⟩ := h
    have h48 := hz.1
    have h46 := hV.1
    rw [List.drop_length] at hv ⊢
    have hv3 : v.length + 3 ≤ 800 := by have : (pu_st o []).length = 0 := rfl; omega
    refine bb_158_184 ?_
    simp (disch := first | assumption | omega | decide) only [rS_46 h, rd_r47 h, rR_47 h, rN_47 h, rW_47 h, rA_47 h, rS_48 h, rk_39 h, h48, h46, Nat.le_refl, ↓li_m1, li_0, li_1, li_2, li_3, li_4, li_5, li_6, li_7, li_8, li_9, li_10, li_11, li_12, li_13, li_14, li_16, li_18, li_20, li_32, li_36, li_40, li_50, li_60, li_64, li_100, li_127, li_128, li_200, li_255, li_256, li_290, li_300, li_336, li_512, li_513, li_515, li_660, li_2048, li_16385, li_32768, li_32774, li_32776, li_33280, li_49153, nI_add, pk_mul, nI_eq, nI_leI, nI_ltI, pk_sub, nI_clamp, Decidable.not_not, Nat.reduceAdd, Nat.reduceMul, Option.some.injEq, exists_eq_left', exists_eq_left, forall_eq', reduceCtorEq, false_implies, forall_const, true_and, and_true, not_false_eq_true, not_true_eq_false, Nat.reduceEqDiff, Ip_r h, Ip_a h, Ip_b h, I_put_s, I_put_k, Rp_j, u2_r, rowU_r, false_and, and_false, if_false, if_true, reduceIte]
    refine bb_158_335 ⟨rfl, _, rm_sr (rm_wr (rm_wr (rm_wr h))), ⟨?_, fun i hi => ?_⟩, ⟨?_, fun i hi => ?_⟩, fun f i hn => ?_⟩
    · simp only [u2_r, rowU_r, s_S, s_B, s_F, b_S, b_B, b_F, f_S, f_B, nfl_S, nfl_B, Nat.reduceEqDiff, false_and, and_false, true_and, and_true, and_self, if_true, if_false, reduceIte, ite_self, or_self, or_false, false_or, or_true, true_or, false_implies, implies_true, true_implies, Nat.reduceLeDiff, not_true_eq_false, not_false_eq_true, ne_eq]; exact h48
    · simp only [u2_r, rowU_r, s_S, s_B, s_F, b_S, b_B, b_F, f_S, f_B, nfl_S, nfl_B, Nat.reduceEqDiff, false_and, and_false, true_and, and_true, and_self, if_true, if_false, reduceIte, ite_self, or_self, or_false, false_or, or_true, true_or, false_implies, implies_true, true_implies, Nat.reduceLeDiff, not_true_eq_false, not_false_eq_true, ne_eq]; exact hz.2 i hi
    · show _ = nI (v ++ ([] ++ [2, 2, 1])).length
      simp only [u2_r, rowU_r, s_S, s_B, s_F, b_S, b_B, b_F, f_S, f_B, nfl_S, nfl_B, List.length_append, List.length_nil, List.length_cons, Nat.reduceEqDiff, false_and, and_false, true_and, and_true, and_self, if_true, if_false, reduceIte, ite_self, or_self, or_false, false_or, or_true, true_or, false_implies, implies_true, true_implies, Nat.reduceLeDiff, not_true_eq_false, not_false_eq_true, ne_eq]
    · show _ = (v ++ ([] ++ [2, 2, 1])).getD i 0
      have hi : i < v.length + 3 := by
        have := hi
        unfold co_lev at this
        rw [List.length_append] at this; exact this
      simp only [u2_r, rowU_r, s_S, s_B, s_F, b_S, b_B, b_F, f_S, f_B, nfl_S, nfl_B, appI_gd, Nat.reduceEqDiff, false_and, and_false, true_and, and_true, and_self, if_true, if_false, reduceIte, ite_self, or_self, or_false, false_or, or_true, true_or, false_implies, implies_true, true_implies, Nat.reduceLeDiff, not_true_eq_false, not_false_eq_true, ne_eq]
      by_cases q : i < v.length
      · rw [if_neg (by omega), if_neg (by omega), if_neg (by omega), if_pos q]; exact hV.2 i q
      · rw [if_neg q]
        by_cases q0 : i = v.length
        · rw [if_neg (by omega), if_neg (by omega), if_pos q0, q0, Nat.sub_self]; rfl
        · by_cases q1 : i = v.length + 1
          · rw [if_neg (by omega), if_pos q1, show i - v.length = 1 by omega]; rfl
          · rw [if_pos (by omega), show i - v.length = 2 by omega]; rfl
    · rw [u2_r, if_neg (by omega), u2_r, if_neg (by omega), u2_r, if_neg (by omega), u2_r, if_neg (by omega)]
      exact hf f i hn
  | succ k ih =>
    intro i o now M v hi ho h hv
    obtain ⟨R, h, hz, hV, hf⟩ := h
    have h48 := hz.1
    have h46 := hV.1
    have h49 := hz.2 i (by omega)
    have hdr : l.drop i = l.getD i false :: l.drop (i + 1) := drop_cons (by omega)
    rw [hdr] at hv ⊢
    cases hb : l.getD i false with
    | false =>
      rw [hb] at hv h49
      have h49 : R 49 i = nI 0 := h49
      have hv : v.length + ((pu_st 0 (l.drop (i + 1))).length + 1) + 3 ≤ 800 := hv
      have e : v ++ co_lev now o (false :: l.drop (i + 1)) = (v ++ [bI (!now)]) ++ co_lev (!now) 0 (l.drop (i + 1)) := by
        show v ++ (bI (!now) :: _ ++ [2, 2, 1]) = _
        rw [List.append_assoc]; rfl
      rw [e]
      refine bb_158_184 ?_
      simp (disch := first | assumption | omega | decide) only [rS_46 h, rd_r47 h, rR_47 h, rN_47 h, rW_47 h, rA_47 h, rS_48 h, rd_r49 h, rR_49 h, rN_49 h, rW_49 h, rA_49 h, rk_39 h, h48, h46, h49, bI_1n, ↓li_m1, li_0, li_1, li_2, li_3, li_4, li_5, li_6, li_7, li_8, li_9, li_10, li_11, li_12, li_13, li_14, li_16, li_18, li_20, li_32, li_36, li_40, li_50, li_60, li_64, li_100, li_127, li_128, li_200, li_255, li_256, li_290, li_300, li_336, li_512, li_513, li_515, li_660, li_2048, li_16385, li_32768, li_32774, li_32776, li_33280, li_49153, nI_add, pk_mul, nI_eq, nI_leI, nI_ltI, pk_sub, nI_clamp, Decidable.not_not, Nat.reduceAdd, Nat.reduceMul, Option.some.injEq, exists_eq_left', exists_eq_left, forall_eq', reduceCtorEq, false_implies, forall_const, true_and, and_true, not_false_eq_true, not_true_eq_false, Nat.reduceEqDiff, Ip_r h, Ip_a h, Ip_b h, I_put_s, I_put_k, Rp_j, u2_r, rowU_r, false_and, and_false, if_false, if_true, reduceIte]
      refine ⟨fun q => by omega, fun _ => ?_⟩
      exact ih (i + 1) 0 (!now) _ _ (by omega) (by omega) (ls_put h hz hV hf) (by rw [List.length_append, List.length_singleton]; omega)
    | true =>
      rw [hb] at hv h49
      have h49 : R 49 i = nI 1 := h49
      by_cases q5 : o = 5
      · subst q5
        have hv : v.length + ((pu_st 0 (l.drop (i + 1))).length + 1 + 1) + 3 ≤ 800 := hv
        have e : v ++ co_lev now 5 (true :: l.drop (i + 1)) = (v ++ [bI now] ++ [bI (!now)]) ++ co_lev (!now) 0 (l.drop (i + 1)) := by
          show v ++ (bI now :: bI (!now) :: _ ++ [2, 2, 1]) = _
          rw [List.append_assoc, List.append_assoc]; rfl
        rw [e]
        refine bb_158_184 ?_
        simp (disch := first | assumption | omega | decide) only [rS_46 h, rd_r47 h, rR_47 h, rN_47 h, rW_47 h, rA_47 h, rS_48 h, rd_r49 h, rR_49 h, rN_49 h, rW_49 h, rA_49 h, rk_39 h, h48, h46, h49, bI_1n, ↓li_m1, li_0, li_1, li_2, li_3, li_4, li_5, li_6, li_7, li_8, li_9, li_10, li_11, li_12, li_13, li_14, li_16, li_18, li_20, li_32, li_36, li_40, li_50, li_60, li_64, li_100, li_127, li_128, li_200, li_255, li_256, li_290, li_300, li_336, li_512, li_513, li_515, li_660, li_2048, li_16385, li_32768, li_32774, li_32776, li_33280, li_49153, nI_add, pk_mul, nI_eq, nI_leI, nI_ltI, pk_sub, nI_clamp, Decidable.not_not, Nat.reduceAdd, Nat.reduceMul, Option.some.injEq, exists_eq_left', exists_eq_left, forall_eq', reduceCtorEq, false_implies, forall_const, true_and, and_true, not_false_eq_true, not_true_eq_false, Nat.reduceEqDiff, Ip_r h, Ip_a h, Ip_b h, I_put_s, I_put_k, Rp_j, u2_r, rowU_r, false_and, and_false, if_false, if_true, reduceIte]
        refine ⟨fun q => by omega, fun _ => ?_⟩
        refine bb_158_282 ?_
        rw [nI_1]
        obtain ⟨R2, h2, hz2, hV2, hf2⟩ := ls_put (x := bI now) h hz hV hf
        have := ls_put (x := bI (!now)) h2 hz2 hV2 hf2
        rw [List.length_append, List.length_singleton] at this
        exact ih (i + 1) 0 (!now) _ _ (by omega) (by omega) this (by rw [List.length_append, List.length_singleton, List.length_append, List.length_singleton]; omega)
      · have ps : pu_st o (true :: l.drop (i + 1)) = true :: pu_st (o + 1) (l.drop (i + 1)) := by
          show (if o = 5 then _ else _) = _
          rw [if_neg q5]
        have hv : v.length + ((pu_st (o + 1) (l.drop (i + 1))).length + 1) + 3 ≤ 800 := by rw [ps] at hv; exact hv
        have e : v ++ co_lev now o (true :: l.drop (i + 1)) = (v ++ [bI now]) ++ co_lev now (o + 1) (l.drop (i + 1)) := by
          unfold co_lev
          rw [ps, List.append_assoc]; rfl
        rw [e]
        refine bb_158_184 ?_
        simp (disch := first | assumption | omega | decide) only [rS_46 h, rd_r47 h, rR_47 h, rN_47 h, rW_47 h, rA_47 h, rS_48 h, rd_r49 h, rR_49 h, rN_49 h, rW_49 h, rA_49 h, rk_39 h, h48, h46, h49, bI_1n, ↓li_m1, li_0, li_1, li_2, li_3, li_4, li_5, li_6, li_7, li_8, li_9, li_10, li_11, li_12, li_13, li_14, li_16, li_18, li_20, li_32, li_36, li_40, li_50, li_60, li_64, li_100, li_127, li_128, li_200, li_255, li_256, li_290, li_300, li_336, li_512, li_513, li_515, li_660, li_2048, li_16385, li_32768, li_32774, li_32776, li_33280, li_49153, nI_add, pk_mul, nI_eq, nI_leI, nI_ltI, pk_sub, nI_clamp, Decidable.not_not, Nat.reduceAdd, Nat.reduceMul, Option.some.injEq, exists_eq_left', exists_eq_left, forall_eq', reduceCtorEq, false_implies, forall_const, true_and, and_true, not_false_eq_true, not_true_eq_false, Nat.reduceEqDiff, Ip_r h, Ip_a h, Ip_b h, I_put_s, I_put_k, Rp_j, u2_r, rowU_r, false_and, and_false, if_false, if_true, reduceIte]
        refine ⟨fun q => by omega, fun _ => ⟨fun _ => ?_, fun q => by omega⟩⟩
        exact ih (i + 1) (o + 1) now _ _ (by omega) (by omega) (ls_put h hz hV hf) (by rw [List.length_append, List.length_singleton]; omega)
end RL
