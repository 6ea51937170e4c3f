/-! The reference's host takes bytes. -/
section HD_
variable {a : Nat} {ra : Nat → Nat} {R R' : Nat → Nat → Int32} {M : sm_M} {D : Nat} {P P' : pP} {d t : Nat}
/-- the host says ACK -/
theorem r_ack (h : RM a ra R M) (hX : XW P R) (hS : s_ P 228 0 + 1 < 2 ^ 31) : sm_Run (D + 5) 178 0 (sm_ent 178 [.inr (some a), .inl (nI 2), .inl (nI 0), .inl (nI 0), .inl (nI 0)]) [] M (fun v M' => v = none ∧ ∃ R', RM a ra R' M' ∧ XW (p_carry (p_rst P (nk P) 0 2)).1 R' ∧ FrH R R') := by
  obtain ⟨x1, x2, x3, x4⟩ := hX
  refine ru_mono (r_tellD (D := D) (k := 2) (l := []) (x3 := nI 0) (x4 := nI 0) h x1 x2 x3 x4 hS (ex_prD x1.1.1 (by decide) (by decide)) (by omega) b8_nil (fun d _ _ _ q => absurd q (by decide)) (fun i hi => absurd hi (Nat.not_lt_zero _))) ?_
  rintro v M1 ⟨rfl, R1, h1, ⟨t1, t2, t3, t4, t5⟩, t6⟩
  rw [prD_ack] at t1 t2 t3 t6
  exact ⟨rfl, R1, h1, ⟨t1, t6 rfl, t2, t3⟩, t5⟩
abbrev tkR1 (R : Nat → Nat → Int32) (t j o fit : Nat) : Nat → Nat → Int32 := sm_u2 (rowU R 81 (100 * t + o) fit (fun i => R 42 (100 * j + i))) 74 t (nI (o + fit))
/-- rows after taking; mn is 1 if the toggle fits -/
def tkR (R : Nat → Nat → Int32) (t j o len many mn : Nat) : Nat → Nat → Int32 := if mn = 1 then (if len - o < many then sm_u2 (tkR1 R t j o (min many (len - o))) 73 t (nI 3) else tkR1 R t j o (min many (len - o))) else R
theorem tkR_o {j o len many mn f i : Nat} (hf : f ≠ 81 ∧ ¬ (f = 74 ∧ i = t) ∧ ¬ (f = 73 ∧ i = t)) : tkR R t j o len many mn f i = R f i := by
  unfold tkR tkR1
  split
  · split
    · rw [u2_r, if_neg (by omega), u2_r, if_neg (by omega), rowU_r, if_neg (by omega)]
    · rw [u2_r, if_neg (by omega), rowU_r, if_neg (by omega)]
  · rfl
def mnN (k tg : Nat) : Nat := if tgo k = tg then 1 else 0
def lastN (o len many sz mn : Nat) : Nat := if mn = 1 ∧ many ≤ len - o ∧ (o + min many (len - o) = len ∨ many < sz) then 1 else 0
theorem last_le {o len many sz mn : Nat} : lastN o len many sz mn ≤ 1 := by unfold lastN; split <;> omega
theorem mn_le {k tg : Nat} : mnN k tg ≤ 1 := by unfold mnN; split <;> omega
def TKr (P : pP) (R R' : Nat → Nat → Int32) (t j o len many mn : Nat) : Prop := XW (p_carry (p_rst P (nk P) 0 2)).1 R' ∧ R' 84 0 = nI mn ∧ ∀ f i, f < 4 ∨ 55 ≤ f → f ≠ 84 → R' f i = tkR R t j o len many mn f i
theorem fit_b {x : Nat} (h : x ≤ 1) : sm_fit .boolean (nI x) = true := by
  have : x = 0 ∨ x = 1 := by omega
  rcases this with rfl | rfl <;> rfl
theorem r_tk1 {j o len many sz mn : Nat} {x2 x3 x4 x5 : Int32} {z8 z9 z10 : Option sm_V} {R2 : Nat → Nat → Int32} (h2 : RM a ra R2 M) (hX : XW P R) (hS : s_ P 228 0 + 1 < 2 ^ 31) (e2 : R2 = tkR R t j o len many mn) (hm : mn ≤ 1) {x6 x7 : Nat} (e6 : x6 = mn) (e7 : x7 = lastN o len many sz mn) : sm_Run (D + 5) 178 0 (sm_ent 178 [.inr (some a), .inl (nI 2), .inl (nI 0), .inl (nI 0), .inl (nI 0)]) [] M (fun v M1 => sm_Run (D + 6) 183 195 [some (.inr (some a)), some (.inl (nI t)), some (.inl x2), some (.inl x3), some (.inl x4), some (.inl x5), some (.inl (nI x6)), some (.inl (nI x7)), z8, z9, z10] (v.toList ++ []) M1 (fun v M' => v = some (.inl (nI (lastN o len many sz mn))) ∧ ∃ R', RM a ra R' M' ∧ TKr P R R' t j o len many mn)) := by
  subst e6; subst e7
  have hX2 : XW P R2 := xw_ho hX hX.1.1.1 fho_rf (fun f i hf => by rw [e2]; exact tkR_o (by omega))
  refine ru_mono (r_ack (D := D) h2 hX2 hS) ?_
  rintro v M3 ⟨rfl, R3, h3, x3, f3⟩
  have h4 := rm_sr h3 (f := 84) (v := nI x6)
  refine bb_183_195 ⟨h3.1, fit_b hm, fit_b last_le, rfl, _, h4, ?_, ?_, fun f i hf hn => ?_⟩
  · exact xw_ho x3 x3.1.1.1 fho_rf (fun f i hf => by rw [u2_r, if_neg (by omega)])
  · simp only [u2_r, rowU_r, s_S, s_B, s_F, b_S, b_B, b_F, f_S, f_B, nfl_S, nfl_B, Nat.reduceEqDiff, false_and, and_false, true_and, and_true, and_self, if_true, if_false, reduceIte, ite_self, or_self, or_false, false_or, or_true, true_or, false_implies, implies_true, true_implies, Nat.reduceLeDiff, not_true_eq_false, not_false_eq_true, ne_eq]
  · rw [u2_r, if_neg (by omega), f3 f i hf, e2]
theorem r_tk2 {j o len many sz : Nat} {x2 x10 : Int32} {R3 : Nat → Nat → Int32} (h3 : RM a ra R3 M) (hX : XW P R) (hS : s_ P 228 0 + 1 < 2 ^ 31) (ht : t < 336) (ho : o ≤ len) (hl : len ≤ 100) (hmm : many ≤ 64) (hz : sz < 2 ^ 31) (h75 : R 75 t = nI len) (e3 : R3 = tkR R t j o len many 1) : sm_Run (D + 6) 183 152 [some (.inr (some a)), some (.inl (nI t)), some (.inl x2), some (.inl (nI sz)), some (.inl (nI j)), some (.inl (nI many)), some (.inl (nI 1)), some (.inl (nI 0)), some (.inl (nI (len - o))), some (.inl (nI (min many (len - o)))), some (.inl x10)] [] M (fun v M' => v = some (.inl (nI (lastN o len many sz 1))) ∧ ∃ R', RM a ra R' M' ∧ TKr P R R' t j o len many 1) := by
  have e74 : R3 74 t = nI (o + min many (len - o)) := by
    rw [e3]; unfold tkR; rw [if_pos rfl]
    split
    · simp only [u2_r, rowU_r, s_S, s_B, s_F, b_S, b_B, b_F, f_S, f_B, nfl_S, nfl_B, Nat.reduceEqDiff, false_and, and_false, true_and, and_true, and_self, if_true, if_false, reduceIte, ite_self, or_self, or_false, false_or, or_true, true_or, false_implies, implies_true, true_implies, Nat.reduceLeDiff, not_true_eq_false, not_false_eq_true, ne_eq]
    · simp only [u2_r, rowU_r, s_S, s_B, s_F, b_S, b_B, b_F, f_S, f_B, nfl_S, nfl_B, Nat.reduceEqDiff, false_and, and_false, true_and, and_true, and_self, if_true, if_false, reduceIte, ite_self, or_self, or_false, false_or, or_true, true_or, false_implies, implies_true, true_implies, Nat.reduceLeDiff, not_true_eq_false, not_false_eq_true, ne_eq]
  have e75 : R3 75 t = nI len := by rw [e3, tkR_o (by omega)]; exact h75
  have l0 : ¬ (many ≤ len - o ∧ (o + min many (len - o) = len ∨ many < sz)) → 0 = lastN o len many sz 1 := fun c => by unfold lastN; rw [if_neg (fun q => c q.2)]
  have l1 : many ≤ len - o ∧ (o + min many (len - o) = len ∨ many < sz) → 1 = lastN o len many sz 1 := fun c => by unfold lastN; rw [if_pos ⟨rfl, c⟩]
  refine bb_183_152 ?_
  simp (disch := first | assumption | omega | decide) only [rd_r74 h3, rR_74 h3, rN_74 h3, rW_74 h3, rA_74 h3, rd_r75 h3, rR_75 h3, rN_75 h3, rW_75 h3, rA_75 h3, rk_39 h3, e74, e75, ↓li_m1, li_0, li_1, li_2, li_3, li_4, li_5, li_6, li_7, li_8, li_9, li_10, li_11, li_12, li_13, li_14, li_16, li_18, li_20, li_32, li_36, li_40, li_50, li_60, li_64, li_100, li_127, li_128, li_200, li_255, li_256, li_290, li_300, li_336, li_512, li_513, li_515, li_660, li_2048, li_16385, li_32768, li_32774, li_32776, li_33280, li_49153, nI_add, pk_mul, nI_eq, nI_leI, nI_ltI, pk_sub, nI_clamp, Decidable.not_not, Nat.reduceAdd, Nat.reduceMul, Option.some.injEq, exists_eq_left', exists_eq_left, forall_eq', reduceCtorEq, false_implies, forall_const, true_and, and_true, not_false_eq_true, not_true_eq_false, Nat.reduceEqDiff, Ip_r h3, Ip_a h3, Ip_b h3, I_put_s, I_put_k, Rp_j, u2_r, rowU_r, false_and, and_false, if_false, if_true, reduceIte]
  refine ⟨fun q => bb_183_184 ⟨h3.1, by rw [li_2, li_0]; exact r_tk1 h3 hX hS e3 (by decide) rfl (l0 (by omega))⟩, fun q => ⟨fun q1 => bb_183_180 ⟨h3.1, by rw [li_2, li_0, li_1]; exact r_tk1 h3 hX hS e3 (by decide) rfl (l1 (by omega))⟩, fun q1 => ⟨fun q2 => bb_183_184 ⟨h3.1, by rw [li_2, li_0]; exact r_tk1 h3 hX hS e3 (by decide) rfl (l0 (by omega))⟩, fun q2 => bb_183_180 ⟨h3.1, by rw [li_2, li_0, li_1]; exact r_tk1 h3 hX hS e3 (by decide) rfl (l1 (by omega))⟩⟩⟩⟩
theorem r_tk3 {j o len many sz : Nat} {x2 : Int32} (hX : XW P R) (hS : s_ P 228 0 + 1 < 2 ^ 31) (ht : t < 336) (hj : j < 60) (ho : o ≤ len) (hl : len ≤ 100) (hmm : many ≤ 64) (hz : sz < 2 ^ 31) (h74 : R 74 t = nI o) (h75 : R 75 t = nI len) : ∀ (m i : Nat) (M : sm_M), i + m = min many (len - o) → RM a ra (rowU R 81 (100 * t + o) i (fun i => R 42 (100 * j + i))) M → sm_Run (D + 6) 183 82 [some (.inr (some a)), some (.inl (nI t)), some (.inl x2), some (.inl (nI sz)), some (.inl (nI j)), some (.inl (nI many)), some (.inl (nI 1)), some (.inl (nI 0)), some (.inl (nI (len - o))), some (.inl (nI (min many (len - o)))), some (.inl (nI i))] [] M (fun v M' => v = some (.inl (nI (lastN o len many sz 1))) ∧ ∃ R', RM a ra R' M' ∧ TKr P R R' t j o len many 1) := by
  intro m
  induction m with
  | zero =>
    intro i M2 hi h2
    obtain rfl : i = min many (len - o) := by omega
    refine bb_183_82 ?_
    simp (disch := first | assumption | omega | decide) only [rd_r74 h2, rR_74 h2, rN_74 h2, rW_74 h2, rA_74 h2, rd_r73 h2, rR_73 h2, rN_73 h2, rW_73 h2, rA_73 h2, rk_39 h2, h74, Nat.le_refl, ↓li_m1, li_0, li_1, li_2, li_3, li_4, li_5, li_6, li_7, li_8, li_9, li_10, li_11, li_12, li_13, li_14, li_16, li_18, li_20, li_32, li_36, li_40, li_50, li_60, li_64, li_100, li_127, li_128, li_200, li_255, li_256, li_290, li_300, li_336, li_512, li_513, li_515, li_660, li_2048, li_16385, li_32768, li_32774, li_32776, li_33280, li_49153, nI_add, pk_mul, nI_eq, nI_leI, nI_ltI, pk_sub, nI_clamp, Decidable.not_not, Nat.reduceAdd, Nat.reduceMul, Option.some.injEq, exists_eq_left', exists_eq_left, forall_eq', reduceCtorEq, false_implies, forall_const, true_and, and_true, not_false_eq_true, not_true_eq_false, Nat.reduceEqDiff, Ip_r h2, Ip_a h2, Ip_b h2, I_put_s, I_put_k, Rp_j, u2_r, rowU_r, false_and, and_false, if_false, if_true, reduceIte]
    refine ⟨fun q => r_tk2 (rm_wr h2) hX hS ht ho hl hmm hz h75 ?_, fun q => r_tk2 (rm_wr (rm_wr h2)) hX hS ht ho hl hmm hz h75 ?_⟩
    · unfold tkR; rw [if_pos rfl, if_neg (by omega)]
    · unfold tkR; rw [if_pos rfl, if_pos (by omega)]
  | succ m ih =>
    intro i M2 hi h2
    refine bb_183_82 ?_
    simp (disch := first | assumption | omega | decide) only [rd_r74 h2, rR_74 h2, rN_74 h2, rW_74 h2, rA_74 h2, rd_r42 h2, rR_42 h2, rN_42 h2, rW_42 h2, rA_42 h2, rd_r81 h2, rR_81 h2, rN_81 h2, rW_81 h2, rA_81 h2, rk_39 h2, h74, ↓li_m1, li_0, li_1, li_2, li_3, li_4, li_5, li_6, li_7, li_8, li_9, li_10, li_11, li_12, li_13, li_14, li_16, li_18, li_20, li_32, li_36, li_40, li_50, li_60, li_64, li_100, li_127, li_128, li_200, li_255, li_256, li_290, li_300, li_336, li_512, li_513, li_515, li_660, li_2048, li_16385, li_32768, li_32774, li_32776, li_33280, li_49153, nI_add, pk_mul, nI_eq, nI_leI, nI_ltI, pk_sub, nI_clamp, Decidable.not_not, Nat.reduceAdd, Nat.reduceMul, Option.some.injEq, exists_eq_left', exists_eq_left, forall_eq', reduceCtorEq, false_implies, forall_const, true_and, and_true, not_false_eq_true, not_true_eq_false, Nat.reduceEqDiff, Ip_r h2, Ip_a h2, Ip_b h2, I_put_s, I_put_k, Rp_j, u2_r, rowU_r, false_and, and_false, if_false, if_true, reduceIte]
    refine ⟨fun q => by omega, fun _ => ?_⟩
    refine ih (i + 1) _ (by omega) ?_
    have := rm_wr h2 (f := 81) (j := 100 * t + o + i) (v := R 42 (100 * j + i))
    rw [rowU_s (v := fun i => R 42 (100 * j + i))] at this
    exact this
theorem r_tk0 {j k o len many tg : Nat} {x3 : Int32} {Q : Option sm_V → sm_M → Prop} (h : RM a ra R M) (ht : t < 336) (hj : j < 60) (h50 : R 50 0 = nI j) (h82 : R 82 0 = nI k) (hk : k < 2 ^ 31) (k41 : R 41 j = nI many) (h74 : R 74 t = nI o) (h75 : R 75 t = nI len) (ho : o ≤ len) (hl : len ≤ 100) (hm : many ≤ 64) (hg : tg < 2 ^ 31)
    (hN : (if k = 11 then 1 else 0) ≠ tg → sm_Run D 178 0 (sm_ent 178 [.inr (some a), .inl (nI 2), .inl (nI 0), .inl (nI 0), .inl (nI 0)]) [] M (fun v M1 => sm_Run (D + 1) 183 195 [some (.inr (some a)), some (.inl (nI t)), some (.inl (nI tg)), some (.inl x3), some (.inl (nI j)), some (.inl (nI many)), some (.inl (nI 0)), some (.inl (nI 0)), none, none, none] (v.toList ++ []) M1 Q))
    (hY : (if k = 11 then 1 else 0) = tg → sm_Run (D + 1) 183 82 [some (.inr (some a)), some (.inl (nI t)), some (.inl (nI tg)), some (.inl x3), some (.inl (nI j)), some (.inl (nI many)), some (.inl (nI 1)), some (.inl (nI 0)), some (.inl (nI (len - o))), some (.inl (nI (min many (len - o)))), some (.inl (nI 0))] [] M Q) :
    sm_Run (D + 1) 183 0 (sm_ent 183 [.inr (some a), .inl (nI t), .inl (nI tg), .inl x3]) [] M Q := by
  have e50 : (nI j).toNatClampNeg = j := nI_clamp (by omega)
  have et : (nI t).toNatClampNeg = t := nI_clamp (by omega)
  have el : nI len - nI o = nI (len - o) := pk_sub ho
  have e11 : (nI k = 11) = (k = 11) := propext (by rw [li_11, nI_eq hk (by decide)])
  have e0 : ((0 : Int32) = nI tg) = (0 = tg) := propext (by rw [li_0, nI_eq (by decide) hg])
  have e1 : ((1 : Int32) = nI tg) = (1 = tg) := propext (by rw [li_1, nI_eq (by decide) hg])
  have em : (nI (len - o) ≤ nI many) = (len - o ≤ many) := propext (nI_leI (by omega) (by omega))
  have i41 : sm_in_ M (ra 41) (nI j) := of_eq_true (rN_41 h hj)
  have i75 : sm_in_ M (ra 75) (nI t) := of_eq_true (rN_75 h (by omega))
  have i74 : sm_in_ M (ra 74) (nI t) := of_eq_true (rN_74 h (by omega))
  have a41 : sm_iA M (ra 41) := of_eq_true (rA_41 h)
  have a75 : sm_iA M (ra 75) := of_eq_true (rA_75 h)
  have a74 : sm_iA M (ra 74) := of_eq_true (rA_74 h)
  have y : (if k = 11 then 1 else 0) = tg → ((len - o ≤ many → sm_Run (D + 1) 183 82 [some (.inr (some a)), some (.inl (nI t)), some (.inl (nI tg)), some (.inl x3), some (.inl (nI j)), some (.inl (nI many)), some (.inl 1), some (.inl 0), some (.inl (nI (len - o))), some (.inl (nI (len - o))), some (.inl 0)] [] M Q) ∧ (¬ len - o ≤ many → sm_Run (D + 1) 183 82 [some (.inr (some a)), some (.inl (nI t)), some (.inl (nI tg)), some (.inl x3), some (.inl (nI j)), some (.inl (nI many)), some (.inl 1), some (.inl 0), some (.inl (nI (len - o))), some (.inl (nI many)), some (.inl 0)] [] M Q)) := by
    intro e
    have := hY e
    rw [← li_1, ← li_0] at this
    refine ⟨fun q => ?_, fun q => ?_⟩
    · rw [show min many (len - o) = len - o by omega] at this; exact this
    · rw [show min many (len - o) = many by omega] at this; exact this
  rw [← li_2, ← li_0] at hN
  refine bb_183_0 ⟨h.1, ra 41, rd_r41 h, a41, ?_, ?_⟩
  · rw [rS_50 h, h50]; exact i41
  rw [rS_82 h, h82, rS_50 h, h50, e50, rR_41 h, k41, e11, e0, e1]
  refine ⟨fun q => ⟨fun q1 => hN (by rw [if_neg q]; exact q1), fun q1 => ⟨ra 75, rd_r75 h, a75, i75, ra 74, rd_r74 h, a74, i74, ?_⟩⟩, fun q => ⟨fun q1 => hN (by rw [if_pos (Decidable.not_not.mp q)]; exact q1), fun q1 => ⟨ra 75, rd_r75 h, a75, i75, ra 74, rd_r74 h, a74, i74, ?_⟩⟩⟩
  · rw [et, rR_75 h, rR_74 h, h75, h74, el, em]
    exact y (by rw [if_neg q]; exact Decidable.not_not.mp q1)
  · rw [et, rR_75 h, rR_74 h, h75, h74, el, em]
    exact y (by rw [if_pos (Decidable.not_not.mp q)]; exact Decidable.not_not.mp q1)
/-- WireBusModel.takes -/
theorem r_takes {j o len tg sz : Nat} (h : RM a ra R M) (hX : XW P R) (hS : s_ P 228 0 + 1 < 2 ^ 31) (ht : t < 336) (hj : j < 60) (hj' : j < s_ P 228 0) (h50 : R 50 0 = nI j) (h82 : R 82 0 = nI (s_ P 141 j)) (hd : isDat (s_ P 141 j)) (h74 : R 74 t = nI o) (h75 : R 75 t = nI len) (ho : o ≤ len) (hl : len ≤ 100) (hg : tg ≤ 1) (hz : sz < 2 ^ 31) : sm_Run (D + 6) 183 0 (sm_ent 183 [.inr (some a), .inl (nI t), .inl (nI tg), .inl (nI sz)]) [] M (fun v M' => v = some (.inl (nI (lastN o len (b_ P 7 j).length sz (mnN (s_ P 141 j) tg)))) ∧ ∃ R', RM a ra R' M' ∧ TKr P R R' t j o len (b_ P 7 j).length (mnN (s_ P 141 j) tg)) := by
  obtain ⟨k37, k38, kt, k5, k41, k42, k43, k44⟩ := hX.2.2.2 j hj hj'
  have l7 := ex_7 hX.1.1.1 (show j < 66 by omega)
  have b141 : s_ P 141 j < 2 ^ 31 := ex_b hX.1.1.1 141 j
  generalize (b_ P 7 j).length = many at *
  have em : (if s_ P 141 j = 11 then 1 else 0) = tgo (s_ P 141 j) := by unfold tgo; unfold isDat at hd; split <;> split <;> omega
  refine r_tk0 (D := D + 5) h ht hj h50 h82 b141 k41 h74 h75 ho hl l7 (by omega) (fun c => ?_) (fun c => ?_)
  · rw [em] at c
    have e : mnN (s_ P 141 j) tg = 0 := by unfold mnN; rw [if_neg c]
    exact r_tk1 h hX hS (by unfold tkR; rw [if_neg (by omega)]) mn_le e.symm (by unfold lastN; rw [if_neg (by omega)])
  · rw [em] at c
    have e : mnN (s_ P 141 j) tg = 1 := by unfold mnN; rw [if_pos c]
    rw [e]
    exact r_tk3 (D := D) (x2 := nI tg) hX hS ht hj ho hl l7 hz h74 h75 (min many (len - o)) 0 M (by omega) (by rw [rowU_0]; exact h)
end HD_
