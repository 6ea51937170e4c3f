/-! The reference's controls: the road. -/
section HE
variable {a : Nat} {ra : Nat → Nat} {R R' : Nat → Nat → Int32} {M : sm_M} {D : Nat} {P P' : pP} {d t : Nat}
theorem nmin2 {x y : Nat} (hx : x < 2 ^ 31) (hy : y < 2 ^ 31) : (if nI x < nI y then nI x else nI y) = nI (min y x) := by
  by_cases q : nI x < nI y
  · rw [if_pos q]; rw [nI_ltI hx hy] at q; rw [show min y x = x by omega]
  · rw [if_neg q]; rw [nI_ltI hx hy] at q; rw [show min y x = y by omega]
theorem r_ctl0 {A b0 st len o sz : Nat} {Q : Option sm_V → sm_M → Prop} (h : RM a ra R M) (ht : t < 336) (hd : d < 6) (h71 : R 71 t = nI d) (h59 : R 59 d = nI A) (h80 : R 80 (8 * t) = nI b0) (hb : b0 < 256) (h77 : R 77 t = nI st) (hst : st ≤ 2) (h75 : R 75 t = nI len) (h74 : R 74 t = nI o) (ho : o ≤ len) (hl : len ≤ 100) (h58 : R 58 d = nI sz) (hz : sz < 2 ^ 31)
    (hS : st = 0 → sm_Run (D + 1) 184 48 [some (.inr (some a)), some (.inl (nI t)), some (.inl (nI d)), some (.inl (nI A)), some (.inl (nI (if b0 < 128 then 0 else 1))), some (.inl (nI 0)), none, none, none, none] [] M Q)
    (hA : (st = 1 ∧ ¬ b0 < 128) ∨ (st = 2 ∧ (b0 < 128 ∨ len = 0)) → ∀ x5, x5 = (if st = 1 then 1 else 0) → sm_Run D 180 0 (sm_ent 180 [.inr (some a), .inl (nI A), .inl (nI 0)]) [] M (fun v M1 => sm_Run (D + 1) 184 205 [some (.inr (some a)), some (.inl (nI t)), some (.inl (nI d)), some (.inl (nI A)), some (.inl (nI (if b0 < 128 then 0 else 1))), some (.inl (nI x5)), some (.inl (nI 1)), some (.inl (nI 0)), none, none] (v.toList ++ []) M1 Q))
    (hG : (st = 1 ∧ b0 < 128) ∨ (st = 2 ∧ ¬ b0 < 128 ∧ len ≠ 0) → ∀ x5 n, x5 = (if st = 1 then 1 else 0) → n = (if st = 1 then min sz (len - o) else 0) → sm_Run (D + 1) 184 244 [some (.inr (some a)), some (.inl (nI t)), some (.inl (nI d)), some (.inl (nI A)), some (.inl (nI (if b0 < 128 then 0 else 1))), some (.inl (nI x5)), some (.inl (nI 0)), some (.inl (nI n)), some (.inl (nI 0)), none] [] M Q) :
    sm_Run (D + 1) 184 0 (sm_ent 184 [.inr (some a), .inl (nI t)]) [] M Q := by
  have et : (nI t).toNatClampNeg = t := nI_clamp (by omega)
  have ed : (nI d).toNatClampNeg = d := nI_clamp (by omega)
  have e8 : 8 * nI t = nI (8 * t) := by rw [li_8, pk_mul]
  have e8' : (nI (8 * t)).toNatClampNeg = 8 * t := nI_clamp (by omega)
  have el : nI len - nI o = nI (len - o) := pk_sub ho
  have eb : (nI b0 < 128) = (b0 < 128) := propext (by rw [li_128, nI_ltI (by omega) (by decide)])
  have es0 : (nI st = 0) = (st = 0) := propext (by rw [li_0, nI_eq (by omega) (by decide)])
  have es1 : (nI st = 1) = (st = 1) := propext (by rw [li_1, nI_eq (by omega) (by decide)])
  have elz : ((0 : Int32) < nI len) = (0 < len) := propext (by rw [li_0, nI_ltI (by decide) (by omega)])
  have em : (if nI (len - o) < nI sz then nI (len - o) else nI sz) = nI (min sz (len - o)) := nmin2 (by omega) hz
  have iT : ∀ f, (∀ {j}, j < 400 → sm_in_ M (ra f) (nI j) = True) → sm_in_ M (ra f) (nI t) := fun f hf => of_eq_true (hf (by omega))
  have i71 : sm_in_ M (ra 71) (nI t) := of_eq_true (rN_71 h (by omega))
  have i77 : sm_in_ M (ra 77) (nI t) := of_eq_true (rN_77 h (by omega))
  have i75 : sm_in_ M (ra 75) (nI t) := of_eq_true (rN_75 h (by omega))
  have i74 : sm_in_ M (ra 74) (nI t) := of_eq_true (rN_74 h (by omega))
  have i59 : sm_in_ M (ra 59) (nI d) := of_eq_true (rN_59 h hd)
  have i58 : sm_in_ M (ra 58) (nI d) := of_eq_true (rN_58 h hd)
  have i80 : sm_in_ M (ra 80) (nI (8 * t)) := of_eq_true (rN_80 h (by omega))
  refine bb_184_0 ⟨h.1, ra 71, rd_r71 h, of_eq_true (rA_71 h), i71, ra 59, rd_r59 h, of_eq_true (rA_59 h), ?_, ra 80, rd_r80 h, of_eq_true (rA_80 h), ?_, ?_⟩
  · rw [et, rR_71 h, h71]; exact i59
  · rw [e8]; exact i80
  rw [e8, e8', rR_80 h, h80, et, rR_71 h, h71, ed, rR_59 h, h59, eb]
  refine ⟨fun q => ⟨ra 77, rd_r77 h, of_eq_true (rA_77 h), i77, ?_⟩, fun q => ⟨ra 77, rd_r77 h, of_eq_true (rA_77 h), i77, ?_⟩⟩
  · rw [if_pos q] at hS hA hG
    rw [rR_77 h, h77, es0]
    refine ⟨fun q0 => ⟨ra 77, rd_r77 h, of_eq_true (rA_77 h), i77, ?_⟩, fun q0 => hS (Decidable.not_not.mp q0)⟩
    rw [rR_77 h, h77, es1]
    refine ⟨fun q1 => ?_, fun q1 => ⟨ra 58, rd_r58 h, of_eq_true (rA_58 h), i58, ra 75, rd_r75 h, of_eq_true (rA_75 h), i75, ra 74, rd_r74 h, of_eq_true (rA_74 h), i74, ?_⟩⟩
    · refine bb_184_184 ⟨h.1, ?_⟩
      have := hA (Or.inr ⟨by omega, Or.inl q⟩) 0 (by rw [if_neg q1])
      exact this
    · have q1 : st = 1 := Decidable.not_not.mp q1
      rw [rR_58 h, rR_75 h, rR_74 h, h58, h75, h74, el, em]
      have := hG (Or.inl ⟨q1, q⟩) 1 (min sz (len - o)) (by rw [if_pos q1]) (by rw [if_pos q1])
      exact this
  · rw [if_neg q] at hS hA hG
    rw [rR_77 h, h77, es0]
    refine ⟨fun q0 => ⟨ra 77, rd_r77 h, of_eq_true (rA_77 h), i77, ?_⟩, fun q0 => hS (Decidable.not_not.mp q0)⟩
    rw [rR_77 h, h77, es1]
    refine ⟨fun q1 => ⟨ra 75, rd_r75 h, of_eq_true (rA_75 h), i75, ?_⟩, fun q1 => ?_⟩
    · rw [rR_75 h, h75, elz]
      refine ⟨fun q2 => ?_, fun q2 => bb_184_184 ⟨h.1, ?_⟩⟩
      · have := hG (Or.inr ⟨by omega, q, by omega⟩) 0 0 (by rw [if_neg q1]) (by rw [if_neg q1])
        exact this
      · have := hA (Or.inr ⟨by omega, Or.inr (by omega)⟩) 0 (by rw [if_neg q1])
        exact this
    · have q1 : st = 1 := Decidable.not_not.mp q1
      have := hA (Or.inl ⟨q1, q⟩) 1 (by rw [if_pos q1])
      exact this
/-- hold is filled with the request -/
theorem r_ctl1 {A : Nat} {l : List Nat} {x4 : Int32} {Q : Option sm_V → sm_M → Prop} (ht : t < 336) (hl : l.length = 8) (h80 : ∀ i, i < 8 → R 80 (8 * t + i) = nI (l.getD i 0)) (hQ : ∀ M1, RM a ra (rowU R 83 0 8 (fun i => R 80 (8 * t + i))) M1 → sm_Run D 181 0 (sm_ent 181 [.inr (some a), .inl (nI 13), .inl (nI A), .inl (nI 0), .inl (nI 3), .inl (nI 8)]) [] M1 (fun v M1 => sm_Run (D + 1) 184 91 [some (.inr (some a)), some (.inl (nI t)), some (.inl (nI d)), some (.inl (nI A)), some (.inl x4), some (.inl (nI 8)), none, none, none, none] (v.toList ++ []) M1 Q)) : ∀ (m i : Nat) (M : sm_M), i + m = 8 → RM a ra (rowU R 83 0 i (fun i => R 80 (8 * t + i))) M → sm_Run (D + 1) 184 48 [some (.inr (some a)), some (.inl (nI t)), some (.inl (nI d)), some (.inl (nI A)), some (.inl x4), some (.inl (nI i)), none, none, none, none] [] M Q := by
  intro m
  induction m with
  | zero =>
    intro i M hi h
    obtain rfl : i = 8 := by omega
    have := hQ M h
    exact bb_184_48 ⟨fun _ => ⟨h.1, this⟩, fun q => absurd (by decide) q⟩
  | succ m ih =>
    intro i M hi h
    refine bb_184_48 ?_
    simp (disch := first | assumption | omega | decide) only [rd_r80 h, rR_80 h, rN_80 h, rW_80 h, rA_80 h, rd_r83 h, rR_83 h, rN_83 h, rW_83 h, rA_83 h, rk_39 h, ↓li_m1, li_0, li_1, li_2, li_3, li_4, li_5, li_6, li_7, li_8, li_9, li_10, li_11, li_12, li_13, li_14, li_16, li_18, li_20, li_32, li_36, li_40, li_50, li_60, li_64, li_100, li_127, li_128, li_200, li_255, li_256, li_290, li_300, li_336, li_512, li_513, li_515, li_660, li_2048, li_16385, li_32768, li_32774, li_32776, li_33280, li_49153, nI_add, pk_mul, nI_eq, nI_leI, nI_ltI, pk_sub, nI_clamp, Decidable.not_not, Nat.reduceAdd, Nat.reduceMul, Option.some.injEq, exists_eq_left', exists_eq_left, forall_eq', reduceCtorEq, false_implies, forall_const, true_and, and_true, not_false_eq_true, not_true_eq_false, Nat.reduceEqDiff, Ip_r h, Ip_a h, Ip_b h, I_put_s, I_put_k, Rp_j, u2_r, rowU_r, false_and, and_false, if_false, if_true, reduceIte]
    refine ⟨fun q => by omega, fun _ => ?_⟩
    refine ih (i + 1) _ (by omega) ?_
    have := rm_wr h (f := 83) (j := 0 + i) (v := R 80 (8 * t + i))
    rw [rowU_s (v := fun i => R 80 (8 * t + i)), Nat.zero_add] at this
    exact this
/-- hold is filled with bytes -/
theorem r_ctl2 {A n o x5 tg : Nat} {x4 : Int32} {Q : Option sm_V → sm_M → Prop} (ht : t < 336) (hn : o + n ≤ 100) (h74 : R 74 t = nI o) (h78 : x5 ≠ 0 → R 78 t = nI tg) (htg : tg ≤ 1) (hx : x5 ≤ 1) (hQ : ∀ M1 dk, dk = (if x5 = 0 ∨ tg = 1 then 11 else 3) → RM a ra (rowU R 83 0 n (fun i => R 81 (100 * t + o + i))) M1 → sm_Run D 181 0 (sm_ent 181 [.inr (some a), .inl (nI 1), .inl (nI A), .inl (nI 0), .inl (nI dk), .inl (nI n)]) [] M1 (fun v M1 => sm_Run (D + 1) 184 313 [some (.inr (some a)), some (.inl (nI t)), some (.inl (nI d)), some (.inl (nI A)), some (.inl x4), some (.inl (nI x5)), some (.inl (nI 0)), some (.inl (nI n)), some (.inl (nI n)), none] (v.toList ++ []) M1 Q)) : ∀ (m i : Nat) (M : sm_M), i + m = n → RM a ra (rowU R 83 0 i (fun i => R 81 (100 * t + o + i))) M → sm_Run (D + 1) 184 244 [some (.inr (some a)), some (.inl (nI t)), some (.inl (nI d)), some (.inl (nI A)), some (.inl x4), some (.inl (nI x5)), some (.inl (nI 0)), some (.inl (nI n)), some (.inl (nI i)), none] [] M Q := by
  intro m
  induction m with
  | zero =>
    intro i M hi h
    obtain rfl : i = n := by omega
    refine bb_184_244 ⟨fun _ => ⟨fun q => ⟨h.1, ?_⟩, fun q => ⟨h.1, ?_⟩⟩, fun q => absurd (nI_le (Nat.le_refl _) (by omega)) q⟩
    · rw [li_0, nI_eq (by omega) (by decide)] at q
      have := hQ M 11 (by rw [if_pos (Or.inl q)]) h
      exact this
    · rw [li_0, nI_eq (by omega) (by decide)] at q
      have e78 : rowU R 83 0 i (fun i => R 81 (100 * t + o + i)) 78 t = nI tg := by simp only [u2_r, rowU_r, s_S, s_B, s_F, b_S, b_B, b_F, f_S, f_B, nfl_S, nfl_B, Nat.reduceEqDiff, false_and, and_false, true_and, and_true, and_self, if_true, if_false, reduceIte, ite_self, or_self, or_false, false_or, or_true, true_or, false_implies, implies_true, true_implies, Nat.reduceLeDiff, not_true_eq_false, not_false_eq_true, ne_eq]; exact h78 q
      refine ⟨ra 78, rd_r78 h, of_eq_true (rA_78 h), of_eq_true (rN_78 h (by omega)), ?_⟩
      rw [nI_clamp (by omega), rR_78 h, e78, li_1, nI_eq (by omega) (by decide)]
      refine ⟨fun q1 => ?_, fun q1 => ?_⟩
      · have := hQ M 3 (by rw [if_neg (by omega)]) h
        exact this
      · have := hQ M 11 (by rw [if_pos (Or.inr (Decidable.not_not.mp q1))]) h
        exact this
  | succ m ih =>
    intro i M hi h
    refine bb_184_244 ?_
    simp (disch := first | assumption | omega | decide) only [rd_r74 h, rR_74 h, rN_74 h, rW_74 h, rA_74 h, rd_r81 h, rR_81 h, rN_81 h, rW_81 h, rA_81 h, rd_r83 h, rR_83 h, rN_83 h, rW_83 h, rA_83 h, rk_39 h, h74, ↓li_m1, li_0, li_1, li_2, li_3, li_4, li_5, li_6, li_7, li_8, li_9, li_10, li_11, li_12, li_13, li_14, li_16, li_18, li_20, li_32, li_36, li_40, li_50, li_60, li_64, li_100, li_127, li_128, li_200, li_255, li_256, li_290, li_300, li_336, li_512, li_513, li_515, li_660, li_2048, li_16385, li_32768, li_32774, li_32776, li_33280, li_49153, nI_add, pk_mul, nI_eq, nI_leI, nI_ltI, pk_sub, nI_clamp, Decidable.not_not, Nat.reduceAdd, Nat.reduceMul, Option.some.injEq, exists_eq_left', exists_eq_left, forall_eq', reduceCtorEq, false_implies, forall_const, true_and, and_true, not_false_eq_true, not_true_eq_false, Nat.reduceEqDiff, Ip_r h, Ip_a h, Ip_b h, I_put_s, I_put_k, Rp_j, u2_r, rowU_r, false_and, and_false, if_false, if_true, reduceIte]
    refine ⟨fun q => by omega, fun _ => ?_⟩
    refine ih (i + 1) _ (by omega) ?_
    have := rm_wr h (f := 83) (j := 0 + i) (v := R 81 (100 * t + o + i))
    rw [rowU_s (v := fun i => R 81 (100 * t + o + i)), Nat.zero_add] at this
    exact this
end HE
