/-! The reference's found, as a whole. -/
section IB_
variable {a : Nat} {ra : Nat → Nat} {R R' : Nat → Nat → Int32} {M : sm_M} {D : Nat} {P X Z : pP} {T d k t m s tot : Nat}
/-- bytes are kept -/
theorem r_232 {x3 x4 : Int32} {n : Nat} {Q : Option sm_V → sm_M → Prop} (hd : d < 6) (ht : t < 336) (hn : n ≤ 60) (h74 : R 74 t = nI n) (hQ : ∀ M1, RM a ra (rowU R 86 (60 * d) n (fun i => R 81 (100 * t + i))) M1 → ∀ x6, sm_Run (D + 1) 190 271 [some (.inr (some a)), some (.inl (nI t)), some (.inl (nI d)), some (.inl x3), some (.inl x4), some (.inl (nI (100 * t))), some (.inl x6), none] [] M1 Q) : ∀ (m i : Nat) (M : sm_M), i + m = n → RM a ra (rowU R 86 (60 * d) i (fun i => R 81 (100 * t + i))) M → sm_Run (D + 1) 190 232 [some (.inr (some a)), some (.inl (nI t)), some (.inl (nI d)), some (.inl x3), some (.inl x4), some (.inl (nI (100 * t))), some (.inl (nI i)), none] [] M Q := by
  intro m
  induction m with
  | zero =>
    intro i M hi h
    obtain rfl : i = n := by omega
    refine bb_190_232 ?_
    simp (disch := first | assumption | omega | decide) only [rd_r74 h, rR_74 h, rN_74 h, rW_74 h, rA_74 h, rd_r81 h, rR_81 h, rN_81 h, rW_81 h, rA_81 h, rd_r86 h, rR_86 h, rN_86 h, rW_86 h, rA_86 h, rk_39 h, h74, ↓li_m1, li_0, li_1, li_2, li_3, li_4, li_5, li_6, li_7, li_8, li_9, li_10, li_11, li_12, li_13, li_14, li_16, li_18, li_20, li_32, li_36, li_40, li_50, li_60, li_64, li_100, li_127, li_128, li_200, li_255, li_256, li_290, li_300, li_336, li_512, li_513, li_515, li_660, li_2048, li_16385, li_32768, li_32774, li_32776, li_33280, li_49153, nI_add, pk_mul, nI_eq, nI_leI, nI_ltI, pk_sub, nI_clamp, Decidable.not_not, Nat.reduceAdd, Nat.reduceMul, Option.some.injEq, exists_eq_left', exists_eq_left, forall_eq', reduceCtorEq, false_implies, forall_const, true_and, and_true, not_false_eq_true, not_true_eq_false, Nat.reduceEqDiff, Ip_r h, Ip_a h, Ip_b h, I_put_s, I_put_k, Rp_j, u2_r, rowU_r, false_and, and_false, if_false, if_true, reduceIte]
    exact ⟨fun _ => hQ M h _, fun q => by omega⟩
  | succ m ih =>
    intro i M hi h
    refine bb_190_232 ?_
    simp (disch := first | assumption | omega | decide) only [rd_r74 h, rR_74 h, rN_74 h, rW_74 h, rA_74 h, rd_r81 h, rR_81 h, rN_81 h, rW_81 h, rA_81 h, rd_r86 h, rR_86 h, rN_86 h, rW_86 h, rA_86 h, rk_39 h, h74, ↓li_m1, li_0, li_1, li_2, li_3, li_4, li_5, li_6, li_7, li_8, li_9, li_10, li_11, li_12, li_13, li_14, li_16, li_18, li_20, li_32, li_36, li_40, li_50, li_60, li_64, li_100, li_127, li_128, li_200, li_255, li_256, li_290, li_300, li_336, li_512, li_513, li_515, li_660, li_2048, li_16385, li_32768, li_32774, li_32776, li_33280, li_49153, nI_add, pk_mul, nI_eq, nI_leI, nI_ltI, pk_sub, nI_clamp, Decidable.not_not, Nat.reduceAdd, Nat.reduceMul, Option.some.injEq, exists_eq_left', exists_eq_left, forall_eq', reduceCtorEq, false_implies, forall_const, true_and, and_true, not_false_eq_true, not_true_eq_false, Nat.reduceEqDiff, Ip_r h, Ip_a h, Ip_b h, I_put_s, I_put_k, Rp_j, u2_r, rowU_r, false_and, and_false, if_false, if_true, reduceIte]
    refine ⟨fun q => by omega, fun _ => ?_⟩
    refine ih (i + 1) _ (by omega) ?_
    have := rm_wr h (f := 86) (j := 60 * d + i) (v := R 81 (100 * t + i))
    rw [rowU_s (v := fun i => R 81 (100 * t + i))] at this
    exact this
/-- WireBusModel.found -/
theorem r_found (h : RM a ra R M) (hH : HREL X R) (hI : INV X) (hF : FN X t) (hx : EX X) (ed : s_ X 200 t = d) (r60 : R 60 d = nI (s_ X 208 t - 1)) (r85 : s_ X 208 t = 5 → R 85 d = nI (b_ X 36 t).length) (r86 : s_ X 208 t = 6 → R 85 d = nI (b_ X 36 (s_ X 165 d - 1)).length ∧ ∀ i, i < (b_ X 36 (s_ X 165 d - 1)).length → R 86 (60 * d + i) = nI ((b_ X 36 (s_ X 165 d - 1)).getD i 0)) (h165 : ∀ d, s_ X 165 d ≤ s_ X 122 0) : sm_Run (D + 3) 190 0 (sm_ent 190 [.inr (some a), .inl (nI t), .inl (nI d)]) [] M (FPost a ra R X t d) := by
  have cmp := fn_cmp hI hF
  obtain ⟨f1, f2, f3, f4, f5, f6, f7, f8, f9, f10, f11, f12, f13, f14, f15⟩ := id hF
  obtain ⟨iG, iT, iW, iU, iF, iN, iR, iQ, iD, iI⟩ := id hI
  obtain ⟨a1, a2, a3, a4, a5, a6, a7, a8, a9, a10, a11, a12⟩ := iT t f1
  obtain ⟨t1, t2, t3, t4, t5, t6, t7, t8⟩ := hH.2.2.1 t f1
  obtain ⟨w1, w2, w3, w4, w5⟩ := id f7
  have b6 : ∀ d, d < 6 → s_ X 86 d ≤ 6 := fun d hd => ex_86 hx hd
  have l36 : ∀ t, t < s_ X 122 0 → (b_ X 36 t).length ≤ 100 := fun t ht => ex_36 hx ht
  have lt : s_ X 122 0 ≤ 330 := by obtain ⟨r, -, -, r3⟩ := iR; omega
  have g6 := iG.2.2.2.2.2.1
  have h60 : ∀ e, e < 6 → s_ X 165 e ≠ 0 → (b_ X 36 (s_ X 165 e - 1)).length ≤ 60 := fun e he hz => ((iD e he).2.2.2.2.2.2.2.1 hz).2.2.2.2.1
  have h200 : ∀ t, t < s_ X 122 0 → s_ X 200 t < 6 := fun t ht => (iT t ht).1
  rw [ed] at a1 f5 f6 f9 f11 f12 f13 f14 t1
  obtain ⟨p57, p58, p59, p61, p62⟩ := hH.2.1 d a1
  have et : (nI t).toNatClampNeg = t := nI_clamp (by omega)
  have edd : (nI d).toNatClampNeg = d := nI_clamp (by omega)
  have l100 := l36 t f1
  have e100 : (100 : Int32) * nI t = nI (100 * t) := by rw [li_100, pk_mul]
  -- the end of FINDING
  have bad : ∀ (M1 : sm_M) (R1 : Nat → Nat → Int32) (x5 : Int32) (z6 z7 : Option sm_V), RM a ra R1 M1 → (∀ f j, ¬ (f = 85 ∧ j = d) → R1 f j = R f j) → p_gof X t = pS X 160 d 3 → ¬ (s_ X 208 t = 6 ∧ isCmp X t) → sm_Run (D + 3) 190 271 [some (.inr (some a)), some (.inl (nI t)), some (.inl (nI d)), some (.inl (nI (s_ X 208 t - 1))), some (.inl (nI 0)), some (.inl x5), z6, z7] [] M1 (FPost a ra R X t d) := by
    intro M1 R1 x5 z6 z7 h1 hr eg n6
    refine bb_190_271 ⟨fun q => absurd (show nI 0 = 0 from rfl) q, fun _ => ⟨h1.1, ra 57, rd_r57 h1, of_eq_true (rW_57 h1), of_eq_true (rN_57 h1 a1), ?_⟩⟩
    rw [edd]
    refine ⟨rfl, _, rm_wr h1, ⟨fun f i hf => by rw [u2_r, if_neg (by omega)]; exact hr f i (by omega), fun f i hf => by rw [u2_r, if_neg (by omega)]; exact hr f i (by omega)⟩, fun _ => ?_, fun c => absurd c n6⟩
    rw [eg]
    refine hrel_pd hH f12 h60 h200 (fun f j _ n => by rw [s_S, if_neg (by omega)]) (fun c j _ => rfl) (fun f j _ n1 n2 => by rw [u2_r, if_neg (by omega)]; exact hr f j (by omega)) ⟨?_, ?_, ?_⟩
    · simp only [u2_r, rowU_r, s_S, s_B, s_F, b_S, b_B, b_F, f_S, f_B, nfl_S, nfl_B, Nat.reduceEqDiff, false_and, and_false, true_and, and_true, and_self, if_true, if_false, reduceIte, ite_self, or_self, or_false, false_or, or_true, true_or, false_implies, implies_true, true_implies, Nat.reduceLeDiff, not_true_eq_false, not_false_eq_true, ne_eq]; rfl
    · simp only [u2_r, rowU_r, s_S, s_B, s_F, b_S, b_B, b_F, f_S, f_B, nfl_S, nfl_B, Nat.reduceEqDiff, false_and, and_false, true_and, and_true, and_self, if_true, if_false, reduceIte, ite_self, or_self, or_false, false_or, or_true, true_or, false_implies, implies_true, true_implies, Nat.reduceLeDiff, not_true_eq_false, not_false_eq_true, ne_eq]; rw [hr 58 d (by omega)]; exact p58
    · simp only [u2_r, rowU_r, s_S, s_B, s_F, b_S, b_B, b_F, f_S, f_B, nfl_S, nfl_B, Nat.reduceEqDiff, false_and, and_false, true_and, and_true, and_self, if_true, if_false, reduceIte, ite_self, or_self, or_false, false_or, or_true, true_or, false_implies, implies_true, true_implies, Nat.reduceLeDiff, not_true_eq_false, not_false_eq_true, ne_eq]; rw [hr 59 d (by omega)]; exact p59
  -- the next one
  have good : ∀ (M1 : sm_M) (R1 : Nat → Nat → Int32) (Z : pP) (tot : Nat) (x5 : Int32) (z6 z7 : Option sm_V), RM a ra R1 M1 → s_ X 208 t < 6 → HREL Z R1 → KF R R1 t → (∀ f j, f ≠ 161 → f ≠ 162 → f ≠ 165 → s_ Z f j = s_ X f j) → (∀ c j, b_ Z c j = b_ X c j) → (∀ d, s_ Z 165 d ≤ s_ X 122 0) → p_gof X t = p_fnd Z d (s_ X 208 t + 1) tot → (s_ X 208 t = 4 → R1 85 d = nI tot ∧ tot < 65536) → (s_ X 208 t = 5 → s_ Z 165 d = t + 1 ∧ R1 85 d = nI (b_ X 36 t).length ∧ ∀ i, i < (b_ X 36 t).length → R1 86 (60 * d + i) = nI ((b_ X 36 t).getD i 0)) → sm_Run (D + 3) 190 271 [some (.inr (some a)), some (.inl (nI t)), some (.inl (nI d)), some (.inl (nI (s_ X 208 t - 1))), some (.inl (nI 1)), some (.inl x5), z6, z7] [] M1 (FPost a ra R X t d) := by
    intro M1 R1 Z tot x5 z6 z7 h1 n6 hZ hk zs zb z165 eg q4 q5
    have e5 : (5 ≤ nI (s_ X 208 t - 1)) = (5 ≤ s_ X 208 t - 1) := propext (by rw [li_5, nI_leI (by decide) (by omega)])
    have e1 : nI (s_ X 208 t - 1) + 1 = nI (s_ X 208 t + 1 - 1) := by rw [li_1, nI_add, show s_ X 208 t - 1 + 1 = s_ X 208 t + 1 - 1 by omega]
    refine bb_190_271 ⟨fun _ => ?_, fun q => absurd (show ¬ nI 1 = 0 by decide) q⟩
    rw [e5, e1]
    refine ⟨fun q => by omega, fun _ => ⟨h1.1, ?_⟩⟩
    have z122 := zs 122 0 (by decide) (by decide) (by decide)
    refine ru_mono (r_next (D := D) (t := t) (tot := tot) (s := s_ X 208 t + 1) h1 hZ (fun t' ht' => by rw [zb]; rw [z122] at ht'; exact l36 t' ht') (by rw [z122]; omega) (by rw [z122]; exact f1) a1 (by omega) (fun t' hw => ?_) (by rw [zs 180 0 (by decide) (by decide) (by decide)]; exact g6) (fun d' => by rw [z122]; exact z165 d') (fun q => q4 (by omega)) (fun q => ?_)) ?_
    · unfold wtc at hw
      rw [z122, zs 211 t' (by decide) (by decide) (by decide), zs 213 t' (by decide) (by decide) (by decide)] at hw
      rw [zs 200 t' (by decide) (by decide) (by decide)]
      exact f12 t' hw
    · obtain ⟨v1, v2, v3⟩ := q5 (by omega)
      rw [v1, zb, show t + 1 - 1 = t by omega]
      exact ⟨by omega, v2, v3⟩
    · rintro v M2 ⟨rfl, R2, y1, y2, y3⟩
      refine bb_190_299 ⟨rfl, R2, y1, kf_tr hk y3, fun _ => by rw [eg]; exact y2, fun c => by omega⟩
  -- not right
  have gbad : ¬ isCmp X t → p_gof X t = pS X 160 d 3 := fun c => by unfold p_gof; rw [if_pos c, ed]
  have nocmp : ¬ isCmp X t → sm_Run (D + 3) 190 36 [some (.inr (some a)), some (.inl (nI t)), some (.inl (nI d)), some (.inl (nI (s_ X 208 t - 1))), none, none, none, none] [] M (FPost a ra R X t d) := by
    intro c
    refine bb_190_36 ?_
    refine bb_190_126 ⟨fun _ => ?_, fun q => absurd rfl q⟩
    refine bb_190_148 ⟨fun _ => ?_, fun q => absurd rfl q⟩
    refine bb_190_219 ⟨fun _ => ?_, fun q => absurd rfl q⟩
    exact bad M R _ _ _ h (fun _ _ _ => rfl) (gbad c) (fun c' => c c'.2)
  have e1 : (nI (s_ X 211 t) = 1) = (s_ X 211 t = 1) := propext (by rw [li_1, nI_eq (by omega) (by decide)])
  have e2 : (nI (s_ X 210 t) = nI (b_ X 36 t).length) = (s_ X 210 t = (b_ X 36 t).length) := propext (nI_eq (by omega) (by omega))
  have sE : ∀ n, n < 10 → (nI (s_ X 208 t - 1) = nI n) = (s_ X 208 t = n + 1) := fun n hn => propext (by rw [nI_eq (by omega) (by omega)]; omega)
  have s0 : (nI (s_ X 208 t - 1) = 0) = (s_ X 208 t = 1) := sE 0 (by decide)
  have s1 : (nI (s_ X 208 t - 1) = 1) = (s_ X 208 t = 2) := sE 1 (by decide)
  have s3 : (nI (s_ X 208 t - 1) = 3) = (s_ X 208 t = 4) := sE 3 (by decide)
  have s4 : (nI (s_ X 208 t - 1) = 4) = (s_ X 208 t = 5) := sE 4 (by decide)
  have n10 : ¬ nI 1 = 0 := by decide
  refine bb_190_0 ⟨h.1, ra 60, rd_r60 h, of_eq_true (rA_60 h), of_eq_true (rN_60 h a1), ra 73, rd_r73 h, of_eq_true (rA_73 h), of_eq_true (rN_73 h (by omega)), ?_⟩
  rw [et, edd, rR_60 h, rR_73 h, r60, t3, e1]
  refine ⟨fun q1 => nocmp (fun c => q1 (cmp.mp c).1), fun q1 => ⟨ra 74, rd_r74 h, of_eq_true (rA_74 h), of_eq_true (rN_74 h (by omega)), ra 75, rd_r75 h, of_eq_true (rA_75 h), of_eq_true (rN_75 h (by omega)), ?_⟩⟩
  rw [rR_74 h, rR_75 h, t4, t5, e2]
  refine ⟨fun q2 => nocmp (fun c => q2 (cmp.mp c).2), fun q2 => ?_⟩
  have c : isCmp X t := cmp.mpr ⟨Decidable.not_not.mp q1, Decidable.not_not.mp q2⟩
  have e210 : s_ X 210 t = (b_ X 36 t).length := Decidable.not_not.mp q2
  have byte : ∀ i, i < (b_ X 36 t).length → R 81 (100 * t + i) = nI ((b_ X 36 t).getD i 0) := fun i hi => t7 i hi (Or.inr (by omega))
  have gd : ∀ i, (b_ X 36 t).getD i 0 < 256 := fun i => byte_getD a6 i
  have g0 : p_gof X t = if s_ X 208 t = 1 then (if isBk ((b_ X 36 t).getD 7 0) then p_fnd (pS X 162 d ((b_ X 36 t).getD 7 0)) d 2 0 else pS X 160 d 3) else if s_ X 208 t = 2 then p_fnd (pS X 161 d 1) d 3 0 else if s_ X 208 t = 4 then (if tot4 X t < 18 ∨ 60 < tot4 X t then pS X 160 d 3 else p_fnd X d 5 (tot4 X t)) else if s_ X 208 t = 5 then p_fnd (pS X 165 d (t + 1)) d 6 0 else if s_ X 208 t = 6 then p_open X d else p_fnd X d (s_ X 208 t + 1) 0 := by
    unfold p_gof; rw [if_neg (fun n => n c), ed]
  rw [s0, e100]
  refine ⟨fun q3 => ?_, fun q3 => ?_⟩
  · -- not the first
    rw [if_neg q3] at g0
    rw [li_1]
    refine bb_190_126 ⟨fun q => absurd q n10, fun _ => ?_⟩
    rw [li_1, sE 1 (by decide)]
    refine ⟨fun q4 => ?_, fun q4 => ?_⟩
    · rw [if_neg q4] at g0
      refine bb_190_148 ⟨fun q => absurd q n10, fun _ => ?_⟩
      rw [s3]
      refine ⟨fun q5 => ?_, fun q5 => ?_⟩
      · rw [if_neg q5] at g0
        refine bb_190_219 ⟨fun q => absurd q n10, fun _ => ?_⟩
        rw [s4]
        refine ⟨fun q6 => ?_, fun q6 => ?_⟩
        · rw [if_neg q6] at g0
          by_cases q7 : s_ X 208 t = 6
          · -- the last
            rw [if_pos q7] at g0
            have z165 := f11 q7
            obtain ⟨r1, r2⟩ := r86 q7
            have e5 : (5 ≤ nI (s_ X 208 t - 1)) = (5 ≤ s_ X 208 t - 1) := propext (by rw [li_5, nI_leI (by decide) (by omega)])
            have z161 : s_ X 161 d ≠ 0 := fun z => by have := f6.mpr z; omega
            refine bb_190_271 ⟨fun _ => ?_, fun q => absurd n10 q⟩
            rw [e5]
            refine ⟨fun _ => ⟨h.1, ra 57, rd_r57 h, of_eq_true (rW_57 h), of_eq_true (rN_57 h a1), ra 61, by rw [Rp_j]; exact rd_r61 h, of_eq_true (rW_61 h), of_eq_true (rN_61 h a1), ?_⟩, fun q => by omega⟩
            rw [edd]
            have h1 := rm_wr (rm_wr h (f := 57) (j := d) (v := 2)) (f := 61) (j := d) (v := 0)
            have e164 : s_ X 164 d = 0 := (iD d a1).2.2.1 f5
            have eo : p_open X d = p_opL (pS X 160 d 2) d (s_ X 165 d - 1) 18 13 := by unfold p_open; rw [if_neg z165]
            have ol : OL (pS X 160 d 2) d 0 := by
              refine ⟨inv_pS hI a1 (by omega) f12 (dd_160 (iD d a1) f14 (by decide) (fun _ => z161)), fun d' hd' => by rw [s_n (by decide)]; exact b6 d' hd', a1, by rw [s_n (by decide)]; exact e164, by omega, by rw [s_n (by decide)]; exact z165, by rw [s_S, if_pos ⟨rfl, rfl⟩]; decide, by rw [s_n (by decide)]; exact z161, by rw [s_n (by decide)]; exact f14, ?_⟩
              rw [s_n (by decide), s_n (by decide), s_n (by decide)]; omega
            have hh : HREL (pS X 160 d 2) (sm_u2 (sm_u2 R 57 d 2) 61 d 0) := by
              have e61 : sm_u2 (sm_u2 R 57 d 2) 61 d 0 = sm_u2 R 57 d 2 := by
                refine u2_self ?_
                rw [u2_r, if_neg (by omega), p61, e164]; rfl
              rw [e61]
              refine hrel_pd hH f12 h60 h200 (fun f j _ n => by rw [s_S, if_neg (by omega)]) (fun c j _ => rfl) (fun f j _ n1 n2 => by rw [u2_r, if_neg (by omega)]) ⟨?_, ?_, ?_⟩
              · simp only [u2_r, rowU_r, s_S, s_B, s_F, b_S, b_B, b_F, f_S, f_B, nfl_S, nfl_B, Nat.reduceEqDiff, false_and, and_false, true_and, and_true, and_self, if_true, if_false, reduceIte, ite_self, or_self, or_false, false_or, or_true, true_or, false_implies, implies_true, true_implies, Nat.reduceLeDiff, not_true_eq_false, not_false_eq_true, ne_eq]; rfl
              · simp only [u2_r, rowU_r, s_S, s_B, s_F, b_S, b_B, b_F, f_S, f_B, nfl_S, nfl_B, Nat.reduceEqDiff, false_and, and_false, true_and, and_true, and_self, if_true, if_false, reduceIte, ite_self, or_self, or_false, false_or, or_true, true_or, false_implies, implies_true, true_implies, Nat.reduceLeDiff, not_true_eq_false, not_false_eq_true, ne_eq]; exact p58
              · simp only [u2_r, rowU_r, s_S, s_B, s_F, b_S, b_B, b_F, f_S, f_B, nfl_S, nfl_B, Nat.reduceEqDiff, false_and, and_false, true_and, and_true, and_self, if_true, if_false, reduceIte, ite_self, or_self, or_false, false_or, or_true, true_or, false_implies, implies_true, true_implies, Nat.reduceLeDiff, not_true_eq_false, not_false_eq_true, ne_eq]; exact p59
            refine ru_mono (r_320 (D := D + 2) (c := s_ X 165 d - 1) 7 0 _ _ _ _ (by omega) h1 ol (hrx_0 hh) (by simp only [u2_r, rowU_r, s_S, s_B, s_F, b_S, b_B, b_F, f_S, f_B, nfl_S, nfl_B, Nat.reduceEqDiff, false_and, and_false, true_and, and_true, and_self, if_true, if_false, reduceIte, ite_self, or_self, or_false, false_or, or_true, true_or, false_implies, implies_true, true_implies, Nat.reduceLeDiff, not_true_eq_false, not_false_eq_true, ne_eq]; rfl) (by rw [s_n (by decide)]) (by simp only [u2_r, rowU_r, s_S, s_B, s_F, b_S, b_B, b_F, f_S, f_B, nfl_S, nfl_B, Nat.reduceEqDiff, false_and, and_false, true_and, and_true, and_self, if_true, if_false, reduceIte, ite_self, or_self, or_false, false_or, or_true, true_or, false_implies, implies_true, true_implies, Nat.reduceLeDiff, not_true_eq_false, not_false_eq_true, ne_eq]; exact r1) (fun i hi => by simp only [u2_r, rowU_r, s_S, s_B, s_F, b_S, b_B, b_F, f_S, f_B, nfl_S, nfl_B, Nat.reduceEqDiff, false_and, and_false, true_and, and_true, and_self, if_true, if_false, reduceIte, ite_self, or_self, or_false, false_or, or_true, true_or, false_implies, implies_true, true_implies, Nat.reduceLeDiff, not_true_eq_false, not_false_eq_true, ne_eq]; exact r2 i hi) 13 (by omega)) ?_
            rintro v M2 ⟨rfl, R2, y1, y2, y3, y4⟩
            refine ⟨rfl, R2, y1, ⟨fun f i hf => ?_, fun f i hf => ?_⟩, fun n => absurd ⟨q7, c⟩ n, fun _ => ?_⟩
            · rw [y2 f i (by omega), u2_r, if_neg (by omega), u2_r, if_neg (by omega)]
            · rw [y2 f i (by omega), u2_r, if_neg (by omega), u2_r, if_neg (by omega)]
            · rw [g0, eo]; exact ⟨y3, y4⟩
          · rw [if_neg q7] at g0
            exact good M R X 0 _ _ _ h (by omega) hH kf_rf (fun _ _ _ _ _ => rfl) (fun _ _ => rfl) h165 g0 (fun z => by omega) (fun z => by omega)
        · -- the fifth
          have q6 : s_ X 208 t = 5 := Decidable.not_not.mp q6
          rw [if_pos q6] at g0
          have ln := w5 q6
          have r85 := r85 q6
          rw [li_0]
          refine r_232 (D := D + 2) (R := R) (n := (b_ X 36 t).length) a1 (by omega) ln.2 (by rw [t4, e210]) (fun M1 h1 x6 => ?_) (b_ X 36 t).length 0 M (by omega) (by rw [rowU_0]; exact h)
          refine good M1 _ (pS X 165 d (t + 1)) 0 _ _ _ h1 (by omega) ?_ ⟨fun f i hf => by rw [rowU_r, if_neg (by omega)], fun f i hf => by rw [rowU_r, if_neg (by omega)]⟩ (fun f j _ _ n => s_n n) (fun _ _ => rfl) (fun d' => by rw [s_S]; split; omega; exact h165 d') (by rw [q6]; exact g0) (fun z => by omega) (fun _ => ⟨by rw [s_S, if_pos ⟨rfl, rfl⟩], ?_, fun i hi => ?_⟩)
          · refine hrel_pd hH f12 h60 h200 (fun f j _ n => by rw [s_S, if_neg (by omega)]) (fun c j _ => rfl) (fun f j _ n1 n2 => by rw [rowU_r, if_neg (by omega)]) ⟨?_, ?_, ?_⟩
            · simp only [u2_r, rowU_r, s_S, s_B, s_F, b_S, b_B, b_F, f_S, f_B, nfl_S, nfl_B, Nat.reduceEqDiff, false_and, and_false, true_and, and_true, and_self, if_true, if_false, reduceIte, ite_self, or_self, or_false, false_or, or_true, true_or, false_implies, implies_true, true_implies, Nat.reduceLeDiff, not_true_eq_false, not_false_eq_true, ne_eq]; exact p57
            · simp only [u2_r, rowU_r, s_S, s_B, s_F, b_S, b_B, b_F, f_S, f_B, nfl_S, nfl_B, Nat.reduceEqDiff, false_and, and_false, true_and, and_true, and_self, if_true, if_false, reduceIte, ite_self, or_self, or_false, false_or, or_true, true_or, false_implies, implies_true, true_implies, Nat.reduceLeDiff, not_true_eq_false, not_false_eq_true, ne_eq]; exact p58
            · simp only [u2_r, rowU_r, s_S, s_B, s_F, b_S, b_B, b_F, f_S, f_B, nfl_S, nfl_B, Nat.reduceEqDiff, false_and, and_false, true_and, and_true, and_self, if_true, if_false, reduceIte, ite_self, or_self, or_false, false_or, or_true, true_or, false_implies, implies_true, true_implies, Nat.reduceLeDiff, not_true_eq_false, not_false_eq_true, ne_eq]; exact p59
          · simp only [u2_r, rowU_r, s_S, s_B, s_F, b_S, b_B, b_F, f_S, f_B, nfl_S, nfl_B, Nat.reduceEqDiff, false_and, and_false, true_and, and_true, and_self, if_true, if_false, reduceIte, ite_self, or_self, or_false, false_or, or_true, true_or, false_implies, implies_true, true_implies, Nat.reduceLeDiff, not_true_eq_false, not_false_eq_true, ne_eq]; exact r85
          · rw [rowU_r, if_pos (by omega), show 60 * d + i - 60 * d = i by omega]; exact byte i hi
      · -- the fourth
        have q5 : s_ X 208 t = 4 := Decidable.not_not.mp q5
        rw [if_pos q5] at g0
        have l9 : (b_ X 36 t).length = 9 := by rw [w4 (by omega), q5]; rfl
        have d2 := gd 2
        have d3 := gd 3
        have b2 := byte 2 (by omega)
        have b3 := byte 3 (by omega)
        have h1 := rm_wr h (f := 85) (j := d) (v := nI (tot4 X t))
        have et4 : tot4 X t = (b_ X 36 t).getD 2 0 + 256 * (b_ X 36 t).getD 3 0 := rfl
        have i85 : sm_in_ M (ra 85) (nI d) := of_eq_true (rN_85 h a1)
        have v85 : nI ((b_ X 36 t).getD 2 0) + 256 * nI ((b_ X 36 t).getD 3 0) = nI (tot4 X t) := by rw [li_256, pk_mul, nI_add]; rfl
        have e2' : nI (100 * t) + 2 = nI (100 * t + 2) := by rw [li_2, nI_add]
        have e3' : nI (100 * t) + 3 = nI (100 * t + 3) := by rw [li_3, nI_add]
        refine ⟨h.1, ra 81, rd_r81 h, of_eq_true (rA_81 h), ?_, ra 81, rd_r81 h, of_eq_true (rA_81 h), ?_, ra 85, rd_r85 h, of_eq_true (rW_85 h), i85, ra 85, by rw [Rp_j]; exact rd_r85 h, of_eq_true (rA_85 h), i85, ?_⟩
        · rw [e2']; exact of_eq_true (rN_81 h (by omega))
        · rw [e3']; exact of_eq_true (rN_81 h (by omega))
        rw [e2', e3', show (nI (100 * t + 2)).toNatClampNeg = 100 * t + 2 from nI_clamp (by omega), show (nI (100 * t + 3)).toNatClampNeg = 100 * t + 3 from nI_clamp (by omega), rR_81 h, rR_81 h, b2, b3, v85, edd, I_put_s]
        have c18 : (nI (tot4 X t) < 18) = (tot4 X t < 18) := propext (by rw [li_18, nI_ltI (by omega) (by decide)])
        have c60 : (60 < nI (tot4 X t)) = (60 < tot4 X t) := propext (by rw [li_60, nI_ltI (by decide) (by omega)])
        rw [c18]
        have b85 : ∀ z6 z7, (tot4 X t < 18 ∨ 60 < tot4 X t) → sm_Run (D + 3) 190 213 [some (.inr (some a)), some (.inl (nI t)), some (.inl (nI d)), some (.inl (nI (s_ X 208 t - 1))), some (.inl (nI 1)), some (.inl (nI (100 * t))), z6, z7] [] (sm_putI M (ra 85) d (nI (tot4 X t))) (FPost a ra R X t d) := by
          intro z6 z7 q
          rw [if_pos q] at g0
          refine bb_190_213 ?_
          rw [li_0]
          exact bad _ _ _ _ _ h1 (fun f j n => by rw [u2_r, if_neg n]) g0 (fun z => by omega)
        refine ⟨fun q => b85 _ _ (Or.inl q), fun q => ⟨ra 85, by rw [Rp_j]; exact rd_r85 h, of_eq_true (rA_85 h), i85, ?_⟩⟩
        rw [I_put_s, c60]
        refine ⟨fun q' => b85 _ _ (Or.inr q'), fun q' => ?_⟩
        rw [if_neg (by omega)] at g0
        refine good _ _ X (tot4 X t) _ _ _ h1 (by omega) ?_ (kf_u kf_rf (by decide) (by omega) (by decide)) (fun _ _ _ _ _ => rfl) (fun _ _ => rfl) h165 (by rw [q5]; exact g0) (fun _ => ⟨by simp only [u2_r, rowU_r, s_S, s_B, s_F, b_S, b_B, b_F, f_S, f_B, nfl_S, nfl_B, Nat.reduceEqDiff, false_and, and_false, true_and, and_true, and_self, if_true, if_false, reduceIte, ite_self, or_self, or_false, false_or, or_true, true_or, false_implies, implies_true, true_implies, Nat.reduceLeDiff, not_true_eq_false, not_false_eq_true, ne_eq], by omega⟩) (fun z => by omega)
        refine hrel_pd hH f12 h60 h200 (fun f j _ n => rfl) (fun c j _ => rfl) (fun f j _ n1 n2 => by rw [u2_r, if_neg (by omega)]) ⟨?_, ?_, ?_⟩
        · simp only [u2_r, rowU_r, s_S, s_B, s_F, b_S, b_B, b_F, f_S, f_B, nfl_S, nfl_B, Nat.reduceEqDiff, false_and, and_false, true_and, and_true, and_self, if_true, if_false, reduceIte, ite_self, or_self, or_false, false_or, or_true, true_or, false_implies, implies_true, true_implies, Nat.reduceLeDiff, not_true_eq_false, not_false_eq_true, ne_eq]; exact p57
        · simp only [u2_r, rowU_r, s_S, s_B, s_F, b_S, b_B, b_F, f_S, f_B, nfl_S, nfl_B, Nat.reduceEqDiff, false_and, and_false, true_and, and_true, and_self, if_true, if_false, reduceIte, ite_self, or_self, or_false, false_or, or_true, true_or, false_implies, implies_true, true_implies, Nat.reduceLeDiff, not_true_eq_false, not_false_eq_true, ne_eq]; exact p58
        · simp only [u2_r, rowU_r, s_S, s_B, s_F, b_S, b_B, b_F, f_S, f_B, nfl_S, nfl_B, Nat.reduceEqDiff, false_and, and_false, true_and, and_true, and_self, if_true, if_false, reduceIte, ite_self, or_self, or_false, false_or, or_true, true_or, false_implies, implies_true, true_implies, Nat.reduceLeDiff, not_true_eq_false, not_false_eq_true, ne_eq]; exact p59
    · -- the second
      have q4 : s_ X 208 t = 2 := Decidable.not_not.mp q4
      rw [if_pos q4] at g0
      refine ⟨h.1, ra 59, rd_r59 h, of_eq_true (rW_59 h), of_eq_true (rN_59 h a1), ?_⟩
      rw [edd, nI_add]
      have h1 := rm_wr h (f := 59) (j := d) (v := nI (d + 1))
      refine good _ _ (pS X 161 d 1) 0 _ _ _ h1 (by omega) ?_ (kf_u kf_rf (by decide) (by omega) (by decide)) (fun f j n _ _ => s_n n) (fun _ _ => rfl) (fun d' => by rw [s_n (by decide)]; exact h165 d') (by rw [q4]; exact g0) (fun z => by omega) (fun z => by omega)
      refine hrel_pd hH f12 h60 h200 (fun f j _ n => by rw [s_S, if_neg (by omega)]) (fun c j _ => rfl) (fun f j _ n1 n2 => by rw [u2_r, if_neg (by omega)]) ⟨?_, ?_, ?_⟩
      · simp only [u2_r, rowU_r, s_S, s_B, s_F, b_S, b_B, b_F, f_S, f_B, nfl_S, nfl_B, Nat.reduceEqDiff, false_and, and_false, true_and, and_true, and_self, if_true, if_false, reduceIte, ite_self, or_self, or_false, false_or, or_true, true_or, false_implies, implies_true, true_implies, Nat.reduceLeDiff, not_true_eq_false, not_false_eq_true, ne_eq]; exact p57
      · simp only [u2_r, rowU_r, s_S, s_B, s_F, b_S, b_B, b_F, f_S, f_B, nfl_S, nfl_B, Nat.reduceEqDiff, false_and, and_false, true_and, and_true, and_self, if_true, if_false, reduceIte, ite_self, or_self, or_false, false_or, or_true, true_or, false_implies, implies_true, true_implies, Nat.reduceLeDiff, not_true_eq_false, not_false_eq_true, ne_eq]; exact p58
      · simp only [u2_r, rowU_r, s_S, s_B, s_F, b_S, b_B, b_F, f_S, f_B, nfl_S, nfl_B, Nat.reduceEqDiff, false_and, and_false, true_and, and_true, and_self, if_true, if_false, reduceIte, ite_self, or_self, or_false, false_or, or_true, true_or, false_implies, implies_true, true_implies, Nat.reduceLeDiff, not_true_eq_false, not_false_eq_true, ne_eq]
  · -- the first
    have q3 : s_ X 208 t = 1 := Decidable.not_not.mp q3
    rw [if_pos q3] at g0
    have l8 : (b_ X 36 t).length = 8 := by rw [w4 (by omega), q3]; rfl
    have b7 := byte 7 (by omega)
    have d7 := gd 7
    have e7' : nI (100 * t) + 7 = nI (100 * t + 7) := by rw [li_7, nI_add]
    refine ⟨ra 81, rd_r81 h, of_eq_true (rA_81 h), by rw [e7']; exact of_eq_true (rN_81 h (by omega)), ?_⟩
    rw [e7', nI_clamp (by omega), rR_81 h, b7]
    generalize hv : (b_ X 36 t).getD 7 0 = v at *
    have cE : ∀ n, n < 100 → (nI v = nI n) = (v = n) := fun n hn => propext (nI_eq (by omega) (by omega))
    have c8 : (nI v = 8) = (v = 8) := cE 8 (by decide)
    have c16 : (nI v = 16) = (v = 16) := cE 16 (by decide)
    have c32 : (nI v = 32) = (v = 32) := cE 32 (by decide)
    have c64 : (nI v = 64) = (v = 64) := cE 64 (by decide)
    have yes : isBk v → sm_Run (D + 3) 190 94 [some (.inr (some a)), some (.inl (nI t)), some (.inl (nI d)), some (.inl (nI (s_ X 208 t - 1))), some (.inl 1), some (.inl (nI (100 * t))), some (.inl (nI v)), none] [] M (FPost a ra R X t d) := by
      intro q
      rw [if_pos q] at g0
      refine bb_190_94 ⟨h.1, ra 58, rd_r58 h, of_eq_true (rW_58 h), of_eq_true (rN_58 h a1), ?_⟩
      rw [edd, li_1]
      have h1 := rm_wr h (f := 58) (j := d) (v := nI v)
      refine good _ _ (pS X 162 d v) 0 _ _ _ h1 (by omega) ?_ (kf_u kf_rf (by decide) (by omega) (by decide)) (fun f j _ n _ => s_n n) (fun _ _ => rfl) (fun d' => by rw [s_n (by decide)]; exact h165 d') (by rw [q3]; exact g0) (fun z => by omega) (fun z => by omega)
      refine hrel_pd hH f12 h60 h200 (fun f j _ n => by rw [s_S, if_neg (by omega)]) (fun c j _ => rfl) (fun f j _ n1 n2 => by rw [u2_r, if_neg (by omega)]) ⟨?_, ?_, ?_⟩
      · simp only [u2_r, rowU_r, s_S, s_B, s_F, b_S, b_B, b_F, f_S, f_B, nfl_S, nfl_B, Nat.reduceEqDiff, false_and, and_false, true_and, and_true, and_self, if_true, if_false, reduceIte, ite_self, or_self, or_false, false_or, or_true, true_or, false_implies, implies_true, true_implies, Nat.reduceLeDiff, not_true_eq_false, not_false_eq_true, ne_eq]; exact p57
      · simp only [u2_r, rowU_r, s_S, s_B, s_F, b_S, b_B, b_F, f_S, f_B, nfl_S, nfl_B, Nat.reduceEqDiff, false_and, and_false, true_and, and_true, and_self, if_true, if_false, reduceIte, ite_self, or_self, or_false, false_or, or_true, true_or, false_implies, implies_true, true_implies, Nat.reduceLeDiff, not_true_eq_false, not_false_eq_true, ne_eq]
      · simp only [u2_r, rowU_r, s_S, s_B, s_F, b_S, b_B, b_F, f_S, f_B, nfl_S, nfl_B, Nat.reduceEqDiff, false_and, and_false, true_and, and_true, and_self, if_true, if_false, reduceIte, ite_self, or_self, or_false, false_or, or_true, true_or, false_implies, implies_true, true_implies, Nat.reduceLeDiff, not_true_eq_false, not_false_eq_true, ne_eq]; exact p59
    rw [c8, c16, c32, c64]
    refine ⟨fun q => yes (by unfold isBk; omega), fun k1 => ⟨fun q => yes (by unfold isBk; omega), fun k2 => ⟨fun q => yes (by unfold isBk; omega), fun k3 => ⟨fun k4 => ?_, fun q => yes (by unfold isBk; omega)⟩⟩⟩⟩
    rw [if_neg (by unfold isBk; omega)] at g0
    refine ⟨ra 58, rd_r58 h, of_eq_true (rA_58 h), of_eq_true (rN_58 h a1), of_eq_true (rW_58 h), ?_⟩
    rw [li_0, rR_58 h]
    have h1 := rm_wr h (f := 58) (j := d) (v := R 58 d)
    rw [u2_self (rfl : R 58 d = R 58 d)] at h1
    exact bad _ _ _ _ _ h1 (fun _ _ _ => rfl) g0 (fun z => by omega)
end IB_
