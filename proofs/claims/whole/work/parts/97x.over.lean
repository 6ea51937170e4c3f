/-! The reference's isOver. -/
section IC
variable {a : Nat} {ra : Nat → Nat} {R R' : Nat → Nat → Int32} {M : sm_M} {D : Nat} {P X Z : pP} {T d k t m s tot : Nat}
def ptP (d : Nat) (o : Option Nat) : Int32 := match o with
  | none => nE 0
  | some k => nI (10 * d + k)
/-- WireBusModel.pipeOf -/
theorem r_pipeOf {x : Int32} (h : RM a ra R M) (h61 : R 61 d = nI (s_ P 164 d)) (h6 : s_ P 164 d ≤ 6) (hq : ∀ k, k < s_ P 164 d → R 62 (10 * d + k) = nI (s_ P 180 (pid P d k))) (hd : d < 6) : sm_Run D 177 0 (sm_ent 177 [.inr (some a), .inl (nI d), .inl x]) [] M (fun v M' => v = some (.inl (ptP d (p_pfind P d x))) ∧ M = M') := by
  have key : ∀ (m i : Nat), i + m = s_ P 164 d → (∀ k, k < i → (nI (s_ P 180 (pid P d k)) == x) = false) → sm_Run D 177 13 [some (.inr (some a)), some (.inl (nI d)), some (.inl x), some (.inl (nI i))] [] M (fun v M' => v = some (.inl (ptP d (p_pfind P d x))) ∧ M = M') := by
    intro m
    induction m with
    | zero =>
      intro i hi hn
      have e : p_pfind P d x = none := List.find?_eq_none.mpr (fun y hy => by rw [hn y (by have := List.mem_range.mp hy; omega)]; decide)
      rw [e]
      refine bb_177_13 ?_
      simp (disch := first | assumption | omega | decide) only [rd_r61 h, rR_61 h, rN_61 h, rW_61 h, rA_61 h, rd_r62 h, rR_62 h, rN_62 h, rW_62 h, rA_62 h, rk_39 h, h61, ↓li_m1, li_0, li_1, li_2, li_3, li_4, li_5, li_6, li_7, li_8, li_9, li_10, li_11, li_12, li_13, li_14, li_16, li_18, li_20, li_32, li_36, li_40, li_50, li_60, li_64, li_100, li_127, li_128, li_200, li_255, li_256, li_290, li_300, li_336, li_512, li_513, li_515, li_660, li_2048, li_16385, li_32768, li_32774, li_32776, li_33280, li_49153, nI_add, pk_mul, nI_eq, nI_leI, nI_ltI, pk_sub, nI_clamp, Decidable.not_not, Nat.reduceAdd, Nat.reduceMul, Option.some.injEq, exists_eq_left', exists_eq_left, forall_eq', reduceCtorEq, false_implies, forall_const, true_and, and_true, not_false_eq_true, not_true_eq_false, Nat.reduceEqDiff, Ip_r h, Ip_a h, Ip_b h, I_put_s, I_put_k, Rp_j, u2_r, rowU_r, false_and, and_false, if_false, if_true, reduceIte]
      exact ⟨fun _ => rfl, fun q => by omega⟩
    | succ m ih =>
      intro i hi hn
      have hi' : i < s_ P 164 d := by omega
      have a62 := hq i hi'
      refine bb_177_13 ?_
      simp (disch := first | assumption | omega | decide) only [rd_r61 h, rR_61 h, rN_61 h, rW_61 h, rA_61 h, rd_r62 h, rR_62 h, rN_62 h, rW_62 h, rA_62 h, rk_39 h, h61, a62, ↓li_m1, li_0, li_1, li_2, li_3, li_4, li_5, li_6, li_7, li_8, li_9, li_10, li_11, li_12, li_13, li_14, li_16, li_18, li_20, li_32, li_36, li_40, li_50, li_60, li_64, li_100, li_127, li_128, li_200, li_255, li_256, li_290, li_300, li_336, li_512, li_513, li_515, li_660, li_2048, li_16385, li_32768, li_32774, li_32776, li_33280, li_49153, nI_add, pk_mul, nI_eq, nI_leI, nI_ltI, pk_sub, nI_clamp, Decidable.not_not, Nat.reduceAdd, Nat.reduceMul, Option.some.injEq, exists_eq_left', exists_eq_left, forall_eq', reduceCtorEq, false_implies, forall_const, true_and, and_true, not_false_eq_true, not_true_eq_false, Nat.reduceEqDiff, Ip_r h, Ip_a h, Ip_b h, I_put_s, I_put_k, Rp_j, u2_r, rowU_r, false_and, and_false, if_false, if_true, reduceIte]
      refine ⟨fun q => by omega, fun _ => ⟨fun q => ?_, fun q => ?_⟩⟩
      · refine ih (i + 1) (by omega) (fun k hk => ?_)
        rcases Nat.lt_or_ge k i with h1 | h1
        · exact hn k h1
        · obtain rfl : k = i := by omega
          simpa using q
      · have e : p_pfind P d x = some i := by
          unfold p_pfind
          rw [rf_r (i := i) (by omega) hn, show s_ P 164 d - i = (s_ P 164 d - i - 1) + 1 by omega, List.range'_succ]
          exact List.find?_cons_of_pos (by simpa using q)
        rw [e]; rfl
  refine bb_177_0 ?_
  simp (disch := first | assumption | omega | decide) only [rk_39 h, ↓li_m1, li_0, li_1, li_2, li_3, li_4, li_5, li_6, li_7, li_8, li_9, li_10, li_11, li_12, li_13, li_14, li_16, li_18, li_20, li_32, li_36, li_40, li_50, li_60, li_64, li_100, li_127, li_128, li_200, li_255, li_256, li_290, li_300, li_336, li_512, li_513, li_515, li_660, li_2048, li_16385, li_32768, li_32774, li_32776, li_33280, li_49153, nI_add, pk_mul, nI_eq, nI_leI, nI_ltI, pk_sub, nI_clamp, Decidable.not_not, Nat.reduceAdd, Nat.reduceMul, Option.some.injEq, exists_eq_left', exists_eq_left, forall_eq', reduceCtorEq, false_implies, forall_const, true_and, and_true, not_false_eq_true, not_true_eq_false, Nat.reduceEqDiff, Ip_r h, Ip_a h, Ip_b h, I_put_s, I_put_k, Rp_j, u2_r, rowU_r, false_and, and_false, if_false, if_true, reduceIte]
  refine ⟨fun q => by omega, fun _ => ⟨fun _ => ?_, fun q => by omega⟩⟩
  exact key (s_ P 164 d) 0 (by omega) (fun k hk => absurd hk (Nat.not_lt_zero _))
/-- pipes are opened anew -/
def reo (R : Nat → Nat → Int32) (o n : Nat) : Nat → Nat → Int32 := fun f j => if f = 67 ∧ o ≤ j ∧ j < o + n then nI 1 else if f = 66 ∧ o ≤ j ∧ j < o + n then nI 0 else R f j
theorem reo_r {o n f j : Nat} : reo R o n f j = if f = 67 ∧ o ≤ j ∧ j < o + n then nI 1 else if f = 66 ∧ o ≤ j ∧ j < o + n then nI 0 else R f j := rfl
theorem reo_0 {o : Nat} : reo R o 0 = R := by
  funext f j
  rw [reo_r, if_neg (by omega), if_neg (by omega)]
theorem reo_S {o n : Nat} : sm_u2 (sm_u2 (reo R o n) 67 (o + n) (nI 1)) 66 (o + n) (nI 0) = reo R o (n + 1) := by
  funext f j
  rw [u2_r, u2_r, reo_r, reo_r]
  by_cases c6 : f = 66 ∧ j = o + n
  · rw [if_pos c6, if_neg (by omega), if_pos (by omega)]
  · rw [if_neg c6]
    by_cases c7 : f = 67 ∧ j = o + n
    · rw [if_pos c7, if_pos (by omega)]
    · rw [if_neg c7]
      by_cases c8 : f = 67 ∧ o ≤ j ∧ j < o + n
      · rw [if_pos c8, if_pos (by omega)]
      · rw [if_neg c8, if_neg (c := f = 67 ∧ o ≤ j ∧ j < o + (n + 1)) (by omega)]
        by_cases c9 : f = 66 ∧ o ≤ j ∧ j < o + n
        · rw [if_pos c9, if_pos (by omega)]
        · rw [if_neg c9, if_neg (by omega)]
theorem r_161 {x1 x3 x4 : Int32} {n : Nat} {Q : Option sm_V → sm_M → Prop} (hd : d < 6) (hn : n ≤ 6) (h61 : R 61 d = nI n) (hQ : ∀ M1, RM a ra (reo R (10 * d) n) M1 → Q none M1) : ∀ (m i : Nat) (M : sm_M), i + m = n → RM a ra (reo R (10 * d) i) M → sm_Run (D + 1) 189 161 [some (.inr (some a)), some (.inl x1), some (.inl (nI d)), some (.inl x3), some (.inl x4), some (.inl (nI (10 * d + i)))] [] M Q := by
  intro m
  induction m with
  | zero =>
    intro i M hi h
    obtain rfl : i = n := by omega
    have g61 : reo R (10 * d) i 61 d = nI i := by rw [reo_r, if_neg (by omega), if_neg (by omega)]; exact h61
    refine bb_189_161 ?_
    simp (disch := first | assumption | omega | decide) only [rd_r61 h, rR_61 h, rN_61 h, rW_61 h, rA_61 h, rd_r66 h, rR_66 h, rN_66 h, rW_66 h, rA_66 h, rd_r67 h, rR_67 h, rN_67 h, rW_67 h, rk_39 h, g61, ↓li_m1, li_0, li_1, li_2, li_3, li_4, li_5, li_6, li_7, li_8, li_9, li_10, li_11, li_12, li_13, li_14, li_16, li_18, li_20, li_32, li_36, li_40, li_50, li_60, li_64, li_100, li_127, li_128, li_200, li_255, li_256, li_290, li_300, li_336, li_512, li_513, li_515, li_660, li_2048, li_16385, li_32768, li_32774, li_32776, li_33280, li_49153, nI_add, pk_mul, nI_eq, nI_leI, nI_ltI, pk_sub, nI_clamp, Decidable.not_not, Nat.reduceAdd, Nat.reduceMul, Option.some.injEq, exists_eq_left', exists_eq_left, forall_eq', reduceCtorEq, false_implies, forall_const, true_and, and_true, not_false_eq_true, not_true_eq_false, Nat.reduceEqDiff, Ip_r h, Ip_a h, Ip_b h, I_put_s, I_put_k, Rp_j, u2_r, rowU_r, false_and, and_false, if_false, if_true, reduceIte]
    exact ⟨fun _ => hQ M h, fun q => by omega⟩
  | succ m ih =>
    intro i M hi h
    have g61 : reo R (10 * d) i 61 d = nI n := by rw [reo_r, if_neg (by omega), if_neg (by omega)]; exact h61
    refine bb_189_161 ?_
    simp (disch := first | assumption | omega | decide) only [rd_r61 h, rR_61 h, rN_61 h, rW_61 h, rA_61 h, rd_r66 h, rR_66 h, rN_66 h, rW_66 h, rA_66 h, rd_r67 h, rR_67 h, rN_67 h, rW_67 h, rk_39 h, g61, ↓li_m1, li_0, li_1, li_2, li_3, li_4, li_5, li_6, li_7, li_8, li_9, li_10, li_11, li_12, li_13, li_14, li_16, li_18, li_20, li_32, li_36, li_40, li_50, li_60, li_64, li_100, li_127, li_128, li_200, li_255, li_256, li_290, li_300, li_336, li_512, li_513, li_515, li_660, li_2048, li_16385, li_32768, li_32774, li_32776, li_33280, li_49153, nI_add, pk_mul, nI_eq, nI_leI, nI_ltI, pk_sub, nI_clamp, Decidable.not_not, Nat.reduceAdd, Nat.reduceMul, Option.some.injEq, exists_eq_left', exists_eq_left, forall_eq', reduceCtorEq, false_implies, forall_const, true_and, and_true, not_false_eq_true, not_true_eq_false, Nat.reduceEqDiff, Ip_r h, Ip_a h, Ip_b h, I_put_s, I_put_k, Rp_j, u2_r, rowU_r, false_and, and_false, if_false, if_true, reduceIte]
    refine ⟨fun q => by omega, fun _ => ?_⟩
    rw [show 10 * d + i + 1 = 10 * d + (i + 1) by omega]
    refine ih (i + 1) _ (by omega) ?_
    have := rm_wr (rm_wr h (f := 67) (j := 10 * d + i) (v := nI 1)) (f := 66) (j := 10 * d + i) (v := nI 0)
    rw [reo_S] at this
    exact this
/-- pipes' states, both sides -/
theorem hrel_45 (hH : HREL X R) (hs : ∀ f j, hoF f → f ≠ 184 → f ≠ 185 → s_ Z f j = s_ X f j) (h0 : s_ Z 185 0 = s_ X 185 0) (hb : ∀ c j, b_ Z c j = b_ X c j) (hr : ∀ f j, f ≠ 66 → f ≠ 67 → R' f j = R f j) (hq : ∀ d k, d < 6 → k < s_ X 164 d → R' 66 (10 * d + k) = nI (s_ Z 185 (pid X d k)) ∧ R' 67 (10 * d + k) = nI (if s_ Z 184 (pid X d k) = 0 then 0 else 1)) : HREL Z R' := by
  obtain ⟨⟨p1, p2, p3, p4⟩, p5, p6, p7⟩ := hH
  refine ⟨⟨?_, ?_, ?_, ?_⟩, fun d' hd' => ?_, fun t ht => ?_, ?_⟩
  · rw [hr 0 0 (by decide) (by decide), hs 0 0 (by decide) (by decide) (by decide)]; exact p1
  · rw [hr 56 0 (by decide) (by decide), hs 125 0 (by decide) (by decide) (by decide)]; exact p2
  · rw [hr 70 0 (by decide) (by decide), hs 122 0 (by decide) (by decide) (by decide)]; exact p3
  · trivial
  · obtain ⟨f1, f2, f3, f4, f5⟩ := p5 d' hd'
    unfold RelP
    rw [hr 57 d' (by decide) (by decide), hr 58 d' (by decide) (by decide), hr 59 d' (by decide) (by decide), hr 61 d' (by decide) (by decide), hs 160 d' (by decide) (by decide) (by decide), hs 161 d' (by decide) (by decide) (by decide), hs 162 d' (by decide) (by decide) (by decide), hs 164 d' (by decide) (by decide) (by decide)]
    refine ⟨f1, f2, f3, f4, fun k hk => ?_⟩
    obtain ⟨g1, g2, g3, g4, -, -⟩ := f5 k hk
    have ep : pid Z d' k = pid X d' k := hs 166 _ (by decide) (by decide) (by decide)
    rw [ep]
    unfold RelQ
    rw [hr 62 _ (by decide) (by decide), hr 63 _ (by decide) (by decide), hr 64 _ (by decide) (by decide), hr 65 _ (by decide) (by decide), hs 180 _ (by decide) (by decide) (by decide), hs 181 _ (by decide) (by decide) (by decide), hs 182 _ (by decide) (by decide) (by decide), hs 183 _ (by decide) (by decide) (by decide)]
    exact ⟨g1, g2, g3, g4, (hq d' k hd' hk).1, (hq d' k hd' hk).2⟩
  · rw [hs 122 0 (by decide) (by decide) (by decide)] at ht
    have es : ∀ f j, 200 ≤ f → f ≤ 213 → s_ Z f j = s_ X f j := fun f j k1 k2 => hs f j (by omega) (by omega) (by omega)
    have rr : ∀ f j, 60 = f ∨ 71 ≤ f → R' f j = R f j := fun f j k1 => hr f j (by omega) (by omega)
    have esu : su Z t = su X t := by
      unfold su
      rw [hb, es 205 _ (by decide) (by decide), es 206 _ (by decide) (by decide), es 207 _ (by decide) (by decide)]
    have E : RelT Z R' t = RelT X R t := by
      unfold RelT RelC
      rw [esu, h0]
      simp (disch := decide) only [es, hb, rr]
      rw [hs 180 _ (by decide) (by decide) (by decide), hs 165 _ (by decide) (by decide) (by decide)]
    rw [E]; exact p6 t ht
  · rw [hr 3 0 (by decide) (by decide), hb, hb]
    exact ⟨p7.1, fun i hi => by rw [hr 2 i (by decide) (by decide)]; exact p7.2.1 i hi, fun i hi => by rw [hr 1 i (by decide) (by decide)]; exact p7.2.2 i hi⟩
theorem reAll_v {n : Nat} : ∀ n, k < n → s_ (p_reAll X d n) 184 (pid X d k) = 1 ∧ s_ (p_reAll X d n) 185 (pid X d k) = 0
  | 0, h => absurd h (Nat.not_lt_zero _)
  | n + 1, h => by
    show s_ (p_reop (p_reAll X d n) (pid X d n)) 184 (pid X d k) = 1 ∧ s_ (p_reop (p_reAll X d n) (pid X d n)) 185 (pid X d k) = 0
    unfold p_reop
    rw [s_n (by decide), s_S, s_S, s_n (f' := 185) (by decide)]
    by_cases c : pid X d k = pid X d n
    · rw [if_pos ⟨rfl, c⟩, if_pos ⟨rfl, c⟩]; exact ⟨rfl, rfl⟩
    · rw [if_neg (fun q => c q.2), if_neg (fun q => c q.2)]
      have : k < n := by
        rcases Nat.lt_or_ge k n with q | q
        · exact q
        · exact absurd (by rw [show k = n by omega]) c
      exact reAll_v (n := n) n this
theorem opL_86 {c : Nat} : ∀ (n i : Nat) (P : pP) (e : Nat), s_ (p_opL P d c i n) 86 e = s_ P 86 e
  | 0, _, _, _ => rfl
  | n + 1, i, P, e => by
    unfold p_opL
    split
    · rfl
    · split
      · rw [opL_86 n]; exact mkP_n (by omega) (by omega) (by omega) (by omega)
      · exact opL_86 n _ _ _
theorem gof_86 {e : Nat} : s_ (p_gof X t) 86 e = s_ X 86 e := by
  have f : ∀ (Z : pP) d s tot, s_ (p_fnd Z d s tot) 86 e = s_ Z 86 e := fun Z d s tot => fnd_o (by decide) (by decide) (by omega)
  unfold p_gof
  split
  · exact s_n (by decide)
  · split
    · split
      · rw [f]; exact s_n (by decide)
      · exact s_n (by decide)
    · split
      · rw [f]; exact s_n (by decide)
      · split
        · split
          · exact s_n (by decide)
          · exact f _ _ _ _
        · split
          · rw [f]; exact s_n (by decide)
          · split
            · unfold p_open
              split
              · exact s_n (by decide)
              · rw [opL_86]; exact s_n (by decide)
            · exact f _ _ _ _
/-- WireBusModel.isOver -/
theorem r_isOver (h : RM a ra R M) (hH : HREL X R) (hI : INV X) (hx : EX X) (ht : t < s_ X 122 0) (h213 : s_ X 213 t = 0) (h211 : s_ X 211 t ≠ 0) (ed : s_ X 200 t = d) (hF : s_ X 208 t ≠ 0 → FN X t ∧ R 60 d = nI (s_ X 208 t - 1) ∧ (s_ X 208 t = 5 → R 85 d = nI (b_ X 36 t).length) ∧ (s_ X 208 t = 6 → R 85 d = nI (b_ X 36 (s_ X 165 d - 1)).length ∧ ∀ i, i < (b_ X 36 (s_ X 165 d - 1)).length → R 86 (60 * d + i) = nI ((b_ X 36 (s_ X 165 d - 1)).getD i 0))) (h165 : ∀ d, s_ X 165 d ≤ s_ X 122 0) : sm_Run (D + 4) 189 0 (sm_ent 189 [.inr (some a), .inl (nI t)]) [] M (fun v M' => v = none ∧ ∃ R', RM a ra R' M' ∧ HREL (p_fin X t) R' ∧ ∀ f i, f < 56 ∨ f = 68 ∨ f = 69 ∨ f = 87 → R' f i = R f i) := by
  obtain ⟨iG, iT, iW, iU, iF, iN, iR, iQ, iD, iI⟩ := id hI
  obtain ⟨a1, a2, a3, a4, a5, a6, a7, a8, a9, a10, a11, a12⟩ := iT t ht
  obtain ⟨t1, t2, t3, t4, t5, t6, t7, t8⟩ := hH.2.2.1 t ht
  obtain ⟨d1, d2, -⟩ := t8 h213
  have lt := ex_122 hx
  rw [ed] at a1 t1
  have b6 := ex_86 hx a1
  have l164 := ex_164 hx a1
  have et : (nI t).toNatClampNeg = t := nI_clamp (by omega)
  have edd : (nI d).toNatClampNeg = d := nI_clamp (by omega)
  have e1 : (nI (s_ X 211 t) = 1) = (s_ X 211 t = 1) := propext (by rw [li_1, nI_eq (by omega) (by decide)])
  have e8 : (8 : Int32) * nI t = nI (8 * t) := by rw [li_8, pk_mul]
  have u0 : R 80 (8 * t) = nI (s_ X 205 t / 256) := d2 0 (by decide)
  have u1 : R 80 (8 * t + 1) = nI (s_ X 205 t % 256) := d2 1 (by decide)
  have u2 : R 80 (8 * t + 2) = nI (s_ X 206 t % 256) := d2 2 (by decide)
  have u3 : R 80 (8 * t + 3) = nI (s_ X 206 t / 256 % 256) := d2 3 (by decide)
  have u4 : R 80 (8 * t + 4) = nI (s_ X 207 t % 256) := d2 4 (by decide)
  have ew : (256 : Int32) * nI (s_ X 205 t / 256) + nI (s_ X 205 t % 256) = nI (s_ X 205 t) := by rw [li_256, pk_mul, nI_add, show 256 * (s_ X 205 t / 256) + s_ X 205 t % 256 = s_ X 205 t by omega]
  have ev : nI (s_ X 206 t % 256) + (256 : Int32) * nI (s_ X 206 t / 256 % 256) = nI (s_ X 206 t) := by rw [li_256, pk_mul, nI_add, show s_ X 206 t % 256 + 256 * (s_ X 206 t / 256 % 256) = s_ X 206 t by omega]
  have cw : ∀ n, n < 65536 → (nI (s_ X 205 t) = nI n) = (s_ X 205 t = n) := fun n hn => propext (nI_eq (by omega) (by omega))
  have cv : ∀ n, n < 65536 → (nI (s_ X 206 t) = nI n) = (s_ X 206 t = n) := fun n hn => propext (nI_eq (by omega) (by omega))
  -- the second half
  have half : ∀ (M1 : sm_M) (R1 : Nat → Nat → Int32) (Q : Option sm_V → sm_M → Prop), RM a ra R1 M1 → KF R R1 t → (s_ X 211 t ≠ 1 → Q none M1) → (s_ X 211 t = 1 → s_ X 205 t = 513 → s_ X 206 t = 0 → sm_Run (D + 3) 177 0 (sm_ent 177 [.inr (some a), .inl (nI d), .inl (nI (s_ X 207 t % 256))]) [] M1 (fun v M2 => ∀ x3 x4, sm_Run (D + 4) 189 116 [some (.inr (some a)), some (.inl (nI t)), some (.inl (nI d)), some (.inl x3), some (.inl x4), none] (v.toList ++ []) M2 Q)) → (s_ X 211 t = 1 → ¬ (s_ X 205 t = 513 ∧ s_ X 206 t = 0) → ¬ (s_ X 205 t = 9 ∧ s_ X 206 t = 1) → Q none M1) → (s_ X 211 t = 1 → s_ X 205 t = 9 → s_ X 206 t = 1 → ∀ x3 x4, sm_Run (D + 4) 189 161 [some (.inr (some a)), some (.inl (nI t)), some (.inl (nI d)), some (.inl x3), some (.inl x4), some (.inl (nI (10 * d)))] [] M1 Q) → sm_Run (D + 4) 189 22 [some (.inr (some a)), some (.inl (nI t)), some (.inl (nI d)), none, none, none] [] M1 Q := by
    intro M1 R1 Q h1 hk k1 k2 k3 k4
    have g73 : R1 73 t = nI (s_ X 211 t) := by rw [hk.2 73 t (by omega)]; exact t3
    have g80 : ∀ i, i < 8 → R1 80 (8 * t + i) = R 80 (8 * t + i) := fun i hi => hk.2 80 _ (by omega)
    have i80 : ∀ i, i < 8 → sm_in_ M1 (ra 80) (nI (8 * t + i)) := fun i hi => of_eq_true (rN_80 h1 (by omega))
    have ei : ∀ i, nI (8 * t) + nI i = nI (8 * t + i) := fun i => nI_add _ _
    have ei1 : nI (8 * t) + 1 = nI (8 * t + 1) := ei 1
    have ei2 : nI (8 * t) + 2 = nI (8 * t + 2) := ei 2
    have ei3 : nI (8 * t) + 3 = nI (8 * t + 3) := ei 3
    have ei4 : nI (8 * t) + 4 = nI (8 * t + 4) := ei 4
    have cl : ∀ i, i < 8 → (nI (8 * t + i)).toNatClampNeg = 8 * t + i := fun i hi => nI_clamp (by omega)
    have r9 : ∀ (x3 x4 : Int32), x3 = nI (s_ X 205 t) → x4 = nI (s_ X 206 t) → s_ X 211 t = 1 → ¬ (s_ X 205 t = 513 ∧ s_ X 206 t = 0) → sm_Run (D + 4) 189 143 [some (.inr (some a)), some (.inl (nI t)), some (.inl (nI d)), some (.inl x3), some (.inl x4), none] [] M1 Q := by
      intro x3 x4 e3 e4 q1 q2
      subst e3; subst e4
      have c9 : (nI (s_ X 205 t) = 9) = (s_ X 205 t = 9) := cw 9 (by decide)
      have c1 : (nI (s_ X 206 t) = 1) = (s_ X 206 t = 1) := cv 1 (by decide)
      refine bb_189_143 ?_
      rw [c9, c1]
      refine ⟨fun q => k3 q1 q2 (fun c => q c.1), fun q => ⟨fun q' => k3 q1 q2 (fun c => q' c.2), fun q' => ?_⟩⟩
      have := k4 q1 (Decidable.not_not.mp q) (Decidable.not_not.mp q') (nI (s_ X 205 t)) (nI (s_ X 206 t))
      have e10 : (10 : Int32) * nI d = nI (10 * d) := by rw [li_10, pk_mul]
      rw [e10]
      exact this
    refine bb_189_22 ⟨h1.1, ra 73, rd_r73 h1, of_eq_true (rA_73 h1), of_eq_true (rN_73 h1 (by omega)), ?_⟩
    rw [et, rR_73 h1, g73, e1]
    refine ⟨fun q1 => ⟨ra 80, rd_r80 h1, of_eq_true (rA_80 h1), ?_, ra 80, rd_r80 h1, of_eq_true (rA_80 h1), ?_, ra 80, rd_r80 h1, of_eq_true (rA_80 h1), ?_, ra 80, rd_r80 h1, of_eq_true (rA_80 h1), ?_, ?_⟩, fun q1 => k1 q1⟩
    · rw [e8]; exact i80 0 (by decide)
    · rw [e8, ei1]; exact i80 1 (by decide)
    · rw [e8, ei2]; exact i80 2 (by decide)
    · rw [e8, ei3]; exact i80 3 (by decide)
    · have z0 : R1 80 (8 * t) = nI (s_ X 205 t / 256) := by have := g80 0 (by decide); rw [Nat.add_zero] at this; rw [this]; exact u0
      have z1 : R1 80 (8 * t + 1) = nI (s_ X 205 t % 256) := by rw [g80 1 (by decide)]; exact u1
      have z2 : R1 80 (8 * t + 2) = nI (s_ X 206 t % 256) := by rw [g80 2 (by decide)]; exact u2
      have z3 : R1 80 (8 * t + 3) = nI (s_ X 206 t / 256 % 256) := by rw [g80 3 (by decide)]; exact u3
      have z4 : R1 80 (8 * t + 4) = nI (s_ X 207 t % 256) := by rw [g80 4 (by decide)]; exact u4
      have cl0 : (nI (8 * t)).toNatClampNeg = 8 * t := nI_clamp (by omega)
      rw [e8, ei1, ei2, ei3, ei4, cl0, cl 1 (by decide), cl 2 (by decide), cl 3 (by decide), rR_80 h1, rR_80 h1, rR_80 h1, rR_80 h1, z0, z1, z2, z3, ew, ev]
      have c5 : (nI (s_ X 205 t) = 513) = (s_ X 205 t = 513) := cw 513 (by decide)
      have c0 : (nI (s_ X 206 t) = 0) = (s_ X 206 t = 0) := cv 0 (by decide)
      rw [c5, c0]
      refine ⟨fun q2 => r9 _ _ rfl rfl q1 (fun c => q2 c.1), fun q2 => ⟨fun q3 => r9 _ _ rfl rfl q1 (fun c => q3 c.2), fun q3 => ⟨ra 80, rd_r80 h1, of_eq_true (rA_80 h1), i80 4 (by decide), ?_⟩⟩⟩
      rw [cl 4 (by decide), rR_80 h1, z4]
      exact ru_mono (k2 q1 (Decidable.not_not.mp q2) (Decidable.not_not.mp q3)) (fun v M2 y => y _ _)
  have i71 : sm_in_ M (ra 71) (nI t) := of_eq_true (rN_71 h (by omega))
  have i79 : sm_in_ M (ra 79) (nI t) := of_eq_true (rN_79 h (by omega))
  refine bb_189_0 ⟨h.1, ra 71, rd_r71 h, of_eq_true (rA_71 h), i71, ra 79, rd_r79 h, of_eq_true (rW_79 h), i79, ?_⟩
  have e79 : (nI (if s_ X 208 t = 0 then 0 else 1) = 0) = (s_ X 208 t = 0) := propext (by
    rw [li_0, nI_eq (by split <;> omega) (by decide)]
    constructor
    · intro q; refine Decidable.byContradiction (fun c => ?_); rw [if_neg c] at q; omega
    · intro q; rw [if_pos q])
  rw [et, rR_71 h, rR_79 h, t1, d1, e79]
  refine ⟨fun q8 => ?_, fun q8 => ?_⟩
  · -- any other control transfer
    have ef : p_fin X t = if s_ X 211 t = 1 then p_clear X d t else X := by unfold p_fin; rw [if_neg (fun c => c h213), if_neg (by omega), ed]
    have pr := hH.2.1 d a1
    refine half M R _ h kf_rf (fun q => ?_) (fun q1 q2 q3 => ?_) (fun q1 q2 q3 => ?_) (fun q1 q2 q3 x3 x4 => ?_)
    · rw [if_neg q] at ef
      exact ⟨rfl, R, h, by rw [ef]; exact hH, fun _ _ _ => rfl⟩
    · rw [if_pos q1] at ef
      have ec : p_clear X d t = match p_pfind X d (nI (s_ X 207 t % 256)) with
          | none => X
          | some k => p_reop X (pid X d k) := by unfold p_clear; rw [if_neg (by omega), if_pos ⟨q2, q3⟩]; rfl
      refine ru_mono (r_pipeOf (P := X) h pr.2.2.2.1 l164 (fun k hk => (pr.2.2.2.2 k hk).1) a1) ?_
      rintro v M2 ⟨rfl, rfl⟩ x3 x4
      cases ek : p_pfind X d (nI (s_ X 207 t % 256)) with
      | none =>
        rw [ek] at ec
        refine bb_189_116 ⟨fun _ => ⟨rfl, R, h, by rw [ef, ec]; exact hH, fun _ _ _ => rfl⟩, fun q => absurd rfl q⟩
      | some k =>
        rw [ek] at ec
        dsimp only at ec
        have hk := (pfind_lt ek).1
        have n0 := ((iD d a1).2.2.2.2.2.2.1 k hk).1
        have em : ¬ nI (10 * d + k) = -1 := by
          rw [li_m1]; intro q
          have := (nI_nE (i := 10 * d + k) (s := 0) (by omega) (by decide)).mp q
          omega
        have i67 : sm_in_ M (ra 67) (nI (10 * d + k)) := of_eq_true (rN_67 h (by omega))
        have i66 : sm_in_ M (ra 66) (nI (10 * d + k)) := of_eq_true (rN_66 h (by omega))
        refine bb_189_116 ⟨fun q => absurd q em, fun _ => ⟨h.1, ra 67, rd_r67 h, of_eq_true (rW_67 h), i67, ra 66, by rw [Rp_j]; exact rd_r66 h, of_eq_true (rW_66 h), i66, ?_⟩⟩
        have ecl : (ptP d (some k)).toNatClampNeg = 10 * d + k := nI_clamp (by omega)
        show _ ∧ _
        rw [ecl]
        refine ⟨rfl, _, rm_wr (rm_wr h), ?_, fun f i hf => by rw [u2_r, if_neg (by omega), u2_r, if_neg (by omega)]⟩
        rw [ef, ec]
        refine hrel_45 hH (fun f j _ n1 n2 => by unfold p_reop; rw [s_n n2, s_n n1]) (by unfold p_reop; rw [s_S, if_neg (fun c => n0 c.2.symm), s_n (by decide)]) (fun _ _ => rfl) (fun f j n1 n2 => by rw [u2_r, if_neg (by omega), u2_r, if_neg (by omega)]) (fun d' k' hd' hk' => ?_)
        have g := (hH.2.1 d' hd').2.2.2.2 k' hk'
        have k6' : k' < 6 := by have := ex_164 hx hd'; omega
        by_cases c : d' = d ∧ k' = k
        · obtain ⟨rfl, rfl⟩ := c
          unfold p_reop
          simp only [u2_r, rowU_r, s_S, s_B, s_F, b_S, b_B, b_F, f_S, f_B, nfl_S, nfl_B, Nat.reduceEqDiff, false_and, and_false, true_and, and_true, and_self, if_true, if_false, reduceIte, ite_self, or_self, or_false, false_or, or_true, true_or, false_implies, implies_true, true_implies, Nat.reduceLeDiff, not_true_eq_false, not_false_eq_true, ne_eq]
          exact ⟨rfl, rfl⟩
        · have np : pid X d' k' ≠ pid X d k := fun q => c (iI d' k' d k hd' a1 hk' hk q)
          have v5 : s_ (p_reop X (pid X d k)) 185 (pid X d' k') = s_ X 185 (pid X d' k') := by unfold p_reop; rw [s_S, if_neg (fun q => np q.2), s_n (by decide)]
          have v4 : s_ (p_reop X (pid X d k)) 184 (pid X d' k') = s_ X 184 (pid X d' k') := by unfold p_reop; rw [s_n (by decide), s_S, if_neg (fun q => np q.2)]
          rw [u2_r, if_neg (by omega), u2_r, if_neg (by omega), u2_r, if_neg (by omega), u2_r, if_neg (by omega), v5, v4]
          exact ⟨g.2.2.2.2.1, g.2.2.2.2.2⟩
    · rw [if_pos q1] at ef
      have ec : p_clear X d t = X := by unfold p_clear; rw [if_neg q3, if_neg q2]
      exact ⟨rfl, R, h, by rw [ef, ec]; exact hH, fun _ _ _ => rfl⟩
    · rw [if_pos q1] at ef
      have ec : p_clear X d t = p_reAll X d (s_ X 164 d) := by unfold p_clear; rw [if_pos ⟨q2, q3⟩]
      have np : ∀ k, k < s_ X 164 d → pid X d k ≠ 0 := fun k hk => ((iD d a1).2.2.2.2.2.2.1 k hk).1
      refine r_161 (D := D + 3) (n := s_ X 164 d) a1 l164 pr.2.2.2.1 (fun M1 h1 => ⟨rfl, _, h1, ?_, fun f i hf => by rw [reo_r, if_neg (by omega), if_neg (by omega)]⟩) (s_ X 164 d) 0 M (by omega) (by rw [reo_0]; exact h)
      rw [ef, ec]
      refine hrel_45 hH (fun f j _ n1 n2 => reAll_s5 f j (by rintro ⟨c, -⟩; omega)) (reAll_s5 185 0 (by rintro ⟨-, k, c1, c2⟩; exact np k c1 c2.symm)) (fun c j => reAll_b) (fun f j n1 n2 => by rw [reo_r, if_neg (by omega), if_neg (by omega)]) (fun d' k' hd' hk' => ?_)
      have g := (hH.2.1 d' hd').2.2.2.2 k' hk'
      have k6' : k' < 6 := by have := ex_164 hx hd'; omega
      by_cases c : d' = d
      · subst c
        obtain ⟨v1, v2⟩ := reAll_v (X := X) (d := d') (k := k') (n := 0) (s_ X 164 d') hk'
        rw [v1, v2, reo_r, if_neg (by omega), if_pos (by omega), reo_r, if_pos (by omega), if_neg (by decide)]
        exact ⟨rfl, rfl⟩
      · have nn : ¬ ∃ k, k < s_ X 164 d ∧ pid X d' k' = pid X d k := fun ⟨k, c1, c2⟩ => c (iI d' k' d k hd' a1 hk' c1 c2).1
        rw [reAll_s5 185 _ (fun q => nn q.2), reAll_s5 184 _ (fun q => nn q.2), reo_r, if_neg (by omega), if_neg (by omega), reo_r, if_neg (by omega), if_neg (by omega)]
        exact ⟨g.2.2.2.2.1, g.2.2.2.2.2⟩
  · -- FINDING
    obtain ⟨fn, r60, r85, r86⟩ := hF q8
    have ef : p_fin X t = p_gof X t := by unfold p_fin; rw [if_neg (fun c => c h213), if_pos (by omega)]
    have cmp := fn_cmp hI fn
    obtain ⟨f1, f2, f3, f4, f5, f6, f7, f8, f9, f10, f11, f12, f13, f14, f15⟩ := id fn
    obtain ⟨w1, w2, w3, w4, w5⟩ := f7
    rw [ed] at w2
    refine ru_mono (r_found (D := D) h hH hI fn hx ed r60 r85 r86 h165) ?_
    rintro v M1 ⟨rfl, R1, y1, y2, y3, y4⟩
    have n513 : s_ X 205 t ≠ 513 := by
      rw [w1]; unfold fdW
      split
      · decide
      · split <;> decide
    have plain : ¬ (s_ X 208 t = 6 ∧ isCmp X t) → (none : Option sm_V) = none ∧ ∃ R', RM a ra R' M1 ∧ HREL (p_fin X t) R' ∧ ∀ f i, f < 56 ∨ f = 68 ∨ f = 69 ∨ f = 87 → R' f i = R f i := fun n => ⟨rfl, R1, y1, by rw [ef]; exact y3 n, y2.1⟩
    refine half M1 R1 _ y1 y2 (fun q => plain (fun c => q (cmp.mp c.2).1)) (fun _ q => absurd q n513) (fun q1 q2 q3 => plain (fun c => q3 ?_)) (fun q1 q2 q3 x3 x4 => ?_)
    · rw [w1, w2, c.1]; exact ⟨rfl, rfl⟩
    · have s6 : s_ X 208 t = 6 := by
        rw [w1] at q2
        unfold fdW at q2
        split at q2
        · omega
        · split at q2
          · assumption
          · omega
      have c : isCmp X t := ⟨q1, Or.inl (by rw [f8, q2]; decide)⟩
      obtain ⟨z1, z2⟩ := y4 ⟨s6, c⟩
      have m6 : s_ (p_gof X t) 164 d ≤ 6 := by
        have ig := inv_gof hI fn (fun d hd => ex_86 hx hd) h165
        have := (ig.2.2.2.2.2.2.2.2.1 d a1).2.2.2.2.2.1
        have e86 : s_ (p_gof X t) 86 d = s_ X 86 d := gof_86
        omega
      refine r_161 (D := D + 3) (n := s_ (p_gof X t) 164 d) a1 m6 z1 (fun M2 h2 => ⟨rfl, _, h2, ?_, fun f i hf => ?_⟩) (s_ (p_gof X t) 164 d) 0 M1 (by omega) (by rw [reo_0]; exact y1)
      · rw [ef]
        refine z2 _ (fun f j n => by rw [reo_r, if_neg (by omega), if_neg (by omega)]) (fun k hk => ?_)
        rw [reo_r, if_neg (by omega), if_pos (by omega), reo_r, if_pos (by omega)]
        exact ⟨rfl, rfl⟩
      · rw [reo_r, if_neg (by omega), if_neg (by omega)]; exact y2.1 f i hf
end IC
