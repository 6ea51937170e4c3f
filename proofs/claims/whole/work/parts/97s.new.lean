/-! The reference makes a transfer. -/
section HX
variable {a : Nat} {ra : Nat → Nat} {R R' : Nat → Nat → Int32} {M : sm_M} {D : Nat} {P X : pP} {T : Nat}
def ntR (R : Nat → Nat → Int32) (T d ad n : Nat) : Nat → Nat → Int32 := sm_u2 (sm_u2 (sm_u2 (sm_u2 (sm_u2 (sm_u2 (sm_u2 (sm_u2 (sm_u2 (sm_u2 R 70 0 (nI (T + 1))) 71 T (nI d)) 72 T (nI ad)) 73 T (nI 0)) 74 T (nI 0)) 75 T (nI n)) 76 T (nI 0)) 77 T (nI 0)) 78 T (nI 0)) 79 T (nI 0)
/-- WireBusModel.newTransfer -/
theorem r_newT {d ad n : Nat} (h : RM a ra R M) (h70 : R 70 0 = nI T) (hT : T < 336) : sm_Run D 175 0 (sm_ent 175 [.inr (some a), .inl (nI d), .inl (nI ad), .inl (nI n)]) [] M (fun v M' => v = some (.inl (nI T)) ∧ RM a ra (ntR R T d ad n) M') := by
  refine bb_175_0 ?_
  simp (disch := first | assumption | omega | decide) only [rS_70 h, rd_r71 h, rR_71 h, rN_71 h, rW_71 h, rA_71 h, rd_r72 h, rR_72 h, rN_72 h, rW_72 h, rA_72 h, rd_r73 h, rR_73 h, rN_73 h, rW_73 h, rA_73 h, rd_r74 h, rR_74 h, rN_74 h, rW_74 h, rA_74 h, rd_r75 h, rR_75 h, rN_75 h, rW_75 h, rA_75 h, rd_r76 h, rR_76 h, rN_76 h, rW_76 h, rA_76 h, rd_r77 h, rR_77 h, rN_77 h, rW_77 h, rA_77 h, rk_39 h, h70, ↓li_m1, li_0, li_1, li_2, li_3, li_4, li_5, li_6, li_7, li_8, li_9, li_10, li_11, li_12, li_13, li_14, li_16, li_18, li_20, li_32, li_36, li_40, li_50, li_60, li_64, li_100, li_127, li_128, li_200, li_255, li_256, li_290, li_300, li_336, li_512, li_513, li_515, li_660, li_2048, li_16385, li_32768, li_32774, li_32776, li_33280, li_49153, nI_add, pk_mul, nI_eq, nI_leI, nI_ltI, pk_sub, nI_clamp, Decidable.not_not, Nat.reduceAdd, Nat.reduceMul, Option.some.injEq, exists_eq_left', exists_eq_left, forall_eq', reduceCtorEq, false_implies, forall_const, true_and, and_true, not_false_eq_true, not_true_eq_false, Nat.reduceEqDiff, Ip_r h, Ip_a h, Ip_b h, I_put_s, I_put_k, Rp_j, u2_r, rowU_r, false_and, and_false, if_false, if_true, reduceIte]
  have h8 := rm_wr (rm_wr (rm_wr (rm_wr (rm_wr (rm_wr (rm_wr (rm_sr h (f := 70) (v := nI (T + 1))) (f := 71) (j := T) (v := nI d)) (f := 72) (j := T) (v := nI ad)) (f := 73) (j := T) (v := nI 0)) (f := 74) (j := T) (v := nI 0)) (f := 75) (j := T) (v := nI n)) (f := 76) (j := T) (v := nI 0)) (f := 77) (j := T) (v := nI 0)
  refine bb_175_72 ?_
  simp (disch := first | assumption | omega | decide) only [rd_r78 h8, rR_78 h8, rN_78 h8, rW_78 h8, rA_78 h8, rd_r79 h8, rR_79 h8, rN_79 h8, rW_79 h8, rk_39 h8, ↓li_m1, li_0, li_1, li_2, li_3, li_4, li_5, li_6, li_7, li_8, li_9, li_10, li_11, li_12, li_13, li_14, li_16, li_18, li_20, li_32, li_36, li_40, li_50, li_60, li_64, li_100, li_127, li_128, li_200, li_255, li_256, li_290, li_300, li_336, li_512, li_513, li_515, li_660, li_2048, li_16385, li_32768, li_32774, li_32776, li_33280, li_49153, nI_add, pk_mul, nI_eq, nI_leI, nI_ltI, pk_sub, nI_clamp, Decidable.not_not, Nat.reduceAdd, Nat.reduceMul, Option.some.injEq, exists_eq_left', exists_eq_left, forall_eq', reduceCtorEq, false_implies, forall_const, true_and, and_true, not_false_eq_true, not_true_eq_false, Nat.reduceEqDiff, Ip_r h8, Ip_a h8, Ip_b h8, I_put_s, I_put_k, Rp_j, u2_r, rowU_r, false_and, and_false, if_false, if_true, reduceIte]
  exact rm_wr (rm_wr h8)
def ncL (ty rq v ix n : Nat) : List Nat := [ty, rq, v % 256, v / 256 % 256, ix % 256, ix / 256 % 256, n % 256, n / 256 % 256]
def ncR (R : Nat → Nat → Int32) (T : Nat) (l : List Nat) : Nat → Nat → Int32 := rowU R 80 (8 * T) 8 (fun i => nI (l.getD i 0))
theorem ncR_e {l : List Nat} : sm_u2 (sm_u2 (sm_u2 (sm_u2 (sm_u2 (sm_u2 (sm_u2 (sm_u2 R 80 (8 * T) (nI (l.getD 0 0))) 80 (8 * T + 1) (nI (l.getD 1 0))) 80 (8 * T + 2) (nI (l.getD 2 0))) 80 (8 * T + 3) (nI (l.getD 3 0))) 80 (8 * T + 4) (nI (l.getD 4 0))) 80 (8 * T + 5) (nI (l.getD 5 0))) 80 (8 * T + 6) (nI (l.getD 6 0))) 80 (8 * T + 7) (nI (l.getD 7 0)) = ncR R T l := by
  unfold ncR
  have e : ∀ n, sm_u2 (rowU R 80 (8 * T) n (fun i => nI (l.getD i 0))) 80 (8 * T + n) (nI (l.getD n 0)) = rowU R 80 (8 * T) (n + 1) (fun i => nI (l.getD i 0)) := fun n => rowU_s (v := fun i => nI (l.getD i 0))
  have e0 : sm_u2 R 80 (8 * T) (nI (l.getD 0 0)) = rowU R 80 (8 * T) 1 (fun i => nI (l.getD i 0)) := by
    have := e 0
    rw [rowU_0] at this
    exact this
  rw [e0, e 1, e 2, e 3, e 4, e 5, e 6, e 7]
/-- WireBusModel.newControl -/
theorem r_newC {d ty rq v ix n : Nat} (h : RM a ra R M) (h70 : R 70 0 = nI T) (hT : T < 336) (hv : v < 65536) (hi : ix < 65536) (hn : n < 65536) : sm_Run (D + 1) 176 0 (sm_ent 176 [.inr (some a), .inl (nI d), .inl (nI ty), .inl (nI rq), .inl (nI v), .inl (nI ix), .inl (nI n)]) [] M (fun y M' => y = some (.inl (nI T)) ∧ RM a ra (ncR (ntR R T d 0 n) T (ncL ty rq v ix n)) M') := by
  refine bb_176_0 ⟨h.1, ?_⟩
  rw [li_0]
  refine ru_mono (r_newT h h70 hT) ?_
  rintro y M1 ⟨rfl, h1⟩
  have a255 : ∀ x, x < 2 ^ 31 → nI x &&& 255 = nI (x % 256) := fun x hx => nI_a255 hx
  have s8 : ∀ x, x < 2 ^ 31 → nI x >>> (8 &&& 31) = nI (x / 256) := fun x hx => nI_s8 hx
  have e8 : (8 : Int32) * nI T = nI (8 * T) := by rw [li_8, pk_mul]
  refine bb_176_8 ⟨h1.1, ?_⟩
  rw [e8, a255 v (by omega), s8 v (by omega), a255 _ (by omega), a255 ix (by omega), s8 ix (by omega), a255 _ (by omega), a255 n (by omega)]
  simp (disch := first | assumption | omega | decide) only [rd_r80 h1, rR_80 h1, rN_80 h1, rW_80 h1, rA_80 h1, rk_39 h1, ↓li_m1, li_0, li_1, li_2, li_3, li_4, li_5, li_6, li_7, li_8, li_9, li_10, li_11, li_12, li_13, li_14, li_16, li_18, li_20, li_32, li_36, li_40, li_50, li_60, li_64, li_100, li_127, li_128, li_200, li_255, li_256, li_290, li_300, li_336, li_512, li_513, li_515, li_660, li_2048, li_16385, li_32768, li_32774, li_32776, li_33280, li_49153, nI_add, pk_mul, nI_eq, nI_leI, nI_ltI, pk_sub, nI_clamp, Decidable.not_not, Nat.reduceAdd, Nat.reduceMul, Option.some.injEq, exists_eq_left', exists_eq_left, forall_eq', reduceCtorEq, false_implies, forall_const, true_and, and_true, not_false_eq_true, not_true_eq_false, Nat.reduceEqDiff, Ip_r h1, Ip_a h1, Ip_b h1, I_put_s, I_put_k, Rp_j, u2_r, rowU_r, false_and, and_false, if_false, if_true, reduceIte]
  have h8 := rm_wr (rm_wr (rm_wr (rm_wr (rm_wr (rm_wr (rm_wr h1 (f := 80) (j := 8 * T) (v := nI ty)) (f := 80) (j := 8 * T + 1) (v := nI rq)) (f := 80) (j := 8 * T + 2) (v := nI (v % 256))) (f := 80) (j := 8 * T + 3) (v := nI (v / 256 % 256))) (f := 80) (j := 8 * T + 4) (v := nI (ix % 256))) (f := 80) (j := 8 * T + 5) (v := nI (ix / 256 % 256))) (f := 80) (j := 8 * T + 6) (v := nI (n % 256))
  refine bb_176_117 ⟨h8.1, ?_⟩
  rw [s8 n (by omega), a255 _ (by omega)]
  simp (disch := first | assumption | omega | decide) only [rd_r80 h8, rR_80 h8, rN_80 h8, rW_80 h8, rA_80 h8, rk_39 h8, ↓li_m1, li_0, li_1, li_2, li_3, li_4, li_5, li_6, li_7, li_8, li_9, li_10, li_11, li_12, li_13, li_14, li_16, li_18, li_20, li_32, li_36, li_40, li_50, li_60, li_64, li_100, li_127, li_128, li_200, li_255, li_256, li_290, li_300, li_336, li_512, li_513, li_515, li_660, li_2048, li_16385, li_32768, li_32774, li_32776, li_33280, li_49153, nI_add, pk_mul, nI_eq, nI_leI, nI_ltI, pk_sub, nI_clamp, Decidable.not_not, Nat.reduceAdd, Nat.reduceMul, Option.some.injEq, exists_eq_left', exists_eq_left, forall_eq', reduceCtorEq, false_implies, forall_const, true_and, and_true, not_false_eq_true, not_true_eq_false, Nat.reduceEqDiff, Ip_r h8, Ip_a h8, Ip_b h8, I_put_s, I_put_k, Rp_j, u2_r, rowU_r, false_and, and_false, if_false, if_true, reduceIte]
  have h9 := rm_wr h8 (f := 80) (j := 8 * T + 7) (v := nI (n / 256 % 256))
  have e := ncR_e (R := ntR R T d 0 n) (T := T) (l := ncL ty rq v ix n)
  rw [← e]
  exact h9
/-- WireBusModel.find -/
theorem r_find {d s w : Nat} (h : RM a ra R M) (h70 : R 70 0 = nI T) (hT : T < 336) (hd : d < 6) (hs : 1 ≤ s ∧ s ≤ 6) (h85 : s = 5 → R 85 d = nI w ∧ w < 65536) : sm_Run (D + 2) 188 0 (sm_ent 188 [.inr (some a), .inl (nI d), .inl (nI (s - 1))]) [] M (fun y M' => y = none ∧ RM a ra (sm_u2 (ncR (ntR (sm_u2 R 60 d (nI (s - 1))) T d 0 (fdN s w)) T (ncL (fdW s / 256) (fdW s % 256) (fdV d s) 0 (fdN s w))) 79 T (nI 1)) M') := by
  have h1 := rm_wr h (f := 60) (j := d) (v := nI (s - 1))
  have g70 : sm_u2 R 60 d (nI (s - 1)) 70 0 = nI T := by simp only [u2_r, rowU_r, s_S, s_B, s_F, b_S, b_B, b_F, f_S, f_B, nfl_S, nfl_B, Nat.reduceEqDiff, false_and, and_false, true_and, and_true, and_self, if_true, if_false, reduceIte, ite_self, or_self, or_false, false_or, or_true, true_or, false_implies, implies_true, true_implies, Nat.reduceLeDiff, not_true_eq_false, not_false_eq_true, ne_eq]; exact h70
  have ed : (nI d).toNatClampNeg = d := nI_clamp (by omega)
  have i79 : ∀ {R' M'}, RM a ra R' M' → sm_in_ M' (ra 79) (nI T) := fun h' => of_eq_true (rN_79 h' (by omega))
  have et : (nI T).toNatClampNeg = T := nI_clamp (by omega)
  have c : ∀ n, n < 6 → (nI (s - 1) = nI n) = (s = n + 1) := fun n hn => propext (by rw [nI_eq (by omega) (by omega)]; omega)
  have c0 : (nI (s - 1) = 0) = (s = 1) := c 0 (by decide)
  have c1 : (nI (s - 1) = 1) = (s = 2) := c 1 (by decide)
  have c2 : (nI (s - 1) = 2) = (s = 3) := c 2 (by decide)
  have c3 : (nI (s - 1) = 3) = (s = 4) := c 3 (by decide)
  have c4 : (nI (s - 1) = 4) = (s = 5) := c 4 (by decide)
  have ed1 : nI d + 1 = nI (d + 1) := by rw [li_1, nI_add]
  refine bb_188_0 ⟨h.1, ra 60, rd_r60 h, of_eq_true (rW_60 h), of_eq_true (rN_60 h hd), ?_⟩
  rw [c0, c1, c2, c3, c4, ed, ed1]
  refine ⟨fun q => ?_, fun q => ?_, fun q => ?_, fun q => ?_, fun q => ⟨ra 85, by rw [Rp_j]; exact rd_r85 h, of_eq_true (rA_85 h), of_eq_true (rN_85 h hd), ?_⟩, fun n0 n1 n2 n3 n4 => ?_⟩
  · subst q
    refine ru_mono (r_newC (D := D) (d := d) (ty := 128) (rq := 6) (v := 256) (ix := 0) (n := 8) h1 g70 hT (by decide) (by decide) (by decide)) ?_
    rintro y M1 ⟨rfl, h2⟩
    refine bb_188_60 ⟨h2.1, ra 79, rd_r79 h2, of_eq_true (rW_79 h2), i79 h2, ?_⟩
    rw [et]; exact ⟨rfl, rm_wr h2⟩
  · subst q
    refine ru_mono (r_newC (D := D) (d := d) (ty := 0) (rq := 5) (v := d + 1) (ix := 0) (n := 0) h1 g70 hT (by omega) (by decide) (by decide)) ?_
    rintro y M1 ⟨rfl, h2⟩
    refine bb_188_76 ⟨h2.1, ra 79, rd_r79 h2, of_eq_true (rW_79 h2), i79 h2, ?_⟩
    rw [et]; exact ⟨rfl, rm_wr h2⟩
  · subst q
    refine ru_mono (r_newC (D := D) (d := d) (ty := 128) (rq := 6) (v := 256) (ix := 0) (n := 18) h1 g70 hT (by decide) (by decide) (by decide)) ?_
    rintro y M1 ⟨rfl, h2⟩
    refine bb_188_96 ⟨h2.1, ra 79, rd_r79 h2, of_eq_true (rW_79 h2), i79 h2, ?_⟩
    rw [et]; exact ⟨rfl, rm_wr h2⟩
  · subst q
    refine ru_mono (r_newC (D := D) (d := d) (ty := 128) (rq := 6) (v := 512) (ix := 0) (n := 9) h1 g70 hT (by decide) (by decide) (by decide)) ?_
    rintro y M1 ⟨rfl, h2⟩
    refine bb_188_116 ⟨h2.1, ra 79, rd_r79 h2, of_eq_true (rW_79 h2), i79 h2, ?_⟩
    rw [et]; exact ⟨rfl, rm_wr h2⟩
  · subst q
    obtain ⟨w1, w2⟩ := h85 rfl
    rw [Ip_r h (by decide) (by decide) (by decide) (by decide) (by decide), rR_85 h, w1]
    refine ru_mono (r_newC (D := D) (d := d) (ty := 128) (rq := 6) (v := 512) (ix := 0) (n := w) h1 g70 hT (by decide) (by decide) w2) ?_
    rintro y M1 ⟨rfl, h2⟩
    refine bb_188_140 ⟨h2.1, ra 79, rd_r79 h2, of_eq_true (rW_79 h2), i79 h2, ?_⟩
    rw [et]; exact ⟨rfl, rm_wr h2⟩
  · obtain rfl : s = 6 := by omega
    refine ru_mono (r_newC (D := D) (d := d) (ty := 0) (rq := 9) (v := 1) (ix := 0) (n := 0) h1 g70 hT (by decide) (by decide) (by decide)) ?_
    rintro y M1 ⟨rfl, h2⟩
    refine bb_188_155 ⟨h2.1, ra 79, rd_r79 h2, of_eq_true (rW_79 h2), i79 h2, ?_⟩
    rw [et]; exact ⟨rfl, rm_wr h2⟩
/-- a new transfer, both sides -/
theorem hrel_new {d : Nat} (hH : HREL P R) (h36 : ∀ t, t < s_ P 122 0 → (b_ P 36 t).length ≤ 100) (hT : s_ P 122 0 = T) (hs : ∀ f j, hoF f → f ≠ 122 → f ≠ 123 → ¬ (200 ≤ f ∧ f ≤ 213 ∧ j = T) → s_ X f j = s_ P f j) (hb : ∀ j, j ≠ T → b_ X 36 j = b_ P 36 j) (h122 : s_ X 122 0 = T + 1) (hr : ∀ f j, f = 0 ∨ 55 ≤ f → f ≠ 70 → ¬ (71 ≤ f ∧ f ≤ 79 ∧ j = T) → ¬ (f = 80 ∧ 8 * T ≤ j ∧ j < 8 * T + 8) → ¬ (f = 81 ∧ 100 * T ≤ j ∧ j < 100 * T + 100) → ¬ (f = 60 ∧ j = d) → f ≠ 82 ∧ f ≠ 83 ∧ f ≠ 84 ∧ f ≠ 87 ∧ f ≠ 68 → R' f j = R f j) (h60 : R' 60 d = R 60 d ∨ ∀ t, t < T → s_ P 211 t = 0 → s_ P 213 t = 0 → s_ P 208 t ≠ 0 → s_ P 200 t ≠ d) (h70 : R' 70 0 = nI (T + 1)) (hTT : RelT X R' T) (h165 : ∀ d, s_ P 165 d ≤ T) (htp : R' 3 0 = nI (b_ X 1 0).length ∧ (∀ i, i < (b_ X 1 0).length → R' 2 i = nI ((b_ X 1 0).getD i 0)) ∧ ∀ i, i < 20 → R' 1 i = nI ((b_ X 20 0).getD i 0)) : HREL X R' := by
  obtain ⟨⟨p1, p2, p3, p4⟩, p5, p6, p7⟩ := hH
  have en : ∀ f j, hoF f → f ≠ 122 → f ≠ 123 → ¬ (200 ≤ f ∧ f ≤ 213) → s_ X f j = s_ P f j := fun f j n0 n1 n2 n3 => hs f j n0 n1 n2 (by omega)
  refine ⟨⟨?_, ?_, ?_, ?_⟩, fun d' hd' => ?_, fun t ht => ?_, htp⟩
  · rw [hr 0 0 (by omega) (by omega) (by omega) (by omega) (by omega) (by omega) (by omega), en 0 0 (by decide) (by decide) (by decide) (by decide)]; exact p1
  · rw [hr 56 0 (by omega) (by omega) (by omega) (by omega) (by omega) (by omega) (by omega), en 125 0 (by decide) (by decide) (by decide) (by decide)]; exact p2
  · rw [h70, h122]
  · trivial
  · obtain ⟨f1, f2, f3, f4, f5⟩ := p5 d' hd'
    unfold RelP
    rw [hr 57 d' (by omega) (by omega) (by omega) (by omega) (by omega) (by omega) (by omega), hr 58 d' (by omega) (by omega) (by omega) (by omega) (by omega) (by omega) (by omega), hr 59 d' (by omega) (by omega) (by omega) (by omega) (by omega) (by omega) (by omega), hr 61 d' (by omega) (by omega) (by omega) (by omega) (by omega) (by omega) (by omega), en 160 d' (by decide) (by decide) (by decide) (by decide), en 162 d' (by decide) (by decide) (by decide) (by decide), en 161 d' (by decide) (by decide) (by decide) (by decide), en 164 d' (by decide) (by decide) (by decide) (by decide)]
    refine ⟨f1, f2, f3, f4, fun k hk => ?_⟩
    have g := f5 k hk
    have ep : pid X d' k = pid P d' k := en 166 _ (by decide) (by decide) (by decide) (by decide)
    unfold RelQ at *
    rw [ep, hr 62 _ (by omega) (by omega) (by omega) (by omega) (by omega) (by omega) (by omega), hr 63 _ (by omega) (by omega) (by omega) (by omega) (by omega) (by omega) (by omega), hr 64 _ (by omega) (by omega) (by omega) (by omega) (by omega) (by omega) (by omega), hr 65 _ (by omega) (by omega) (by omega) (by omega) (by omega) (by omega) (by omega), hr 66 _ (by omega) (by omega) (by omega) (by omega) (by omega) (by omega) (by omega), hr 67 _ (by omega) (by omega) (by omega) (by omega) (by omega) (by omega) (by omega), en 180 _ (by decide) (by decide) (by decide) (by decide), en 181 _ (by decide) (by decide) (by decide) (by decide), en 182 _ (by decide) (by decide) (by decide) (by decide), en 183 _ (by decide) (by decide) (by decide) (by decide), en 184 _ (by decide) (by decide) (by decide) (by decide), en 185 _ (by decide) (by decide) (by decide) (by decide)]
    exact g
  · by_cases q : t = T
    · rw [q]; exact hTT
    · have ht' : t < T := by omega
      obtain ⟨t1, t2, t3, t4, t5, t6, t7, t8⟩ := p6 t (by omega)
      have l36 := h36 t (show t < s_ P 122 0 by omega)
      have es : ∀ f, 200 ≤ f → f ≤ 213 → s_ X f t = s_ P f t := fun f k1 k2 => hs f t (by omega) (by omega) (by omega) (by omega)
      have rr : ∀ f, 71 ≤ f → f ≤ 79 → R' f t = R f t := fun f k1 k2 => hr f t (by omega) (by omega) (by omega) (by omega) (by omega) (by omega) (by omega)
      unfold RelT
      rw [hb t q, es 200 (by decide) (by decide), es 213 (by decide) (by decide), es 211 (by decide) (by decide), es 210 (by decide) (by decide), es 212 (by decide) (by decide), es 203 (by decide) (by decide), en 180 _ (by decide) (by decide) (by decide) (by decide), rr 71 (by decide) (by decide), rr 72 (by decide) (by decide), rr 73 (by decide) (by decide), rr 74 (by decide) (by decide), rr 75 (by decide) (by decide), rr 76 (by decide) (by decide)]
      refine ⟨t1, t2, t3, t4, t5, t6, fun i hi hj => by rw [hr 81 _ (by omega) (by omega) (by omega) (by omega) (by omega) (by omega) (by omega)]; exact t7 i hi hj, fun z => ?_⟩
      obtain ⟨d1, d2, d3⟩ := t8 z
      have esu : su X t = su P t := by
        unfold su
        rw [hb t q, es 205 (by decide) (by decide), es 206 (by decide) (by decide), es 207 (by decide) (by decide)]
      unfold RelC
      rw [esu, rr 79 (by decide) (by decide), rr 77 (by decide) (by decide), rr 78 (by decide) (by decide), es 208 (by decide) (by decide), es 211 (by decide) (by decide), es 209 (by decide) (by decide), es 200 (by decide) (by decide), hb t q, en 185 0 (by decide) (by decide) (by decide) (by decide), en 165 _ (by decide) (by decide) (by decide) (by decide)]
      refine ⟨d1, fun i hi => by rw [hr 80 _ (by omega) (by omega) (by omega) (by omega) (by omega) (by omega) (by omega)]; exact d2 i hi, fun w => ?_⟩
      obtain ⟨w1, w2, w3, w4, w5⟩ := d3 w
      have g60 : s_ P 208 t ≠ 0 → R' 60 (s_ P 200 t) = R 60 (s_ P 200 t) := fun n => by
        by_cases c : s_ P 200 t = d
        · rcases h60 with k | k
          · rw [c]; exact k
          · exact absurd c (k t ht' w z n)
        · exact hr 60 _ (by omega) (by omega) (by omega) (by omega) (by omega) (by omega) (by omega)
      have bq : b_ X 36 (s_ P 165 (s_ P 200 t) - 1) = b_ P 36 (s_ P 165 (s_ P 200 t) - 1) := hb _ (by have := h165 (s_ P 200 t); omega)
      refine ⟨w1, w2, fun n => by rw [g60 n]; exact w3 n, fun n => by rw [hr 85 _ (by omega) (by omega) (by omega) (by omega) (by omega) (by omega) (by omega)]; exact w4 n, fun n => ?_⟩
      obtain ⟨v1, v2, v3⟩ := w5 n
      rw [bq, hr 85 _ (by omega) (by omega) (by omega) (by omega) (by omega) (by omega) (by omega)]
      exact ⟨v1, v2, fun i hi => by rw [hr 86 _ (by omega) (by omega) (by omega) (by omega) (by omega) (by omega) (by omega)]; exact v3 i hi⟩
end HX
