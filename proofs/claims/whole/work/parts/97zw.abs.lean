/-! Calls, both sides: endpoint, device. -/
section JF_
variable {a : Nat} {ra : Nat → Nat} {R R' : Nat → Nat → Int32} {M : sm_M} {D : Nat} {P P' Q X : pP} {d k t i n m e : Nat} {x x1 x2 x3 x4 x5 x6 : Int32}
theorem hrel_h (h : HREL P R) (k1 : ∀ f i, hostF f → s_ Q f i = s_ P f i) (k2 : ∀ c i, hostB c i → b_ Q c i = b_ P c i) (hr : ∀ f i, (f < 4 ∨ 55 ≤ f) ∧ f ≠ 82 ∧ f ≠ 83 ∧ f ≠ 84 ∧ f ≠ 87 ∧ f ≠ 68 → R' f i = R f i) : HREL Q R' := by
  have fs : ∀ {f i : Nat}, (f < 20 ∨ (120 ≤ f ∧ f < 140) ∨ (160 ≤ f ∧ f < 220)) → s_ Q f i = s_ P f i := fun {f i} hf => k1 f i (by unfold hostF; omega)
  have f36 : ∀ {t : Nat}, b_ Q 36 t = b_ P 36 t := fun {t} => k2 36 t (Or.inl rfl)
  obtain ⟨⟨h1, h2, h3, h4⟩, h5, h6, h7, h8, h9⟩ := h
  refine ⟨⟨?_, ?_, ?_, ?_⟩, fun d hd => ?_, fun t ht => ?_, ?_, ?_, ?_⟩
  · rw [fs (by decide), hr _ _ (by decide)]; exact h1
  · rw [fs (by decide), hr _ _ (by decide)]; exact h2
  · rw [fs (by decide), hr _ _ (by decide)]; exact h3
  · trivial
  · have := h5 d hd
    unfold RelP RelQ pid at *
    simp (disch := decide) only [fs, hr]
    exact this
  · rw [fs (by decide)] at ht
    have := h6 t ht
    unfold RelT RelC su at *
    simp (disch := decide) only [fs, hr, f36]
    exact this
  · rw [hr _ _ (by decide), k2 1 0 (Or.inr (Or.inr ⟨rfl, rfl⟩))]; exact h7
  · rw [k2 1 0 (Or.inr (Or.inr ⟨rfl, rfl⟩))]; intro i hi; rw [hr _ _ (by decide)]; exact h8 i hi
  · intro i hi; rw [hr _ _ (by decide), k2 20 0 (Or.inr (Or.inl rfl))]; exact h9 i hi
/-- an absent device is described anew, both sides -/
theorem co_abs (hC : CO P R) (hE : EXO X) (hd : d < 6) (h83 : s_ P 83 d = 0) (hs : ∀ f j, ¬ ((f = 80 ∨ f = 81 ∨ f = 82 ∨ f = 86) ∧ j = d) → ¬ (100 ≤ f ∧ f ≤ 105 ∧ 6 * d ≤ j ∧ j < 6 * d + 6) → s_ X f j = s_ P f j) (hb : ∀ c j, ¬ (c = 1 ∧ 6 * d < j ∧ j < 6 * d + 7) → ¬ (c = 28 ∧ j = d) → b_ X c j = b_ P c j) (hf : f_ X = f_ P) (hEP : EPs X d) (hIE : IE X d) (hIB : IB X d) (hI5 : ∀ k, k < 6 → s_ X 100 (6 * d + k) < 128 → s_ X 105 (6 * d + k) = 0)
    (hr : ∀ f j, ¬ ((f = 6 ∨ f = 7 ∨ f = 8 ∨ f = 9) ∧ j = d) → ¬ (10 ≤ f ∧ f ≤ 16 ∧ 6 * d ≤ j ∧ j < 6 * d + 6) → ¬ (f = 18 ∧ 64 * d ≤ j ∧ j < 64 * d + 64) → R' f j = R f j) (r6 : R' 6 d = nI (s_ X 80 d)) (r7 : R' 7 d = nI (s_ X 81 d)) (r8 : R' 8 d = nI (s_ X 82 d)) (r9 : R' 9 d = nI (s_ X 86 d)) (r18 : ∀ j, j < 64 → R' 18 (64 * d + j) = nI ((b_ X 28 d).getD j 0)) (rE : ∀ k, k < s_ X 86 d → RelE X R' (6 * d + k)) : CO X R' := by
  obtain ⟨⟨f1, f2, f3, f4, f5⟩, f6, f7, f8, f9, f10, f11⟩ := hC
  obtain ⟨w1, w2, w3, w4, hH⟩ := f1
  have hx := exo_ex hE
  have hx0 := w1.1.1
  have h6 : ∀ d, d < 6 → s_ P 86 d ≤ 6 := fun d hd => ex_86 hx0 hd
  have s1 : ∀ f j, f < 80 ∨ (82 < f ∧ f < 86) ∨ (86 < f ∧ f < 100) ∨ 105 < f → s_ X f j = s_ P f j := fun f j h => hs f j (by omega) (by omega)
  have b1 : ∀ c j, c ≠ 1 → c ≠ 28 → b_ X c j = b_ P c j := fun c j n1 n2 => hb c j (by omega) (by omega)
  have r1 : ∀ f j, f < 6 ∨ f = 17 ∨ 18 < f → R' f j = R f j := fun f j h => hr f j (by omega) (by omega) (by omega)
  have so : ∀ e, e < 6 → e ≠ d → SO e P X := fun e he ne => ⟨fun f i o => by
    unfold own at o
    exact hs f i (by omega) (by omega), fun c i o => by
    unfold ownB at o
    exact hb c i (by omega) (by omega)⟩
  have inv := inv_abs f2 h6 hd h83 hs b1 hEP
  have x83 : s_ X 83 d = 0 := by rw [s1 83 d (by omega)]; exact h83
  have wx : WX X := by
    obtain ⟨⟨u1, u2, u3, u4, u5⟩, v2, v3⟩ := w1
    refine ⟨⟨hx, fun e he => ?_, fun e he => ?_, ?_, ?_⟩, fun j hj hS => ?_, fun e he => ?_⟩
    · by_cases z : e = d
      · subst z
        have u := (u2 e he).2.1
        rw [sh_a x83]
        rw [sh_a h83] at u
        refine ⟨fun k hk => ?_, ?_, ?_⟩
        · have := hIE k (by revert hk; simp only [s_S, s_B, s_F, b_S, b_B, b_F, f_S, f_B, Nat.reduceEqDiff, false_and, and_false, true_and, and_true, and_self, if_true, if_false, reduceIte, ite_self]; exact id)
          simp only [s_S, s_B, s_F, b_S, b_B, b_F, f_S, f_B, Nat.reduceEqDiff, false_and, and_false, true_and, and_true, and_self, if_true, if_false, reduceIte, ite_self]; exact this
        · unfold IZ at *
          simp only [s_S, s_B, s_F, b_S, b_B, b_F, f_S, f_B, Nat.reduceEqDiff, false_and, and_false, true_and, and_true, and_self, if_true, if_false, reduceIte, ite_self] at u
          simp only [s_S, s_B, s_F, b_S, b_B, b_F, f_S, f_B, Nat.reduceEqDiff, false_and, and_false, true_and, and_true, and_self, if_true, if_false, reduceIte, ite_self]
          rw [s1 61 e (by omega), s1 64 e (by omega), s1 68 e (by omega), b1 29 e (by decide) (by decide)]
          exact ⟨u.1, by omega, u.2.2.1, u.2.2.2.1, u.2.2.2.2.1, fun q => q.elim, fun q => q.elim⟩
        · unfold IW; simp only [s_S, s_B, s_F, b_S, b_B, b_F, f_S, f_B, Nat.reduceEqDiff, false_and, and_false, true_and, and_true, and_self, if_true, if_false, reduceIte, ite_self]
          exact ⟨Or.inl trivial, fun q => q.elim, fun q => q.elim⟩
      · exact so_IDs (so e he z) (h6 e he) (u2 e he)
    · have := u3 e he
      unfold IA at *
      simp (disch := omega) only [s1]
      exact this
    · unfold UD at *; simp (disch := omega) only [s1]; exact u4
    · unfold WU at *; simp (disch := omega) only [s1]; exact u5
    · rw [s1 228 0 (by omega)] at hS
      unfold PKo
      rw [s1 141 j (by omega), s1 142 j (by omega), s1 140 j (by omega), b1 7 j (by decide) (by decide)]
      exact v2 j hj hS
    · by_cases z : e = d
      · subst z
        refine ⟨hIB, ?_⟩
        have := (v3 e he).2
        unfold AK at *
        rw [b1 7 _ (by decide) (by decide)]
        simp (disch := omega) only [s1]
        exact this
      · exact so_IK (so e he z) (v3 e he)
  have lk : LK P X := ⟨by rw [s1 228 0 (by omega)]; exact Nat.le_refl _, fun p _ _ => ⟨s1 _ _ (by omega), s1 _ _ (by omega), b1 _ _ (by decide) (by decide), s1 _ _ (by omega), s1 _ _ (by omega)⟩, Or.inl ⟨s1 _ _ (by omega), b1 _ _ (by decide) (by decide)⟩, fun p h1 h2 => by rw [s1 228 0 (by omega)] at h2; omega⟩
  have hH' : HREL X R' := hrel_h hH (fun f i h => s1 f i (by unfold hostF at h; omega)) (fun c i h => hb c i (by unfold hostB at h; omega) (by unfold hostB at h; omega)) (fun f i h => r1 f i (by omega))
  refine ⟨⟨⟨wx, fun e he => by rw [s1 91 e (by omega)]; exact w2 e he, ⟨fun e he => ?_, rf_cg w3.2.1 (s1 _ _ (by omega)) hf (fun f i hf => r1 f i (by omega)), ?_, fun i hi => ?_⟩, fun j hj hS => ?_, hH'⟩, inv, hE, relS_cg f4 (s1 128 0 (by omega)) (r1 69 0 (by omega)), fun i => by rw [s1 186 i (by omega), s1 126 0 (by omega)]; exact f5 i⟩, by rw [s1 228 0 (by omega), s1 126 0 (by omega)]; exact f6, dr_cg f7 (fun f j hf => s1 f j (by omega)), lc_lk f8 lk, lv_lk f9 lk, fun e k he hk => ?_, rb_cg f11 (fun c j h => hb c j (by omega) (by omega))⟩
  · by_cases z : e = d
    · subst z
      have hX := w3.1 e he
      unfold RelX at hX ⊢
      rw [sh_a x83, sdR_a x83]
      rw [sh_a h83, sdR_a h83] at hX
      obtain ⟨⟨a4, a5, a6, a7, a8, a9, a19, a20, a18⟩, hz, he'⟩ := hX
      obtain ⟨z60, z21, z23, z24, z26, z22, z22b, z2, z4, z5⟩ := hz
      simp only [u2_r, rowU_r, s_S, s_B, s_F, b_S, b_B, b_F, f_S, f_B, nfl_S, nfl_B, Nat.reduceEqDiff, false_and, and_false, true_and, and_true, and_self, if_true, if_false, reduceIte, ite_self, or_self, or_false, false_or, or_true, true_or, false_implies, implies_true, true_implies, Nat.reduceLeDiff, not_true_eq_false, not_false_eq_true, ne_eq] at a4 a5 a20 z23 z24 z26
      refine ⟨?_, ?_, fun k hk => ?_⟩
      · unfold RelA; simp only [u2_r, rowU_r, s_S, s_B, s_F, b_S, b_B, b_F, f_S, f_B, nfl_S, nfl_B, Nat.reduceEqDiff, false_and, and_false, true_and, and_true, and_self, if_true, if_false, reduceIte, ite_self, or_self, or_false, false_or, or_true, true_or, false_implies, implies_true, true_implies, Nat.reduceLeDiff, not_true_eq_false, not_false_eq_true, ne_eq]
        rw [r1 4 e (by omega), r1 5 e (by omega), r1 20 e (by omega), s1 83 e (by omega), s1 84 e (by omega), s1 90 e (by omega)]
        exact ⟨a4, a5, r6, r7, r8, r9, rfl, a20, r18⟩
      · unfold RelZ; simp only [u2_r, rowU_r, s_S, s_B, s_F, b_S, b_B, b_F, f_S, f_B, nfl_S, nfl_B, Nat.reduceEqDiff, false_and, and_false, true_and, and_true, and_self, if_true, if_false, reduceIte, ite_self, or_self, or_false, false_or, or_true, true_or, false_implies, implies_true, true_implies, Nat.reduceLeDiff, not_true_eq_false, not_false_eq_true, ne_eq]
        rw [r1 23 e (by omega), r1 24 e (by omega), r1 26 e (by omega), s1 61 e (by omega), s1 65 e (by omega), s1 64 e (by omega)]
        exact ⟨rfl, z23, z24, z26⟩
      · have := rE k (by revert hk; simp only [u2_r, rowU_r, s_S, s_B, s_F, b_S, b_B, b_F, f_S, f_B, nfl_S, nfl_B, Nat.reduceEqDiff, false_and, and_false, true_and, and_true, and_self, if_true, if_false, reduceIte, ite_self, or_self, or_false, false_or, or_true, true_or, false_implies, implies_true, true_implies, Nat.reduceLeDiff, not_true_eq_false, not_false_eq_true, ne_eq]; exact id)
        unfold RelE at *; simp only [u2_r, rowU_r, s_S, s_B, s_F, b_S, b_B, b_F, f_S, f_B, nfl_S, nfl_B, Nat.reduceEqDiff, false_and, and_false, true_and, and_true, and_self, if_true, if_false, reduceIte, ite_self, or_self, or_false, false_or, or_true, true_or, false_implies, implies_true, true_implies, Nat.reduceLeDiff, not_true_eq_false, not_false_eq_true, ne_eq]; exact this
    · exact relX_cg (so e he z) (fun f i o n => hr f i (by unfold ownR at o; omega) (by unfold ownR at o; omega) (by unfold ownR at o; omega)) hx0 he (wi_HD w1.1 he) (w3.1 e he)
  · rw [r1 32 0 (by omega), s1 228 0 (by omega)]; exact w3.2.2.1
  · rw [r1 55 i (by omega)]; exact w3.2.2.2 i hi
  · rw [s1 228 0 (by omega)] at hS
    exact relK_cg (w4 j hj hS) (fun f hf => s1 f j (by omega)) (b1 7 j (by decide) (by decide)) (fun f i hf => r1 f i (by omega))
  · by_cases z : e = d
    · subst z; exact hI5 k hk
    · rw [hs 100 _ (by omega) (by omega), hs 105 _ (by omega) (by omega)]
      exact f10 e k he hk
theorem findI_none (h : p_findI P d x = none) (hk : k < s_ P 86 d) : nI (s_ P 100 (6 * d + k)) ≠ x := by
  unfold p_findI at h
  rw [List.find?_eq_none] at h
  have := h k (List.mem_range.mpr hk)
  simpa using this
theorem ge_i {x : Int32} {n : Nat} {u v : Int32} (hu : u = nI (n + 1)) (hv : v = nI n) (hn : n < 1000) : u ≤ x ↔ v < x := by
  subst hu; subst hv
  rw [Int32.le_iff_toInt_le, Int32.lt_iff_toInt_lt, nI_toInt (by omega), nI_toInt (by omega)]
  omega
theorem le_i {x : Int32} : x ≤ 0 ↔ x < 1 := by
  rw [Int32.le_iff_toInt_le, Int32.lt_iff_toInt_lt]
  have b0 : (0 : Int32).toInt = 0 := rfl
  have b1 : (1 : Int32).toInt = 1 := rfl
  omega
theorem le_7 {x : Int32} : x ≤ 7 ↔ ¬ (7 : Int32) < x := by
  rw [Int32.le_iff_toInt_le, Int32.lt_iff_toInt_lt]
  omega
/-- endpoint -/
theorem r_endpoint (h : RM a ra R M) (hC : CO P R) : sm_Run (D + 2) 193 0 (sm_ent 193 [.inr (some a), .inl x1, .inl x2, .inl x3, .inl x4]) [] M (CQ a ra P (p_endpoint P x1 x2 x3 x4)) := by
  obtain ⟨⟨f1, f2, f3, f4, f5⟩, f6, f7, f8, f9, f10, f11⟩ := id hC
  obtain ⟨w1, w2, w3, w4, hH⟩ := id f1
  have hx := exo_ex f3
  have hE : EXO (p_endpoint P x1 x2 x3 x4).2 := by
    obtain ⟨n0, u0, g, M, hr, hg⟩ := f3
    obtain ⟨v, M', -, g', -, k1, k2⟩ := ru_ex (c_endpoint (D := 0) (x1 := x1) (x2 := x2) (x3 := x3) (x4 := x4) hr hg)
    exact ⟨n0, u0, g', M', k2, k1⟩
  have no : p_endpoint P x1 x2 x3 x4 = (some 0, P) → CQ a ra P (p_endpoint P x1 x2 x3 x4) (some (.inl 0)) M := fun c => by
    rw [c]; exact cq_same h hC _ rfl
  have nd : x1 < 0 ∨ (5 : Int32) < x1 → p_endpoint P x1 x2 x3 x4 = (some 0, P) := fun c => by unfold p_endpoint; rw [devN_no c]
  have ne : ¬ isEp x2 x3 x4 → p_endpoint P x1 x2 x3 x4 = (some 0, P) := fun c => by
    unfold p_endpoint
    split
    · rfl
    · rw [if_pos (Or.inr c)]
  have k118 : ∀ (x5 x6 : Int32) (z7 : Option sm_V), ¬ x1 < 0 → ¬ (5 : Int32) < x1 → (¬ x6 = 0 → isEp x2 x3 x4) → (x6 = 0 → ¬ isEp x2 x3 x4) → sm_Run (D + 2) 193 118 [some (.inr (some a)), some (.inl x1), some (.inl x2), some (.inl x3), some (.inl x4), some (.inl x5), some (.inl x6), z7] [] M (CQ a ra P (p_endpoint P x1 x2 x3 x4)) := by
    intro x5 x6 z7 g1 g2 hy hn
    refine bb_193_118 ⟨fun q => ?_, fun q => no (ne (hn (Decidable.not_not.mp q)))⟩
    have ep := hy q
    obtain ⟨d, hd, rfl, e⟩ := devN_ge g1 g2
    obtain ⟨a4, a5, a6, a7, a8, a9, a18, he⟩ := rx_get (w3.1 d hd)
    have cl : (nI d).toNatClampNeg = d := nI_clamp (by omega)
    have e6 := ex_86 hx hd
    have b83 := ex_b hx 83 d
    have pe : p_endpoint P (nI d) x2 x3 x4 = if s_ P 83 d ≠ 0 ∨ ¬ isEp x2 x3 x4 then (some 0, P) else p_addE P d x2.toNatClampNeg x3.toNatClampNeg x4.toNatClampNeg := by unfold p_endpoint; rw [e]
    rw [cl]
    refine ⟨h.1, ra 4, rd_r4 h, of_eq_true (rA_4 h), of_eq_true (rN_4 h hd), fun q4 => no ?_, fun q4 => ⟨ra 9, rd_r9 h, of_eq_true (rA_9 h), of_eq_true (rN_9 h hd), fun q9 => no ?_, fun q9 => ?_⟩⟩
    · rw [rR_4 h, a4, li_0, nI_eq b83 (by decide)] at q4
      rw [pe, if_pos (Or.inl q4)]
    · rw [rR_9 h, a9, li_6, nI_eq (by omega) (by decide)] at q9
      rw [pe]
      split
      · rfl
      · unfold p_addE; rw [if_pos (Or.inl (by omega))]
    rw [rR_4 h, a4, li_0, Decidable.not_not, nI_eq b83 (by decide)] at q4
    rw [rR_9 h, a9, li_6, nI_eq (by omega) (by decide)] at q9
    rw [if_neg (by rintro (c | c); exact c q4; exact c ep)] at pe
    obtain ⟨y, z, v, rfl, rfl, rfl, p1, p2, p3, p4, p5, p6⟩ := ep_nI ep
    rw [nI_clamp (by omega), nI_clamp (by omega), nI_clamp (by omega)] at pe
    refine ru_mono (r_ptx (D := D + 0) h hx w3.1) ?_
    rintro v1 M1 ⟨rfl, rfl⟩
    unfold ptX
    rw [e]
    dsimp only
    refine bb_193_151 ?_
    rw [ptI_m1 hd (fun k ek => by have := (findI_lt ek).1; omega)]
    cases ef : p_findI P d (nI y) with
    | some k => exact ⟨fun c => absurd c (by simp), fun _ => no (by rw [pe]; unfold p_addE; rw [ef, if_pos (show 6 ≤ s_ P 86 d ∨ (some k).isSome = true from Or.inr rfl)])⟩
    | none =>
      refine ⟨fun _ => ?_, fun c => absurd rfl c⟩
      have pe' : p_endpoint P (nI d) (nI y) (nI z) (nI v) = (some (nI 1), pS (p_eBec P (6 * d + s_ P 86 d) y z v) 86 d (s_ P 86 d + 1)) := by
        rw [pe]; unfold p_addE; rw [ef, if_neg (by rintro (c | c); omega; cases c)]; rfl
      rw [pe'] at hE ⊢
      have c6 : (6 : Int32) * nI d + nI (s_ P 86 d) = nI (6 * d + s_ P 86 d) := by rw [li_6, pk_mul, nI_add]
      have e36 : 6 * d + s_ P 86 d < 36 := by omega
      generalize hn : s_ P 86 d = n at *
      have clE : (nI (6 * d + n)).toNatClampNeg = 6 * d + n := nI_clamp (by omega)
      have k1 := rm_wr h (f := 9) (j := d) (v := nI (n + 1))
      have k2 := rm_wr k1 (f := 10) (j := 6 * d + n) (v := nI y)
      have k3 := rm_wr k2 (f := 11) (j := 6 * d + n) (v := nI z)
      have k4 := rm_wr k3 (f := 12) (j := 6 * d + n) (v := nI v)
      have k5 := rm_wr k4 (f := 13) (j := 6 * d + n) (v := nI 0)
      have k6 := rm_wr k5 (f := 14) (j := 6 * d + n) (v := nI 0)
      have k7 := rm_wr k6 (f := 15) (j := 6 * d + n) (v := nI 0)
      have k8 := rm_wr k7 (f := 16) (j := 6 * d + n) (v := nE 0)
      rw [cl]
      refine ⟨h.1, ra 9, rd_r9 h, of_eq_true (rA_9 h), of_eq_true (rN_9 h hd), ra 9, rd_r9 h, of_eq_true (rA_9 h), of_eq_true (rN_9 h hd), of_eq_true (rW_9 h), ?_⟩
      rw [rR_9 h, a9, nI_1, c6, clE]
      refine ⟨ra 10, rd_r10 k1, of_eq_true (rW_10 h), of_eq_true (rN_10 h e36), ra 11, rd_r11 k2, of_eq_true (rW_11 h), of_eq_true (rN_11 h e36), ra 12, rd_r12 k3, of_eq_true (rW_12 h), of_eq_true (rN_12 h e36), ra 13, rd_r13 k4, of_eq_true (rW_13 h), of_eq_true (rN_13 h e36), ?_⟩
      refine bb_193_213 ?_
      rw [clE]
      refine ⟨k5.1, ra 14, rd_r14 k5, of_eq_true (rW_14 k5), of_eq_true (rN_14 k5 e36), ra 15, rd_r15 k6, of_eq_true (rW_15 k5), of_eq_true (rN_15 k5 e36), ra 16, rd_r16 k7, of_eq_true (rW_16 k5), of_eq_true (rN_16 k5 e36), rfl, _, k8, ?_, ?_⟩
      rotate_left
      · rw [s_S, if_neg (by omega), eBec_s (by omega)]; omega
      have xs : ∀ f j, s_ (pS (p_eBec P (6 * d + n) y z v) 86 d (n + 1)) f j = if f = 86 ∧ j = d then n + 1 else if (f = 103 ∨ f = 104 ∨ f = 105) ∧ j = 6 * d + n then 0 else if f = 102 ∧ j = 6 * d + n then v else if f = 101 ∧ j = 6 * d + n then z else if f = 100 ∧ j = 6 * d + n then y else s_ P f j := fun f j => by
        unfold p_eBec
        rw [s_S, s_eRs, s_B, s_S, s_S, s_S]
      have xb : ∀ c j, b_ (pS (p_eBec P (6 * d + n) y z v) 86 d (n + 1)) c j = if c = 1 ∧ j = 1 + (6 * d + n) then [] else b_ P c j := fun c j => by
        unfold p_eBec p_eRs
        rw [b_S, b_S, b_S, b_S, b_B, b_S, b_S, b_S]
      have xf : f_ (pS (p_eBec P (6 * d + n) y z v) 86 d (n + 1)) = f_ P := rfl
      dsimp only at hE ⊢
      generalize pS (p_eBec P (6 * d + n) y z v) 86 d (n + 1) = X at *
      have x86 : s_ X 86 d = n + 1 := by rw [xs, if_pos ⟨rfl, rfl⟩]
      have xo : ∀ f k, 100 ≤ f → f ≤ 105 → k < n → s_ X f (6 * d + k) = s_ P f (6 * d + k) := fun f k h1 h2 h3 => by
        rw [xs, if_neg (by omega), if_neg (by omega), if_neg (by omega), if_neg (by omega), if_neg (by omega)]
      have n100 : s_ X 100 (6 * d + n) = y := by rw [xs, if_neg (by omega), if_neg (by omega), if_neg (by omega), if_neg (by omega), if_pos ⟨rfl, rfl⟩]
      have n101 : s_ X 101 (6 * d + n) = z := by rw [xs, if_neg (by omega), if_neg (by omega), if_neg (by omega), if_pos ⟨rfl, rfl⟩]
      have n102 : s_ X 102 (6 * d + n) = v := by rw [xs, if_neg (by omega), if_neg (by omega), if_pos ⟨rfl, rfl⟩]
      have n103 : s_ X 103 (6 * d + n) = 0 := by rw [xs, if_neg (by omega), if_pos (by omega)]
      have n104 : s_ X 104 (6 * d + n) = 0 := by rw [xs, if_neg (by omega), if_pos (by omega)]
      have n105 : s_ X 105 (6 * d + n) = 0 := by rw [xs, if_neg (by omega), if_pos (by omega)]
      have nb : b_ X 1 (1 + (6 * d + n)) = [] := by rw [xb, if_pos ⟨rfl, rfl⟩]
      have ob : ∀ k, k ≠ n → b_ X 1 (1 + (6 * d + k)) = b_ P 1 (1 + (6 * d + k)) := fun k hk => by rw [xb, if_neg (by omega)]
      have ou : ∀ k, k < n → s_ P 100 (6 * d + k) ≠ y := fun k hk c => by
        have := ex_b hx 100 (6 * d + k)
        exact findI_none (k := k) ef (by omega) (by rw [c])
      have old := (f2.2.2.2.2.2.2.2.2.1 d hd).2.2.2.2.2.2.2.2
      have ib := (w1.2.2 d hd).1
      have ie := wi_IE w1.1 hd
      refine co_abs hC hE hd q4 (fun f j n1 n2 => ?_) (fun c j n1 n2 => ?_) xf ⟨fun k hk => ?_, fun k k' hk hk' ek => ?_⟩ (fun k hk => ?_) ?_ (fun k hk => ?_) (fun f j n1 n2 n3 => ?_) ?_ ?_ ?_ ?_ (fun j hj => ?_) (fun k hk => ?_)
      · rw [xs, if_neg (by omega), if_neg (by omega), if_neg (by omega), if_neg (by omega), if_neg (by omega)]
      · rw [xb, if_neg (by omega)]
      · rw [x86] at hk
        by_cases c : k = n
        · subst c; rw [n100, n101, n102]; omega
        · rw [xo 100 k (by omega) (by omega) (by omega), xo 101 k (by omega) (by omega) (by omega), xo 102 k (by omega) (by omega) (by omega)]
          exact old.1 k (by omega)
      · rw [x86] at hk hk'
        by_cases c : k = n
        · by_cases c' : k' = n
          · omega
          · rw [c, n100, xo 100 k' (by omega) (by omega) (by omega)] at ek
            exact absurd ek.symm (ou k' (by omega))
        · by_cases c' : k' = n
          · rw [c', n100, xo 100 k (by omega) (by omega) (by omega)] at ek
            exact absurd ek (ou k (by omega))
          · rw [xo 100 k (by omega) (by omega) (by omega), xo 100 k' (by omega) (by omega) (by omega)] at ek
            exact old.2 k k' (by omega) (by omega) ek
      · rw [x86] at hk
        by_cases c : k = n
        · subst c; rw [n101, n103, n105, nb]; exact ⟨by omega, by omega, by omega, by omega, by omega⟩
        · rw [xo 101 k (by omega) (by omega) (by omega), xo 103 k (by omega) (by omega) (by omega), xo 105 k (by omega) (by omega) (by omega), ob k c]
          exact ie k (by omega)
      · obtain ⟨i1, i2, i3, i4, i5, i6, i7, i8⟩ := ib
        refine ⟨by rw [xb, if_neg (by omega)]; exact i1, by rw [xb, if_neg (by omega)]; exact i2, fun k hk => ?_, ?_, ?_, ?_, by omega, fun k hk => ?_⟩
        · by_cases c : k = n
          · rw [c, nb]; intro x hx; cases hx
          · rw [ob k c]; exact i3 k hk
        · rw [xs, if_neg (by omega), if_neg (by omega), if_neg (by omega), if_neg (by omega), if_neg (by omega)]; exact i4
        · rw [xs, if_neg (by omega), if_neg (by omega), if_neg (by omega), if_neg (by omega), if_neg (by omega)]; exact i5
        · rw [xs, if_neg (by omega), if_neg (by omega), if_neg (by omega), if_neg (by omega), if_neg (by omega)]; exact i6
        · rw [x86] at hk
          by_cases c : k = n
          · subst c; rw [n100, n101, n102]; omega
          · rw [xo 100 k (by omega) (by omega) (by omega), xo 101 k (by omega) (by omega) (by omega), xo 102 k (by omega) (by omega) (by omega)]
            exact i8 k (by omega)
      · by_cases c : k = n
        · subst c; intro _; exact n105
        · rw [xs, if_neg (by omega), if_neg (by omega), if_neg (by omega), if_neg (by omega), if_neg (by omega), xs, if_neg (by omega), if_neg (by omega), if_neg (by omega), if_neg (by omega), if_neg (by omega)]
          exact f10 d k hd hk
      · simp only [u2_r]
        rw [if_neg (by omega), if_neg (by omega), if_neg (by omega), if_neg (by omega), if_neg (by omega), if_neg (by omega), if_neg (by omega), if_neg (by omega)]
      · simp only [u2_r, rowU_r, s_S, s_B, s_F, b_S, b_B, b_F, f_S, f_B, nfl_S, nfl_B, Nat.reduceEqDiff, false_and, and_false, true_and, and_true, and_self, if_true, if_false, reduceIte, ite_self, or_self, or_false, false_or, or_true, true_or, false_implies, implies_true, true_implies, Nat.reduceLeDiff, not_true_eq_false, not_false_eq_true, ne_eq]; rw [xs, if_neg (by omega), if_neg (by omega), if_neg (by omega), if_neg (by omega), if_neg (by omega)]; exact a6
      · simp only [u2_r, rowU_r, s_S, s_B, s_F, b_S, b_B, b_F, f_S, f_B, nfl_S, nfl_B, Nat.reduceEqDiff, false_and, and_false, true_and, and_true, and_self, if_true, if_false, reduceIte, ite_self, or_self, or_false, false_or, or_true, true_or, false_implies, implies_true, true_implies, Nat.reduceLeDiff, not_true_eq_false, not_false_eq_true, ne_eq]; rw [xs, if_neg (by omega), if_neg (by omega), if_neg (by omega), if_neg (by omega), if_neg (by omega)]; exact a7
      · simp only [u2_r, rowU_r, s_S, s_B, s_F, b_S, b_B, b_F, f_S, f_B, nfl_S, nfl_B, Nat.reduceEqDiff, false_and, and_false, true_and, and_true, and_self, if_true, if_false, reduceIte, ite_self, or_self, or_false, false_or, or_true, true_or, false_implies, implies_true, true_implies, Nat.reduceLeDiff, not_true_eq_false, not_false_eq_true, ne_eq]; rw [xs, if_neg (by omega), if_neg (by omega), if_neg (by omega), if_neg (by omega), if_neg (by omega)]; exact a8
      · simp only [u2_r, rowU_r, s_S, s_B, s_F, b_S, b_B, b_F, f_S, f_B, nfl_S, nfl_B, Nat.reduceEqDiff, false_and, and_false, true_and, and_true, and_self, if_true, if_false, reduceIte, ite_self, or_self, or_false, false_or, or_true, true_or, false_implies, implies_true, true_implies, Nat.reduceLeDiff, not_true_eq_false, not_false_eq_true, ne_eq]; rw [x86]
      · simp only [u2_r, rowU_r, s_S, s_B, s_F, b_S, b_B, b_F, f_S, f_B, nfl_S, nfl_B, Nat.reduceEqDiff, false_and, and_false, true_and, and_true, and_self, if_true, if_false, reduceIte, ite_self, or_self, or_false, false_or, or_true, true_or, false_implies, implies_true, true_implies, Nat.reduceLeDiff, not_true_eq_false, not_false_eq_true, ne_eq]; rw [xb, if_neg (by omega)]; exact a18 j hj
      · rw [x86] at hk
        by_cases c : k = n
        · subst c
          unfold RelE
          rw [n100, n101, n102, n103, n104, n105, nb]
          simp only [u2_r, rowU_r, s_S, s_B, s_F, b_S, b_B, b_F, f_S, f_B, nfl_S, nfl_B, Nat.reduceEqDiff, false_and, and_false, true_and, and_true, and_self, if_true, if_false, reduceIte, ite_self, or_self, or_false, false_or, or_true, true_or, false_implies, implies_true, true_implies, Nat.reduceLeDiff, not_true_eq_false, not_false_eq_true, ne_eq]
          exact ⟨rfl, fun j hj => absurd hj (Nat.not_lt_zero _)⟩
        · refine relE_ca (he k (by omega)) (fun f h1 h2 => xo f k (by omega) (by omega) (by omega)) (ob k c) (fun f h1 h2 => ?_) (fun j hj => ?_) (ex_1 hx hd (by omega))
          · simp only [u2_r]
            rw [if_neg (by omega), if_neg (by omega), if_neg (by omega), if_neg (by omega), if_neg (by omega), if_neg (by omega), if_neg (by omega), if_neg (by omega)]
          · simp only [u2_r, rowU_r, s_S, s_B, s_F, b_S, b_B, b_F, f_S, f_B, nfl_S, nfl_B, Nat.reduceEqDiff, false_and, and_false, true_and, and_true, and_self, if_true, if_false, reduceIte, ite_self, or_self, or_false, false_or, or_true, true_or, false_implies, implies_true, true_implies, Nat.reduceLeDiff, not_true_eq_false, not_false_eq_true, ne_eq]
  have i1 : isIn x2 → x2 < 1 → False := fun c c1 => by
    obtain ⟨j, e, j1, j2⟩ := nn_of_nlt (show (129 : Int32) = nI 129 from rfl) (by decide) (show (135 : Int32) = nI 135 from rfl) (by decide) c.1 c.2
    rw [e, li_1, nI_ltI (by omega) (by decide)] at c1; omega
  have k90 : ∀ (x5 : Int32) (z6 z7 : Option sm_V), ¬ isEp x2 x3 x4 → sm_Run (D + 2) 193 90 [some (.inr (some a)), some (.inl x1), some (.inl x2), some (.inl x3), some (.inl x4), some (.inl x5), z6, z7] [] M (CQ a ra P (p_endpoint P x1 x2 x3 x4)) := by
    intro x5 z6 z7 hn
    have go := fun g1 g2 => k118 x5 0 z7 g1 g2 (fun c => absurd rfl c) (fun _ => hn)
    exact bb_193_90 ⟨fun q => no (nd (Or.inl q)), fun q => ⟨fun q' => no (nd (Or.inr q')), fun q' => ⟨fun _ => go q q', fun _ => ⟨fun _ => no (ne hn), fun _ => ⟨fun _ => no (ne hn), fun _ => go q q'⟩⟩⟩⟩⟩
  have k50 : ∀ (x5 : Int32) (z6 z7 : Option sm_V), ((¬ x5 = 0 ∧ isIn x2) ∨ (x5 = 0 ∧ ¬ isIn x2)) → x4 = 0 → isBkI x3 → sm_Run (D + 2) 193 50 [some (.inr (some a)), some (.inl x1), some (.inl x2), some (.inl x3), some (.inl x4), some (.inl x5), z6, z7] [] M (CQ a ra P (p_endpoint P x1 x2 x3 x4)) := by
    intro x5 z6 z7 h5 h4 h3
    have go := fun (c : isIn x2 ∨ (¬ x2 < 1 ∧ x2 ≤ 7)) g1 g2 => k118 x5 1 z7 g1 g2 (fun _ => ⟨c, Or.inl ⟨h4, h3⟩⟩) (fun c => absurd c (by decide))
    refine bb_193_50 ⟨fun q => no (nd (Or.inl q)), fun q => ⟨fun q' => no (nd (Or.inr q')), fun q' => ⟨fun q5 => go ?_ q q', fun q5 => ⟨fun c => no (ne ?_), fun c => ⟨fun c' => no (ne ?_), fun c' => go ?_ q q'⟩⟩⟩⟩⟩
    · rcases h5 with c | c
      · exact Or.inl c.2
      · exact absurd c.1 q5
    · rw [Decidable.not_not] at q5
      rintro ⟨z | z, -⟩
      · rcases h5 with c | c
        · exact c.1 q5
        · exact c.2 z
      · exact z.1 c
    · rw [Decidable.not_not] at q5
      rintro ⟨z | z, -⟩
      · rcases h5 with c | c
        · exact c.1 q5
        · exact c.2 z
      · exact le_7.mp z.2 c'
    · exact Or.inr ⟨c, le_7.mpr c'⟩
  have nbk : x4 = 0 → ¬ isBkI x3 → ¬ isEp x2 x3 x4 := fun c c' => by
    rintro ⟨-, z | z⟩
    · exact c' z.2
    · exact z.1 c
  have k18 : ∀ (z5 z6 z7 : Option sm_V), ¬ isIn x2 → sm_Run (D + 2) 193 18 [some (.inr (some a)), some (.inl x1), some (.inl x2), some (.inl x3), some (.inl x4), z5, z6, z7] [] M (CQ a ra P (p_endpoint P x1 x2 x3 x4)) := by
    intro z5 z6 z7 hn
    have nv : ¬ x4 = 0 → ¬ isEp x2 x3 x4 := fun c => by
      rintro ⟨-, z | z⟩
      · exact c z.1
      · exact hn z.2.1
    refine bb_193_18 ⟨fun q => ⟨fun _ => k90 _ _ _ (nv q), fun _ => ⟨fun _ => k90 _ _ _ (nv q), fun _ => k90 _ _ _ (nv q)⟩⟩, fun q => ?_⟩
    rw [Decidable.not_not] at q
    refine ⟨fun c => k50 _ _ _ (Or.inr ⟨rfl, hn⟩) q (Or.inl c), fun c8 => ⟨fun c => k50 _ _ _ (Or.inr ⟨rfl, hn⟩) q (Or.inr (Or.inl c)), fun c16 => ⟨fun c => k50 _ _ _ (Or.inr ⟨rfl, hn⟩) q (Or.inr (Or.inr (Or.inl c))), fun c32 => ⟨fun c64 => ?_, fun c => k50 _ _ _ (Or.inr ⟨rfl, hn⟩) q (Or.inr (Or.inr (Or.inr (Decidable.not_not.mp c))))⟩⟩⟩⟩
    have nn := nbk q (by rintro (c | c | c | c); exact c8 c; exact c16 c; exact c32 c; exact c64 c)
    exact ⟨fun q => no (nd (Or.inl q)), fun q => ⟨fun q' => no (nd (Or.inr q')), fun q' => ⟨fun _ => no (ne nn), fun _ => ⟨fun _ => no (ne nn), fun _ => k118 _ _ _ q q' (fun c => absurd rfl c) (fun _ => nn)⟩⟩⟩⟩
  refine bb_193_0 ⟨fun q => k18 _ _ _ (fun c => c.1 q), fun q => ⟨fun q' => k18 _ _ _ (fun c => c.2 q'), fun q' => ⟨fun v0 => ?_, fun v0 => ?_⟩⟩⟩
  · have nx : x4 < 1 ∨ (255 : Int32) < x4 ∨ x3 < 1 ∨ (64 : Int32) < x3 → ¬ isEp x2 x3 x4 := by
      rintro c ⟨-, z | z⟩
      · exact v0 z.1
      · obtain ⟨-, -, z1, z2, z3, z4⟩ := z
        rcases c with c | c | c | c
        · exact z1 c
        · exact z2 c
        · exact z3 c
        · exact z4 c
    refine ⟨fun c => k90 _ _ _ (nx (Or.inl (le_i.mp c))), fun c1 => ⟨fun c => k90 _ _ _ (nx (Or.inr (Or.inl ((ge_i (n := 255) rfl rfl (by decide)).mp c)))), fun c2 => ⟨fun c => k90 _ _ _ (nx (Or.inr (Or.inr (Or.inl (le_i.mp c))))), fun c3 => ⟨fun c => k90 _ _ _ (nx (Or.inr (Or.inr (Or.inr ((ge_i (n := 64) rfl rfl (by decide)).mp c))))), fun c4 => ⟨fun q => no (nd (Or.inl q)), fun g1 => ⟨fun q' => no (nd (Or.inr q')), fun g2 => ?_⟩⟩⟩⟩⟩⟩
    exact k118 _ _ _ g1 g2 (fun _ => ⟨Or.inl ⟨q, q'⟩, Or.inr ⟨v0, ⟨q, q'⟩, fun c => c1 (le_i.mpr c), fun c => c2 ((ge_i (n := 255) rfl rfl (by decide)).mpr c), fun c => c3 (le_i.mpr c), fun c => c4 ((ge_i (n := 64) rfl rfl (by decide)).mpr c)⟩⟩) (fun c => absurd c (by decide))
  · rw [Decidable.not_not] at v0
    have hn : isIn x2 := ⟨q, q'⟩
    have f1 : (¬ (1 : Int32) = 0 ∧ isIn x2) ∨ ((1 : Int32) = 0 ∧ ¬ isIn x2) := Or.inl ⟨by decide, hn⟩
    refine ⟨fun c => k50 _ _ _ f1 v0 (Or.inl c), fun c8 => ⟨fun c => k50 _ _ _ f1 v0 (Or.inr (Or.inl c)), fun c16 => ⟨fun c => k50 _ _ _ f1 v0 (Or.inr (Or.inr (Or.inl c))), fun c32 => ⟨fun c64 => ?_, fun c => k50 _ _ _ f1 v0 (Or.inr (Or.inr (Or.inr (Decidable.not_not.mp c))))⟩⟩⟩⟩
    have nn := nbk v0 (by rintro (c | c | c | c); exact c8 c; exact c16 c; exact c32 c; exact c64 c)
    exact ⟨fun q => no (nd (Or.inl q)), fun g1 => ⟨fun q' => no (nd (Or.inr q')), fun g2 => k118 _ _ _ g1 g2 (fun c => absurd rfl c) (fun _ => nn)⟩⟩
end JF_
