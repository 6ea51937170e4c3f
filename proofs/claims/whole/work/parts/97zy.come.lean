/-! Calls, both sides: attach. -/
section JH_
variable {a : Nat} {ra : Nat → Nat} {R R' : Nat → Nat → Int32} {M : sm_M} {D : Nat} {P P' Q X : pP} {d k t i n m e : Nat} {x x1 x2 x3 x4 x5 x6 : Int32}
theorem arrL_s {f i : Nat} : ∀ n, s_ (p_arrL P d n) f i = if (f = 103 ∨ f = 104 ∨ f = 105) ∧ 6 * d ≤ i ∧ i < 6 * d + n then 0 else s_ P f i
  | 0 => by rw [if_neg (by omega)]; rfl
  | n + 1 => by
    show s_ (pB (p_eRs (p_arrL P d n) (6 * d + n)) 1 (1 + (6 * d + n)) []) f i = _
    rw [s_B, s_eRs, arrL_s n]
    by_cases c1 : (f = 103 ∨ f = 104 ∨ f = 105) ∧ i = 6 * d + n
    · rw [if_pos c1, if_pos (by omega)]
    · rw [if_neg c1]
      by_cases c2 : (f = 103 ∨ f = 104 ∨ f = 105) ∧ 6 * d ≤ i ∧ i < 6 * d + n
      · rw [if_pos c2, if_pos (by omega)]
      · rw [if_neg c2, if_neg (by omega)]
theorem arrL_b {c i : Nat} : ∀ n, b_ (p_arrL P d n) c i = if c = 1 ∧ 6 * d < i ∧ i < 6 * d + 1 + n then [] else b_ P c i
  | 0 => by rw [if_neg (by omega)]; rfl
  | n + 1 => by
    show b_ (pB (p_eRs (p_arrL P d n) (6 * d + n)) 1 (1 + (6 * d + n)) []) c i = _
    have e : b_ (p_eRs (p_arrL P d n) (6 * d + n)) c i = b_ (p_arrL P d n) c i := by unfold p_eRs; rw [b_S, b_S, b_S]
    rw [b_B, e, arrL_b n]
    by_cases c1 : c = 1 ∧ i = 1 + (6 * d + n)
    · rw [if_pos c1, if_pos (by omega)]
    · rw [if_neg c1]
      by_cases c2 : c = 1 ∧ 6 * d < i ∧ i < 6 * d + 1 + n
      · rw [if_pos c2, if_pos (by omega)]
      · rw [if_neg c2, if_neg (by omega)]
theorem arrL_f : ∀ n, f_ (p_arrL P d n) = f_ P
  | 0 => rfl
  | n + 1 => (arrL_f n :)
/-- a device comes, both sides, before the host asks -/
theorem co_come (hC : CO P R) (hE : EXO X) (hd : d < 6) (h83 : s_ P 83 d = 0) (hU : ∀ e, e < 6 → s_ P 83 e ≠ 1) (hs : ∀ f j, ¬ ((f = 83 ∨ f = 84 ∨ f = 89 ∨ f = 91 ∨ f = 60 ∨ f = 160 ∨ f = 161 ∨ f = 162 ∨ f = 164 ∨ f = 165) ∧ j = d) → ¬ (103 ≤ f ∧ f ≤ 105 ∧ 6 * d ≤ j ∧ j < 6 * d + 6) → s_ X f j = s_ P f j) (hb : ∀ c j, ¬ (c = 1 ∧ 6 * d < j ∧ j < 6 * d + 7) → b_ X c j = b_ P c j) (hf : f_ X = f_ P)
    (x83 : s_ X 83 d = 1) (x84 : s_ X 84 d = 0) (x89 : s_ X 89 d = 0) (x91 : s_ X 91 d = 0) (x60 : s_ X 60 d = 0) (x160 : s_ X 160 d = 1) (x161 : s_ X 161 d = 0) (x162 : s_ X 162 d = 8) (x164 : s_ X 164 d = 0) (x165 : s_ X 165 d = 0)
    (xe : ∀ k, k < s_ P 86 d → s_ X 103 (6 * d + k) = 0 ∧ s_ X 104 (6 * d + k) = 0 ∧ s_ X 105 (6 * d + k) = 0 ∧ b_ X 1 (1 + (6 * d + k)) = []) (x5 : ∀ k, k < 6 → s_ X 105 (6 * d + k) = s_ P 105 (6 * d + k) ∨ s_ X 105 (6 * d + k) = 0) (xb : ∀ k, k < 6 → b_ X 1 (1 + (6 * d + k)) = b_ P 1 (1 + (6 * d + k)) ∨ b_ X 1 (1 + (6 * d + k)) = [])
    (hr : ∀ f j, ¬ ((f = 4 ∨ f = 5 ∨ f = 19 ∨ f = 21 ∨ f = 28 ∨ f = 30 ∨ f = 57 ∨ f = 58 ∨ f = 59 ∨ f = 61) ∧ j = d) → ¬ (13 ≤ f ∧ f ≤ 16 ∧ 6 * d ≤ j ∧ j < 6 * d + 6) → R' f j = R f j) (r4 : R' 4 d = nI 1) (r5 : R' 5 d = nI 0) (r19 : R' 19 d = nI 0) (r21 : R' 21 d = nI 0) (r57 : R' 57 d = nI 1) (r58 : R' 58 d = nI 8) (r59 : R' 59 d = nI 0) (r61 : R' 61 d = nI 0) (rE : ∀ k, k < 6 → R' 13 (6 * d + k) = nI 0 ∧ R' 14 (6 * d + k) = nI 0 ∧ R' 15 (6 * d + k) = nI 0 ∧ R' 16 (6 * d + k) = nE 0) : CO X R' := by
  obtain ⟨⟨f1, f2, f3, f4, f5⟩, f6, f7, f8, f9, f10, f11⟩ := hC
  obtain ⟨w1, w2, w3, w4, hH⟩ := f1
  have hx := exo_ex hE
  have hx0 := w1.1.1
  have h6 : ∀ d, d < 6 → s_ P 86 d ≤ 6 := fun d hd => ex_86 hx0 hd
  have s1 : ∀ f j, f < 60 ∨ (60 < f ∧ f < 83) ∨ (84 < f ∧ f < 89) ∨ f = 90 ∨ (91 < f ∧ f < 103) ∨ (105 < f ∧ f < 160) ∨ 165 < f → s_ X f j = s_ P f j := fun f j h => hs f j (by omega) (by omega)
  have b1 : ∀ c j, c ≠ 1 → b_ X c j = b_ P c j := fun c j n1 => hb c j (by omega)
  have r1 : ∀ f j, f < 4 ∨ (5 < f ∧ f < 13) ∨ (16 < f ∧ f < 19) ∨ f = 20 ∨ (21 < f ∧ f < 28) ∨ f = 29 ∨ (30 < f ∧ f < 57) ∨ f = 60 ∨ 61 < f → R' f j = R f j := fun f j h => hr f j (by omega) (by omega)
  have so : ∀ e, e < 6 → e ≠ d → SO e P X := fun e he ne => ⟨fun f i o => by
    unfold own at o
    exact hs f i (by omega) (by omega), fun c i o => by
    unfold ownB at o
    exact hb c i (by omega)⟩
  have inv := inv_come f2 h6 hd h83 hs b1 x83 x160 x162 x164 x165
  obtain ⟨iG, iT, iW, iU, iF, iN, iR, iQ, iD, iI⟩ := id f2
  obtain ⟨z160, z164, z165, z200⟩ := (iD d hd).1 h83
  have e86 := s1 86 d (by omega)
  have hX := w3.1 d hd
  obtain ⟨g4, g5, g6, g7, g8, g9, g18, gE⟩ := rx_get hX
  have ie := wi_IE w1.1 hd
  have wx : WX X := by
    obtain ⟨⟨u1, u2, u3, u4, u5⟩, v2, v3⟩ := w1
    refine ⟨⟨hx, fun e he => ?_, fun e he => ?_, fun e e' he he' p p' => ?_, fun e e' he he' p p' q q' => ?_⟩, fun j hj hS => ?_, fun e he => ?_⟩
    · by_cases z : e = d
      · subst z
        have u := (u2 e he).2.1
        refine id_sh ⟨fun k hk => ?_, ?_, ?_⟩
        · rw [e86] at hk
          obtain ⟨y1, y2, y3, y4⟩ := xe k hk
          have := ie k hk
          rw [y1, y3, y4, s1 101 _ (by omega)]
          exact ⟨by omega, by omega, by omega, this.2.2.2.1, this.2.2.2.2⟩
        · unfold IZ at *
          rw [sh_a h83] at u
          simp only [s_S, s_B, s_F, b_S, b_B, b_F, f_S, f_B, Nat.reduceEqDiff, false_and, and_false, true_and, and_true, and_self, if_true, if_false, reduceIte, ite_self] at u
          rw [x60, s1 61 e (by omega), s1 64 e (by omega), s1 68 e (by omega), b1 29 e (by decide)]
          exact ⟨u.1, by omega, u.2.2.1, u.2.2.2.1, u.2.2.2.2.1, fun q => by omega, fun q => by omega⟩
        · unfold IW
          rw [x89]
          exact ⟨Or.inl rfl, fun q => by omega, fun q => by omega⟩
      · exact so_IDs (so e he z) (h6 e he) (u2 e he)
    · by_cases z : e = d
      · subst z
        unfold IA
        rw [x83, x84, x60]
        exact ⟨by omega, fun _ => rfl, fun c => by omega, fun c => by omega, fun c => by omega⟩
      · exact so_IA (so e he z) (u3 e he)
    · by_cases z : e = d
      · by_cases z' : e' = d
        · omega
        · rw [so_s (so e' he' z') (by decide)] at p'
          exact absurd p' (hU e' he')
      · rw [so_s (so e he z) (by decide)] at p
        exact absurd p (hU e he)
    · by_cases z : e = d
      · rw [z, x89] at q; omega
      · by_cases z' : e' = d
        · rw [z', x89] at q'; omega
        · rw [so_s (so e he z) (by decide)] at p q
          rw [so_s (so e' he' z') (by decide)] at p' q'
          exact u5 e e' he he' p p' q q'
    · rw [s1 228 0 (by omega)] at hS
      unfold PKo
      rw [s1 141 j (by omega), s1 142 j (by omega), s1 140 j (by omega), b1 7 j (by decide)]
      exact v2 j hj hS
    · by_cases z : e = d
      · subst z
        obtain ⟨i1, i2, i3, i4, i5, i6, i7, i8⟩ := (v3 e he).1
        refine ⟨⟨by rw [b1 28 e (by decide)]; exact i1, by rw [b1 29 e (by decide)]; exact i2, fun k hk => ?_, by rw [s1 80 e (by omega)]; exact i4, by rw [s1 81 e (by omega)]; exact i5, by rw [s1 82 e (by omega)]; exact i6, by rw [e86]; exact i7, fun k hk => ?_⟩, fun c => absurd x91 c⟩
        · rcases xb k hk with c | c
          · rw [c]; exact i3 k hk
          · rw [c]; intro x hx'; cases hx'
        · rw [e86] at hk
          rw [s1 100 _ (by omega), s1 101 _ (by omega), s1 102 _ (by omega)]
          exact i8 k hk
      · exact so_IK (so e he z) (v3 e he)
  have lk : LK P X := ⟨by rw [s1 228 0 (by omega)]; exact Nat.le_refl _, fun p _ _ => ⟨s1 _ _ (by omega), s1 _ _ (by omega), b1 _ _ (by decide), s1 _ _ (by omega), s1 _ _ (by omega)⟩, Or.inl ⟨s1 _ _ (by omega), b1 _ _ (by decide)⟩, fun p h1 h2 => by rw [s1 228 0 (by omega)] at h2; omega⟩
  have q61 : R 61 d = nI 0 := by
    have := (hH.2.1 d hd).2.2.2.1
    rw [z164] at this; exact this
  have hH' : HREL X R' := by
    refine hrel_pd (d := d) hH (fun t hw => z200 t ⟨hw.1, hw.2.1⟩) (fun e he c => ((iD e he).2.2.2.2.2.2.2.1 c).2.2.2.2.1) (fun t ht => (iT t ht).1) (fun f j hf n => ?_) (fun c j h => hb c j (by unfold hostB at h; omega)) (fun f j h n1 n2 => ?_) ⟨?_, ?_, ?_⟩
    · by_cases c : f = 164 ∧ j = d
      · rw [c.1, c.2, x164, z164]
      · exact hs f j (by omega) (by omega)
    · by_cases c : f = 61 ∧ j = d
      · rw [c.1, c.2, r61, q61]
      · exact hr f j (by omega) (by omega)
    · rw [x160]; exact r57
    · rw [x162]; exact r58
    · rw [x161, if_pos rfl]; exact r59
  refine ⟨⟨⟨wx, fun e he => ?_, ⟨fun e he => ?_, rf_cg w3.2.1 (s1 _ _ (by omega)) hf (fun f i hf => r1 f i (by omega)), ?_, fun i hi => ?_⟩, fun j hj hS => ?_, hH'⟩, inv, hE, relS_cg f4 (s1 128 0 (by omega)) (r1 69 0 (by omega)), fun i => by rw [s1 186 i (by omega), s1 126 0 (by omega)]; exact f5 i⟩, by rw [s1 228 0 (by omega), s1 126 0 (by omega)]; exact f6, dr_cg f7 (fun f j hf => s1 f j (by omega)), lc_lk f8 lk, lv_lk f9 lk, fun e k he hk => ?_, rb_cg f11 (fun c j h => hb c j (by omega))⟩
  · by_cases z : e = d
    · rw [z]; exact x91
    · rw [so_s (so e he z) (by decide)]; exact w2 e he
  · by_cases z : e = d
    · subst z
      unfold RelX at hX
      rw [sh_a h83, sdR_a h83] at hX
      obtain ⟨⟨a4, a5, a6, a7, a8, a9, a19, a20, a18⟩, hz, he'⟩ := hX
      obtain ⟨z60, z21, z23, z24, z26, z22, z22b, z2, z4, z5⟩ := hz
      simp only [u2_r, rowU_r, s_S, s_B, s_F, b_S, b_B, b_F, f_S, f_B, nfl_S, nfl_B, Nat.reduceEqDiff, false_and, and_false, true_and, and_true, and_self, if_true, if_false, reduceIte, ite_self, or_self, or_false, false_or, or_true, true_or, false_implies, implies_true, true_implies, Nat.reduceLeDiff, not_true_eq_false, not_false_eq_true, ne_eq] at a20 z23 z24 z26
      refine relX_D ⟨?_, ?_, fun k hk => ?_⟩
      · unfold RelA
        rw [x83, x84, x89, r4, r5, r19, r1 6 e (by omega), r1 7 e (by omega), r1 8 e (by omega), r1 9 e (by omega), r1 20 e (by omega), s1 80 e (by omega), s1 81 e (by omega), s1 82 e (by omega), e86, s1 90 e (by omega)]
        exact ⟨rfl, rfl, g6, g7, g8, g9, rfl, a20, fun j hj => by rw [r1 18 _ (by omega), b1 28 e (by decide)]; exact g18 j hj⟩
      · unfold RelZ
        rw [x60, r21, r1 23 e (by omega), r1 24 e (by omega), r1 26 e (by omega), s1 61 e (by omega), s1 65 e (by omega), s1 64 e (by omega)]
        refine ⟨by decide, rfl, z23, z24, z26, fun q => by omega, fun q => by omega, fun q => by omega, fun q => by omega, fun q => by omega⟩
      · rw [e86] at hk
        obtain ⟨y1, y2, y3, y4⟩ := xe k hk
        obtain ⟨t1, t2, t3, t4⟩ := rE k (by have := h6 e he; omega)
        obtain ⟨j10, j11, j12, -⟩ := gE k hk
        unfold RelE
        rw [y1, y2, y3, y4, t1, t2, t3, t4, r1 10 _ (by omega), r1 11 _ (by omega), r1 12 _ (by omega), s1 100 _ (by omega), s1 101 _ (by omega), s1 102 _ (by omega)]
        exact ⟨j10, j11, j12, rfl, rfl, rfl, rfl, fun j hj => absurd hj (Nat.not_lt_zero _)⟩
    · exact relX_cg (so e he z) (fun f i o n => hr f i (by unfold ownR at o; omega) (by unfold ownR at o; omega)) hx0 he (wi_HD w1.1 he) (w3.1 e he)
  · rw [r1 32 0 (by omega), s1 228 0 (by omega)]; exact w3.2.2.1
  · rw [r1 55 i (by omega)]; exact w3.2.2.2 i hi
  · rw [s1 228 0 (by omega)] at hS
    exact relK_cg (w4 j hj hS) (fun f hf => s1 f j (by omega)) (b1 7 j (by decide)) (fun f i hf => r1 f i (by omega))
  · intro c
    rw [s1 100 _ (by omega)] at c
    by_cases z : e = d
    · subst z
      rcases x5 k hk with c' | c'
      · rw [c']; exact f10 e k he hk c
      · exact c'
    · rw [hs 105 _ (by omega) (by omega)]; exact f10 e k he hk c
/-- attach -/
theorem r_attach (h : RM a ra R M) (hC : CO P R) : sm_Run (D + 3) 194 0 (sm_ent 194 [.inr (some a), .inl x1]) [] M (CQ a ra P (p_attach P x1)) := by
  obtain ⟨⟨f1, f2, f3, f4, f5⟩, f6, f7, f8, f9, f10, f11⟩ := id hC
  obtain ⟨w1, w2, w3, w4, hH⟩ := id f1
  have hx := exo_ex f3
  have hE : EXO (p_attach P x1).2 := by
    obtain ⟨n0, u0, g, M, hr, hg⟩ := f3
    obtain ⟨v, M', -, g', -, k1, k2⟩ := ru_ex (c_attach (D := 0) (x1 := x1) hr hg (hw_of f2 hx))
    exact ⟨n0, u0, g', M', k2, k1⟩
  have no : p_attach P x1 = (some 0, P) → CQ a ra P (p_attach P x1) (some (.inl 0)) M := fun c => by
    rw [c]; exact cq_same h hC _ rfl
  have nd : x1 < 0 ∨ (5 : Int32) < x1 → p_attach P x1 = (some 0, P) := fun c => by unfold p_attach; rw [devN_no c]
  have r70 : R 70 0 = nI (s_ P 122 0) := hH.1.2.2.1
  have b122 := ex_122 hx
  have key : ∀ (m i : Nat) (y : Int32), i + m = 6 → ((¬ y = 0) ↔ ∃ k, k < i ∧ s_ P 83 k = 1) → sm_Run (D + 3) 194 4 [some (.inr (some a)), some (.inl x1), some (.inl y), some (.inl (nI i))] [] M (CQ a ra P (p_attach P x1)) := by
    intro m
    induction m with
    | succ m ih =>
      intro i y hi hy
      have i6 : i < 6 := by omega
      have a4 := relX_4 (w3.1 i i6)
      have b83 := ex_b hx 83 i
      have cl : (nI i).toNatClampNeg = i := nI_clamp (by omega)
      have n1 : nI i + 1 = nI (i + 1) := nI_1 i
      refine bb_194_4 ⟨fun q => ?_, fun _ => ⟨fun q => ?_, fun q => ⟨h.1, ra 4, rd_r4 h, of_eq_true (rA_4 h), of_eq_true (rN_4 h i6), ?_⟩⟩⟩
      · rw [li_6, nI_leI (by decide) (by omega)] at q; omega
      · rw [n1]
        refine ih (i + 1) 1 (by omega) ⟨fun _ => ?_, fun _ => by decide⟩
        obtain ⟨k, k1, k2⟩ := hy.mp q
        exact ⟨k, by omega, k2⟩
      · rw [cl, rR_4 h, a4, li_1, nI_eq b83 (by decide), nI_add]
        refine ⟨fun z => ih (i + 1) 0 (by omega) ⟨fun c => absurd rfl c, fun ⟨k, k1, k2⟩ => ?_⟩, fun z => ih (i + 1) _ (by omega) ⟨fun _ => ⟨i, by omega, Decidable.not_not.mp z⟩, fun _ => by decide⟩⟩
        by_cases c : k = i
        · exact absurd (by rw [← c]; exact k2) z
        · exact absurd (hy.mpr ⟨k, by omega, k2⟩) q
    | zero =>
      intro i y hi hy
      obtain rfl : i = 6 := by omega
      refine bb_194_4 ⟨fun _ => ⟨fun q => no (nd (Or.inl q)), fun g1 => ⟨fun q => no (nd (Or.inr q)), fun g2 => ?_⟩⟩, fun q => absurd (by decide) q⟩
      obtain ⟨d, hd, rfl, e⟩ := devN_ge g1 g2
      have pe : p_attach P (nI d) = if s_ P 83 d ≠ 0 ∨ p_hasDef P = true ∨ 290 ≤ s_ P 122 0 then (some 0, P) else (some 1, p_bfind (p_arrive P d) d) := by unfold p_attach; rw [e]
      have cl : (nI d).toNatClampNeg = d := nI_clamp (by omega)
      have a4 := relX_4 (w3.1 d hd)
      have b83 := ex_b hx 83 d
      refine ⟨fun q => no ?_, fun q => ⟨h.1, ?_⟩⟩
      · obtain ⟨k, k1, k2⟩ := hy.mp q
        rw [pe, if_pos (Or.inr (Or.inl ?_))]
        unfold p_hasDef
        rw [List.any_eq_true]
        exact ⟨k, List.mem_range.mpr k1, by simp [k2]⟩
      have hU : ∀ e, e < 6 → s_ P 83 e ≠ 1 := fun k k6 c => q (hy.mpr ⟨k, k6, c⟩)
      have nD : ¬ p_hasDef P = true := fun c => by
        unfold p_hasDef at c
        rw [List.any_eq_true] at c
        obtain ⟨k, k1, k2⟩ := c
        exact hU k (List.mem_range.mp k1) (by simpa using k2)
      rw [rS_70 h, r70, show (290 : Int32) = nI 290 from rfl, nI_ltI (by omega) (by decide)]
      refine ⟨fun t290 => ⟨ra 4, rd_r4 h, of_eq_true (rA_4 h), of_eq_true (rN_4 h hd), ?_⟩, fun c => no (by rw [pe, if_pos (Or.inr (Or.inr (by omega)))])⟩
      rw [cl, rR_4 h, a4, li_0, nI_eq b83 (by decide)]
      refine ⟨fun h83 => ?_, fun c => no (by rw [pe, if_pos (Or.inl c)])⟩
      rw [if_neg (by rintro (c | c | c); exact c h83; exact nD c; omega)] at pe
      rw [li_m1]
      have k1 := rm_wr h (f := 4) (j := d) (v := 1)
      have k2 := rm_wr k1 (f := 5) (j := d) (v := nI 0)
      have k3 := rm_wr k2 (f := 19) (j := d) (v := nI 0)
      have k4 := rm_wr k3 (f := 21) (j := d) (v := nI 0)
      have k5 := rm_wr k4 (f := 28) (j := d) (v := nE 0)
      have k6 := rm_wr k5 (f := 30) (j := d) (v := nE 0)
      refine ⟨ra 4, rd_r4 h, of_eq_true (rW_4 h), of_eq_true (rN_4 h hd), ra 5, rd_r5 k1, of_eq_true (rW_5 h), of_eq_true (rN_5 h hd), ra 19, rd_r19 k2, of_eq_true (rW_19 h), of_eq_true (rN_19 h hd), ra 21, rd_r21 k3, of_eq_true (rW_21 h), of_eq_true (rN_21 h hd), ra 28, rd_r28 k4, of_eq_true (rW_28 h), of_eq_true (rN_28 h hd), ra 30, rd_r30 k5, of_eq_true (rW_30 h), of_eq_true (rN_30 h hd), ?_⟩
      have c6 : (6 : Int32) * nI d = nI (6 * d) := by rw [li_6, pk_mul]
      rw [c6]
      generalize hR1 : sm_u2 (sm_u2 (sm_u2 (sm_u2 (sm_u2 (sm_u2 R 4 d 1) 5 d (nI 0)) 19 d (nI 0)) 21 d (nI 0)) 28 d (nE 0)) 30 d (nE 0) = R1 at k6
      have o1 : ∀ f j, R1 f j = if f = 30 ∧ j = d then nE 0 else if f = 28 ∧ j = d then nE 0 else if f = 21 ∧ j = d then nI 0 else if f = 19 ∧ j = d then nI 0 else if f = 5 ∧ j = d then nI 0 else if f = 4 ∧ j = d then 1 else R f j := fun f j => by
        rw [← hR1, u2_r, u2_r, u2_r, u2_r, u2_r, u2_r]
      have lp : ∀ (m i : Nat) (R2 : Nat → Nat → Int32) (M : sm_M), i + m = 6 → RM a ra R2 M → (∀ k, k < i → R2 13 (6 * d + k) = nI 0 ∧ R2 14 (6 * d + k) = nI 0 ∧ R2 15 (6 * d + k) = nI 0 ∧ R2 16 (6 * d + k) = nE 0) → (∀ f j, ¬ (13 ≤ f ∧ f ≤ 16 ∧ 6 * d ≤ j ∧ j < 6 * d + 6) → R2 f j = R1 f j) → sm_Run (D + 3) 194 119 [some (.inr (some a)), some (.inl (nI d)), some (.inl y), some (.inl (nI (6 * d + i)))] [] M (CQ a ra P (p_attach P (nI d))) := by
        have c12 : (6 : Int32) * nI d + 6 = nI (6 * d + 6) := by rw [li_6, pk_mul, nI_add]
        intro m
        induction m with
        | succ m ih =>
          intro i R2 M2 hi h2 hz ho
          have e36 : 6 * d + i < 36 := by omega
          have clE : (nI (6 * d + i)).toNatClampNeg = 6 * d + i := nI_clamp (by omega)
          have j1 := rm_wr h2 (f := 13) (j := 6 * d + i) (v := nI 0)
          have j2 := rm_wr j1 (f := 14) (j := 6 * d + i) (v := nI 0)
          have j3 := rm_wr j2 (f := 15) (j := 6 * d + i) (v := nI 0)
          have j4 := rm_wr j3 (f := 16) (j := 6 * d + i) (v := nE 0)
          refine bb_194_119 ⟨fun q => ?_, fun _ => ⟨h2.1, ra 13, rd_r13 h2, of_eq_true (rW_13 h2), of_eq_true (rN_13 h2 e36), ra 14, ?_⟩⟩
          · rw [c12, nI_leI (by omega) (by omega)] at q; omega
          rw [clE, nI_1]
          refine ⟨rd_r14 j1, of_eq_true (rW_14 h2), of_eq_true (rN_14 h2 e36), ra 15, rd_r15 j2, of_eq_true (rW_15 h2), of_eq_true (rN_15 h2 e36), ra 16, rd_r16 j3, of_eq_true (rW_16 h2), of_eq_true (rN_16 h2 e36), ?_⟩
          refine ih (i + 1) _ _ (by omega) j4 (fun k hk => ?_) (fun f j n => ?_)
          · simp only [u2_r]
            by_cases c : k = i
            · subst c
              simp
            · have := hz k (by omega)
              rw [if_neg (by omega), if_neg (by omega), if_neg (by omega), if_neg (by omega), if_neg (by omega), if_neg (by omega), if_neg (by omega), if_neg (by omega), if_neg (by omega), if_neg (by omega), if_neg (by omega), if_neg (by omega), if_neg (by omega), if_neg (by omega), if_neg (by omega), if_neg (by omega)]
              exact this
          · rw [u2_r, if_neg (by omega), u2_r, if_neg (by omega), u2_r, if_neg (by omega), u2_r, if_neg (by omega)]
            exact ho f j n
        | zero =>
          intro i R2 M2 hi h2 hz ho
          obtain rfl : i = 6 := by omega
          have j1 := rm_wr h2 (f := 57) (j := d) (v := 1)
          have j2 := rm_wr j1 (f := 58) (j := d) (v := 8)
          have j3 := rm_wr j2 (f := 59) (j := d) (v := nI 0)
          have j4 := rm_wr j3 (f := 61) (j := d) (v := nI 0)
          refine bb_194_119 ⟨fun _ => ⟨h2.1, ra 57, rd_r57 h2, of_eq_true (rW_57 h2), of_eq_true (rN_57 h2 hd), ra 58, ?_⟩, fun q => ?_⟩
          rotate_left
          · rw [c12] at q; exact absurd (nI_le (Nat.le_refl _) (by omega)) q
          rw [cl]
          refine ⟨rd_r58 j1, of_eq_true (rW_58 h2), of_eq_true (rN_58 h2 hd), ra 59, rd_r59 j2, of_eq_true (rW_59 h2), of_eq_true (rN_59 h2 hd), ra 61, rd_r61 j3, of_eq_true (rW_61 h2), of_eq_true (rN_61 h2 hd), ?_⟩
          generalize hR0 : sm_u2 (sm_u2 (sm_u2 (sm_u2 R2 57 d 1) 58 d 8) 59 d (nI 0)) 61 d (nI 0) = R0 at j4
          have o0 : ∀ f j, R0 f j = if f = 61 ∧ j = d then nI 0 else if f = 59 ∧ j = d then nI 0 else if f = 58 ∧ j = d then 8 else if f = 57 ∧ j = d then 1 else R2 f j := fun f j => by
            rw [← hR0, u2_r, u2_r, u2_r, u2_r]
          have oR : ∀ f j, f < 57 → ¬ (13 ≤ f ∧ f ≤ 16 ∧ 6 * d ≤ j ∧ j < 6 * d + 6) → R0 f j = R1 f j := fun f j n1 n2 => by
            rw [o0, if_neg (by omega), if_neg (by omega), if_neg (by omega), if_neg (by omega)]; exact ho f j n2
          -- the pure side
          have hE0 : EXO (p_prst (p_arrive P d) d 1) := by
            obtain ⟨n0, u0, g, M, hr, hg⟩ := f3
            obtain ⟨v, M', -, q1⟩ := ru_ex (c_arrive (D := 0) hr hd)
            obtain ⟨v', M'', -, q2⟩ := ru_ex (c_prst (D := 0) (k := 1) q1 hd (by decide))
            exact ⟨n0, u0, g, M'', q2, gO_cg hg (by rw [prst_s (by decide), arrive_s (by decide)]) (by rw [prst_s (by decide), arrive_s (by decide)])⟩
          have xs : ∀ f j, s_ (p_prst (p_arrive P d) d 1) f j = if f = 165 ∧ j = d then 0 else if f = 164 ∧ j = d then 0 else if f = 162 ∧ j = d then 8 else if f = 161 ∧ j = d then 0 else if f = 160 ∧ j = d then 1 else if (f = 103 ∨ f = 104 ∨ f = 105) ∧ 6 * d ≤ j ∧ j < 6 * d + s_ P 86 d then 0 else if f = 60 ∧ j = d then 0 else if f = 91 ∧ j = d then 0 else if f = 89 ∧ j = d then 0 else if f = 84 ∧ j = d then 0 else if f = 83 ∧ j = d then 1 else s_ P f j := fun f j => by
            unfold p_prst p_arrive
            rw [s_S, s_S, s_S, s_S, s_S, arrL_s]
            unfold p_arr0
            rw [s_S, s_S, s_S, s_S, s_S]
          have xb : ∀ c j, b_ (p_prst (p_arrive P d) d 1) c j = if c = 1 ∧ 6 * d < j ∧ j < 6 * d + 1 + s_ P 86 d then [] else b_ P c j := fun c j => by
            unfold p_prst p_arrive
            rw [b_S, b_S, b_S, b_S, b_S, arrL_b]
            unfold p_arr0
            rw [b_S, b_S, b_S, b_S, b_S]
          have xf : f_ (p_prst (p_arrive P d) d 1) = f_ P := by
            unfold p_prst p_arrive
            show f_ (p_arrL (p_arr0 P d) d (s_ P 86 d)) = _
            rw [arrL_f]; rfl
          have pe' : p_attach P (nI d) = (some 1, p_fnd (p_prst (p_arrive P d) d 1) d 1 0) := pe
          rw [pe'] at hE ⊢
          generalize p_prst (p_arrive P d) d 1 = X at *
          have e6 := ex_86 hx hd
          have cx : CO X R0 := by
            refine co_come hC hE0 hd h83 hU (fun f j n1 n2 => ?_) (fun c j n1 => ?_) xf ?_ ?_ ?_ ?_ ?_ ?_ ?_ ?_ ?_ ?_ (fun k hk => ⟨?_, ?_, ?_, ?_⟩) (fun k hk => ?_) (fun k hk => ?_) (fun f j n1 n2 => ?_) ?_ ?_ ?_ ?_ ?_ ?_ ?_ ?_ (fun k hk => ⟨?_, ?_, ?_, ?_⟩)
            · rw [xs, if_neg (by omega), if_neg (by omega), if_neg (by omega), if_neg (by omega), if_neg (by omega), if_neg (by omega), if_neg (by omega), if_neg (by omega), if_neg (by omega), if_neg (by omega), if_neg (by omega)]
            · rw [xb, if_neg (by omega)]
            · simp [xs]
            · simp [xs]
            · simp [xs]
            · simp [xs]
            · simp [xs]
            · simp [xs]
            · simp [xs]
            · simp [xs]
            · simp [xs]
            · simp [xs]
            · rw [xs, if_neg (by omega), if_neg (by omega), if_neg (by omega), if_neg (by omega), if_neg (by omega), if_pos (by omega)]
            · rw [xs, if_neg (by omega), if_neg (by omega), if_neg (by omega), if_neg (by omega), if_neg (by omega), if_pos (by omega)]
            · rw [xs, if_neg (by omega), if_neg (by omega), if_neg (by omega), if_neg (by omega), if_neg (by omega), if_pos (by omega)]
            · rw [xb, if_pos (by omega)]
            · rw [xs, if_neg (by omega), if_neg (by omega), if_neg (by omega), if_neg (by omega), if_neg (by omega)]
              split
              · exact Or.inr rfl
              · rw [if_neg (by omega), if_neg (by omega), if_neg (by omega), if_neg (by omega), if_neg (by omega)]; exact Or.inl rfl
            · rw [xb]
              split
              · exact Or.inr rfl
              · exact Or.inl rfl
            · rw [o0, if_neg (by omega), if_neg (by omega), if_neg (by omega), if_neg (by omega), ho f j n2, o1, if_neg (by omega), if_neg (by omega), if_neg (by omega), if_neg (by omega), if_neg (by omega), if_neg (by omega)]
            · rw [oR 4 d (by omega) (by omega), o1]; simp; rfl
            · rw [oR 5 d (by omega) (by omega), o1]; simp
            · rw [oR 19 d (by omega) (by omega), o1]; simp
            · rw [oR 21 d (by omega) (by omega), o1]; simp
            · rw [o0]; simp; rfl
            · rw [o0]; simp; rfl
            · rw [o0]; simp
            · rw [o0]; simp
            · rw [o0, if_neg (by omega), if_neg (by omega), if_neg (by omega), if_neg (by omega)]; exact (hz k hk).1
            · rw [o0, if_neg (by omega), if_neg (by omega), if_neg (by omega), if_neg (by omega)]; exact (hz k hk).2.1
            · rw [o0, if_neg (by omega), if_neg (by omega), if_neg (by omega), if_neg (by omega)]; exact (hz k hk).2.2.1
            · rw [o0, if_neg (by omega), if_neg (by omega), if_neg (by omega), if_neg (by omega)]; exact (hz k hk).2.2.2
          obtain ⟨⟨c1, c2, c3, c4, c5⟩, c6', c7, c8, c9, c10, c11⟩ := id cx
          have x122 : s_ X 122 0 = s_ P 122 0 := by rw [xs]; simp
          have x83 : s_ X 83 d = 1 := by simp [xs]
          have x60 : s_ X 60 d = 0 := by simp [xs]
          have x160 : s_ X 160 d = 1 := by simp [xs]
          have x161 : s_ X 161 d = 0 := by simp [xs]
          have hx1 := exo_ex hE0
          obtain ⟨iG, iT, iW, iU, iF, iN, iR, iQ, iD, iI⟩ := id c2
          have n165 : ∀ e, s_ X 165 e ≤ s_ X 122 0 := fun e => by
            by_cases c : e < 6
            · exact ex_165 hx1 c
            · rw [iG.2.2.2.2.2.2.2.2.2 e (by omega)]; exact Nat.zero_le _
          have nw : ∀ t', wtc X t' → s_ X 200 t' ≠ d := fun t' hw => by
            have := ((f2.2.2.2.2.2.2.2.2.1 d hd).1 h83).2.2.2 t'
            unfold wtc at hw
            unfold wtg at this
            rw [x122, xs 211 t'] at hw
            rw [xs 200 t']
            simp at hw
            simp
            exact this ⟨hw.1, hw.2.1⟩
          refine ru_mono (r_next0 (D := D) (s := 1) (tot := 0) j4 c1.2.2.2.2 (fun t ht => ex_36 hx1 ht) (by omega) hd (by decide) nw iG.2.2.2.2.2.1 n165 (fun c => by omega) (fun c => by omega)) ?_
          rintro v M3 ⟨rfl, R', h3, hh, -, hk⟩
          have iv : INV (p_fnd X d 1 0) := by
            refine inv_fnd c2 hd (by decide) (by omega) x160 ⟨fun _ => x161, fun _ => Or.inl rfl⟩ nw (fun _ => ⟨x83, fun c => by omega, fun c => by omega⟩) (fun c => by omega) (fun c => by omega) (fun c => by omega) ⟨fun _ => 5, fun _ => Nat.le_refl _, fun t' _ n => (by show 6 ≤ s_ X 208 t' + 5; omega), Nat.le_refl _, ?_⟩ n165
            have : sum6 (fun _ => 5) = 30 := rfl
            omega
          have dr : DR (p_fnd X d 1 0) := by
            unfold p_fnd
            exact dr_cg (dr_addC c7) (fun f j hf => by rw [s_n (by omega)])
          refine bb_194_199 ⟨rfl, R', h3, co_ho cx hE (rb_cg c11 (fun c j hc => fnd_b (by omega))) iv dr fho_fnd (fun f j hf => fnd_o (by omega) (by omega) (by omega)) (fun f i hf => hk f i (by omega)) hh, ?_⟩
          show s_ (p_fnd X d 1 0) 126 0 ≤ _
          rw [fnd_o (by decide) (by decide) (by omega), xs]
          simp
      exact lp 6 0 R1 _ rfl k6 (fun k hk => absurd hk (Nat.not_lt_zero _)) (fun f j _ => rfl)
  exact bb_194_0 (key 6 0 0 rfl ⟨fun c => absurd rfl c, fun ⟨k, k1, _⟩ => absurd k1 (Nat.not_lt_zero _)⟩)
end JH_
