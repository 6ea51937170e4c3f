/-! Calls, both sides: detach. -/
section JC_
variable {a : Nat} {ra : Nat → Nat} {R R' : Nat → Nat → Int32} {M : sm_M} {D : Nat} {P P' Q X : pP} {d k t i n m e : Nat} {x x1 : Int32}
/-- what a detach leaves, both sides -/
theorem co_gone (hC : CO P R) (hE : EXO X) (hd : d < 6) (hp : s_ P 83 d ≠ 0) (hs : ∀ f j, f ≠ 123 → f ≠ 211 → ¬ ((f = 83 ∨ f = 84 ∨ f = 160 ∨ f = 161 ∨ f = 162 ∨ f = 164 ∨ f = 165) ∧ j = d) → s_ X f j = s_ P f j) (hb : ∀ c j, b_ X c j = b_ P c j) (hf : f_ X = f_ P) (h83 : s_ X 83 d = 0) (h84 : s_ X 84 d = 0) (h160 : s_ X 160 d = 0) (h161 : s_ X 161 d = 0) (h162 : s_ X 162 d = 8) (h164 : s_ X 164 d = 0) (h165 : s_ X 165 d = 0) (h211 : ∀ t, s_ X 211 t = if t < s_ P 122 0 ∧ s_ P 200 t = d ∧ s_ P 211 t = 0 then 3 else s_ P 211 t) (h123 : s_ X 123 0 = cntN (s_ X 211) (s_ P 122 0)) (hr : ∀ f j, ¬ ((f = 4 ∨ f = 5 ∨ f = 57 ∨ f = 58 ∨ f = 59 ∨ f = 61) ∧ j = d) → f ≠ 73 → R' f j = R f j) (r4 : R' 4 d = nI 0) (r5 : R' 5 d = nI 0) (r57 : R' 57 d = nI 0) (r58 : R' 58 d = nI 8) (r59 : R' 59 d = nI 0) (r61 : R' 61 d = nI 0) (r73 : ∀ t, t < s_ P 122 0 → R' 73 t = nI (s_ X 211 t)) : CO X R' := by
  obtain ⟨⟨f1, f2, f3, f4, f5⟩, f6, f7, f8, f9, f10, f11⟩ := hC
  obtain ⟨w1, w2, w3, w4, hH⟩ := f1
  have hx := exo_ex hE
  have hx0 := w1.1.1
  have h6 : ∀ d, d < 6 → s_ P 86 d ≤ 6 := fun d hd => ex_86 hx0 hd
  have s1 : ∀ f j, f < 83 ∨ (84 < f ∧ f < 123) ∨ (123 < f ∧ f < 160) ∨ (165 < f ∧ f < 211) ∨ 211 < f → s_ X f j = s_ P f j := fun f j h => hs f j (by omega) (by omega) (by omega)
  have so : ∀ e, e ≠ d → SO e P X := fun e ne => ⟨fun f i o => by
    unfold own at o
    exact hs f i (by omega) (by omega) (by omega), fun c i _ => hb c i⟩
  have inv := inv_gone f2 h6 hd hs hb h160 h162 h164 h165 h211 h123
  have fc : ∀ e w, p_find X e w = p_find P e w := fun e w => by
    unfold p_find
    rw [s1 86 e (by omega)]
    simp only [s1 100 _ (by omega)]
  have wx : WX X := by
    obtain ⟨⟨u1, u2, u3, u4, u5⟩, v2, v3⟩ := w1
    refine ⟨⟨hx, fun e he => ?_, fun e he => ?_, fun e e' he he' p p' => ?_, fun e e' he he' p p' q q' => ?_⟩, fun j hj hS => ?_, fun e he => ?_⟩
    · by_cases z : e = d
      · subst z
        have := sh_ID (u2 e he) hp
        refine id_sh ?_
        unfold ID IE IZ IW nfl at *
        rw [fc]
        simp (disch := omega) only [s1, hb]
        exact this
      · exact so_IDs (so e z) (h6 e he) (u2 e he)
    · have := u3 e he
      by_cases z : e = d
      · subst z
        unfold IA at *
        rw [h83, h84, s1 60 e (by omega), s1 67 e (by omega)]
        exact ⟨by omega, fun _ => rfl, fun c => by omega, fun c1 c2 => ⟨(this.2.2.2.1 c1 c2).1, by omega⟩, this.2.2.2.2⟩
      · exact so_IA (so e z) this
    · by_cases z : e = d
      · rw [z, h83] at p; omega
      · by_cases z' : e' = d
        · rw [z', h83] at p'; omega
        · rw [so_s (so e z) (by decide)] at p
          rw [so_s (so e' z') (by decide)] at p'
          exact u4 e e' he he' p p'
    · by_cases z : e = d
      · rw [z, h83] at p; omega
      · by_cases z' : e' = d
        · rw [z', h83] at p'; omega
        · rw [so_s (so e z) (by decide)] at p q
          rw [so_s (so e' z') (by decide)] at p' q'
          exact u5 e e' he he' p p' q q'
    · rw [s1 228 0 (by omega)] at hS
      unfold PKo
      rw [s1 141 j (by omega), s1 142 j (by omega), s1 140 j (by omega), hb 7 j]
      exact v2 j hj hS
    · have := v3 e he
      unfold IK IB AK at *
      simp (disch := omega) only [s1, hb]
      exact this
  have lk : LK P X := ⟨by rw [s1 228 0 (by omega)]; exact Nat.le_refl _, fun p _ _ => ⟨s1 _ _ (by omega), s1 _ _ (by omega), hb _ _, s1 _ _ (by omega), s1 _ _ (by omega)⟩, Or.inl ⟨s1 _ _ (by omega), hb _ _⟩, fun p h1 h2 => by rw [s1 228 0 (by omega)] at h2; omega⟩
  have r1 : ∀ f j, f ≠ 4 → f ≠ 5 → f ≠ 57 → f ≠ 58 → f ≠ 59 → f ≠ 61 → f ≠ 73 → R' f j = R f j := fun f j n1 n2 n3 n4 n5 n6 n7 => hr f j (by omega) n7
  have hH' : HREL X R' := by
    obtain ⟨⟨a1, a2, a3, -⟩, b1, b2, b3, b4, b5⟩ := hH
    refine ⟨⟨?_, ?_, ?_, trivial⟩, fun e he => ?_, fun t ht => ?_, ?_, fun i hi => ?_, fun i hi => ?_⟩
    · rw [r1 _ _ (by decide) (by decide) (by decide) (by decide) (by decide) (by decide) (by decide), s1 _ _ (by omega)]; exact a1
    · rw [r1 _ _ (by decide) (by decide) (by decide) (by decide) (by decide) (by decide) (by decide), s1 _ _ (by omega)]; exact a2
    · rw [r1 _ _ (by decide) (by decide) (by decide) (by decide) (by decide) (by decide) (by decide), s1 _ _ (by omega)]; exact a3
    · by_cases z : e = d
      · subst z
        unfold RelP
        rw [h160, h162, h161, h164, if_pos rfl]
        exact ⟨r57, r58, r59, r61, fun k hk => absurd hk (Nat.not_lt_zero _)⟩
      · have := b1 e he
        unfold RelP RelQ pid at *
        rw [hr 57 e (by omega) (by decide), hr 58 e (by omega) (by decide), hr 59 e (by omega) (by decide), hr 61 e (by omega) (by decide), hs 160 e (by decide) (by decide) (by omega), hs 161 e (by decide) (by decide) (by omega), hs 162 e (by decide) (by decide) (by omega), hs 164 e (by decide) (by decide) (by omega)]
        simp (disch := omega) only [s1, r1]
        exact this
    · rw [s1 122 0 (by omega)] at ht
      obtain ⟨t1, t2, t3, t4, t5, t6, t7, t8⟩ := b2 t ht
      unfold RelT
      rw [r73 t ht, s1 200 t (by omega), s1 213 t (by omega), s1 180 _ (by omega), s1 210 t (by omega), s1 212 t (by omega), s1 203 t (by omega), hb 36 t]
      rw [r1 71 t (by decide) (by decide) (by decide) (by decide) (by decide) (by decide) (by decide), r1 72 t (by decide) (by decide) (by decide) (by decide) (by decide) (by decide) (by decide), r1 74 t (by decide) (by decide) (by decide) (by decide) (by decide) (by decide) (by decide), r1 75 t (by decide) (by decide) (by decide) (by decide) (by decide) (by decide) (by decide), r1 76 t (by decide) (by decide) (by decide) (by decide) (by decide) (by decide) (by decide)]
      refine ⟨t1, t2, rfl, t4, t5, t6, fun i hi c => by rw [r1 81 _ (by decide) (by decide) (by decide) (by decide) (by decide) (by decide) (by decide)]; exact t7 i hi c, fun c => ?_⟩
      obtain ⟨c1, c2, c3⟩ := t8 c
      unfold RelC su at *
      simp (disch := decide) only [r1]
      rw [s1 208 t (by omega), s1 205 t (by omega), s1 206 t (by omega), s1 207 t (by omega), s1 209 t (by omega), s1 200 t (by omega), s1 185 0 (by omega), hb 36 t]
      refine ⟨c1, c2, fun z => ?_⟩
      rw [h211] at z
      split at z
      · omega
      · rename_i y
        have nd : s_ P 200 t ≠ d := fun q => y ⟨ht, q, z⟩
        rw [hs 165 _ (by decide) (by decide) (by omega), hb]
        exact c3 z
    · rw [r1 _ _ (by decide) (by decide) (by decide) (by decide) (by decide) (by decide) (by decide), hb]; exact b3
    · rw [hb] at hi ⊢
      rw [r1 _ _ (by decide) (by decide) (by decide) (by decide) (by decide) (by decide) (by decide)]; exact b4 i hi
    · rw [hb, r1 _ _ (by decide) (by decide) (by decide) (by decide) (by decide) (by decide) (by decide)]; exact b5 i hi
  refine ⟨⟨⟨wx, fun e he => by rw [s1 91 e (by omega)]; exact w2 e he, ⟨fun e he => ?_, rf_cg w3.2.1 (s1 _ _ (by omega)) hf (fun f i hf => hr f i (by omega) (by omega)), ?_, fun i hi => ?_⟩, fun j hj hS => ?_, hH'⟩, inv, hE, relS_cg f4 (s1 128 0 (by omega)) (hr 69 0 (by omega) (by decide)), fun i => by rw [s1 186 i (by omega), s1 126 0 (by omega)]; exact f5 i⟩, by rw [s1 228 0 (by omega), s1 126 0 (by omega)]; exact f6, dr_cg f7 (fun f j hf => s1 f j (by omega)), lc_lk f8 lk, lv_lk f9 lk, i5_j5 f10 (j5_e (fun f i hf => s1 f i (by omega))), rb_cg f11 (fun c j _ => hb c j)⟩
  · by_cases z : e = d
    · subst z
      obtain ⟨⟨a4, a5, a6, a7, a8, a9, a19, a20, a18⟩, hz, he'⟩ := relD_X (w3.1 e he) hp
      refine relX_D ⟨⟨by rw [h83]; exact r4, by rw [h84]; exact r5, ?_, ?_, ?_, ?_, ?_, ?_, fun j hj => ?_⟩, ?_, fun k hk => ?_⟩
      · rw [r1 6 e (by decide) (by decide) (by decide) (by decide) (by decide) (by decide) (by decide), s1 80 e (by omega)]; exact a6
      · rw [r1 7 e (by decide) (by decide) (by decide) (by decide) (by decide) (by decide) (by decide), s1 81 e (by omega)]; exact a7
      · rw [r1 8 e (by decide) (by decide) (by decide) (by decide) (by decide) (by decide) (by decide), s1 82 e (by omega)]; exact a8
      · rw [r1 9 e (by decide) (by decide) (by decide) (by decide) (by decide) (by decide) (by decide), s1 86 e (by omega)]; exact a9
      · rw [r1 19 e (by decide) (by decide) (by decide) (by decide) (by decide) (by decide) (by decide), s1 89 e (by omega)]; exact a19
      · rw [r1 20 e (by decide) (by decide) (by decide) (by decide) (by decide) (by decide) (by decide), s1 90 e (by omega)]; exact a20
      · rw [r1 18 _ (by decide) (by decide) (by decide) (by decide) (by decide) (by decide) (by decide), hb]; exact a18 j hj
      · unfold RelZ RelZ2 nfl at *
        simp (disch := omega) only [s1, hb, r1]
        exact hz
      · rw [s1 86 e (by omega)] at hk
        exact relE_ca (he' k hk) (fun f _ _ => s1 f _ (by omega)) (hb _ _) (fun f g1 g2 => hr f _ (by omega) (by omega)) (fun j hj => hr 17 _ (by omega) (by decide)) (ex_1 hx0 he hk)
    · exact relX_cg (so e z) (fun f i o n => hr f i (by unfold ownR at o; omega) (by unfold ownR at o; omega)) hx0 he (wi_HD w1.1 he) (w3.1 e he)
  · rw [hr 32 0 (by omega) (by decide), s1 228 0 (by omega)]; exact w3.2.2.1
  · rw [hr 55 i (by omega) (by decide)]; exact w3.2.2.2 i hi
  · rw [s1 228 0 (by omega)] at hS
    exact relK_cg (w4 j hj hS) (fun f hf => s1 f j (by omega)) (hb 7 j) (fun f i hf => hr f i (by omega) (by omega))
theorem fg_bb {c j : Nat} : ∀ n, b_ (p_fg Q d n) c j = b_ Q c j
  | 0 => rfl
  | n + 1 => by
    unfold p_fg
    split
    · exact fg_bb n
    · exact fg_bb n
/-- detach -/
theorem r_detach (h : RM a ra R M) (hC : CO P R) : sm_Run (D + 1) 195 0 (sm_ent 195 [.inr (some a), .inl x1]) [] M (CQ a ra P (p_detach P x1)) := by
  obtain ⟨⟨f1, f2, f3, f4, f5⟩, f6⟩ := id hC
  obtain ⟨w1, w2, w3, w4, hH⟩ := id f1
  have hx := exo_ex f3
  have fgo : ∀ f j, f ≠ 83 → f ≠ 84 → f ≠ 123 → f ≠ 211 → f < 160 ∨ 165 < f → s_ (p_detach P x1).2 f j = s_ P f j := fun f j n1 n2 n3 n4 n5 => by
    unfold p_detach
    split
    · rfl
    · split
      · rfl
      · dsimp only
        unfold p_forget
        rw [fg_s ⟨n4, n3⟩, prst_s (by omega)]
        unfold p_leave
        rw [s_n n2, s_n n1]
  have hE : EXO (p_detach P x1).2 := by
    obtain ⟨n0, u0, g, M, hr, hg⟩ := f3
    obtain ⟨v, M', -, k⟩ := ru_ex (c_detach (D := 0) (x1 := x1) hr (hW_of f2))
    exact ⟨n0, u0, g, M', k, gO_cg hg (fgo 122 0 (by decide) (by decide) (by decide) (by decide) (by decide)) (fgo 130 0 (by decide) (by decide) (by decide) (by decide) (by decide))⟩
  have b122 := ex_122 hx
  have no : p_detach P x1 = (some 0, P) → CQ a ra P (p_detach P x1) (some (.inl 0)) M := fun c => by
    rw [c]; exact cq_same h hC _ rfl
  refine bb_195_0 ⟨fun c => no (by unfold p_detach; rw [devN_no (Or.inl c)]), fun c1 => ⟨fun c => no (by unfold p_detach; rw [devN_no (Or.inr c)]), fun c5 => ⟨h.1, ?_⟩⟩⟩
  obtain ⟨d, hd, rfl, e⟩ := devN_ge c1 c5
  obtain ⟨a4, -⟩ := rx_get (w3.1 d hd)
  have cl : (nI d).toNatClampNeg = d := nI_clamp (by omega)
  have le5 : nI d ≤ 5 := by rw [li_5, nI_leI (by omega) (by decide)]; omega
  have b83 := ex_b hx 83 d
  refine ⟨fun _ => ⟨ra 4, rd_r4 h, of_eq_true (rA_4 h), of_eq_true (rN_4 h hd), ?_⟩, fun c => absurd le5 c⟩
  rw [cl, rR_4 h, a4, li_0, nI_eq b83 (by decide)]
  refine ⟨fun hp => ?_, fun c => no (by unfold p_detach; rw [e]; dsimp only; rw [if_pos (Decidable.not_not.mp c)])⟩
  have pe : p_detach P (nI d) = (some 1, p_forget (p_leave P d) d) := by
    unfold p_detach; rw [e]; dsimp only; rw [if_neg hp]
  rw [pe] at hE fgo ⊢
  generalize hX : p_forget (p_leave P d) d = X at *
  have q0 : ∀ f j, f ≠ 83 → f ≠ 84 → f < 160 ∨ 165 < f → s_ (p_prst (p_leave P d) d 0) f j = s_ P f j := fun f j n1 n2 n3 => by
    rw [prst_s (by omega)]; unfold p_leave; rw [s_n n2, s_n n1]
  have hXe : X = p_fg (p_prst (p_leave P d) d 0) d (s_ P 122 0) := by
    rw [← hX]; unfold p_forget
    have : s_ (p_leave P d) 122 0 = s_ P 122 0 := by unfold p_leave; rw [s_n (by decide), s_n (by decide)]
    rw [this]
  have hs : ∀ f j, f ≠ 123 → f ≠ 211 → ¬ ((f = 83 ∨ f = 84 ∨ f = 160 ∨ f = 161 ∨ f = 162 ∨ f = 164 ∨ f = 165) ∧ j = d) → s_ X f j = s_ P f j := fun f j n1 n2 n3 => by
    rw [hXe, fg_s ⟨n2, n1⟩]
    unfold p_prst p_leave
    rw [s_S, if_neg (by omega), s_S, if_neg (by omega), s_S, if_neg (by omega), s_S, if_neg (by omega), s_S, if_neg (by omega), s_S, if_neg (by omega), s_S, if_neg (by omega)]
  have hb : ∀ c j, b_ X c j = b_ P c j := fun c j => by rw [hXe]; exact fg_bb _
  have hf : f_ X = f_ P := by rw [hXe, fg_f]; rfl
  have vv : ∀ f v, f ≠ 123 → f ≠ 211 → s_ (p_prst (p_leave P d) d 0) f d = v → s_ X f d = v := fun f v n1 n2 h => by rw [hXe, fg_s ⟨n2, n1⟩]; exact h
  have h211 : ∀ t, s_ X 211 t = if t < s_ P 122 0 ∧ s_ P 200 t = d ∧ s_ P 211 t = 0 then 3 else s_ P 211 t := fun t => by
    rw [hXe, fg_211, q0 200 t (by decide) (by decide) (by decide), q0 211 t (by decide) (by decide) (by decide)]
  have h123 : s_ X 123 0 = cntN (s_ X 211) (s_ P 122 0) := by
    rw [hXe]
    refine fg_cnt ?_ _ (Nat.le_refl _)
    rw [q0 123 0 (by decide) (by decide) (by decide), f2.2.2.2.2.2.1]
    exact (cnt_cg _ (fun t _ => by rw [q0 211 t (by decide) (by decide) (by decide)])).symm
  have k1 := rm_wr h (f := 4) (j := d) (v := nI 0)
  have k2 := rm_wr k1 (f := 5) (j := d) (v := nI 0)
  have k3 := rm_wr k2 (f := 57) (j := d) (v := nI 0)
  have k4 := rm_wr k3 (f := 58) (j := d) (v := nI 8)
  have k5 := rm_wr k4 (f := 59) (j := d) (v := nI 0)
  have k6 := rm_wr k5 (f := 61) (j := d) (v := nI 0)
  have lp : ∀ (m i : Nat) (R1 : Nat → Nat → Int32) (M : sm_M), i + m = s_ P 122 0 → RM a ra R1 M → (∀ t, t < s_ P 122 0 → R1 73 t = nI (if t < i then s_ X 211 t else s_ P 211 t)) → (∀ f j, ¬ ((f = 4 ∨ f = 5 ∨ f = 57 ∨ f = 58 ∨ f = 59 ∨ f = 61) ∧ j = d) → f ≠ 73 → R1 f j = R f j) → R1 4 d = nI 0 → R1 5 d = nI 0 → R1 57 d = nI 0 → R1 58 d = nI 8 → R1 59 d = nI 0 → R1 61 d = nI 0 → sm_Run (D + 1) 195 78 [some (.inr (some a)), some (.inl (nI d)), some (.inl (nI i))] [] M (CQ a ra P (some 1, X)) := by
    intro m
    induction m with
    | zero =>
      intro i R1 M hi y0 y1 y2 z4 z5 z57 z58 z59 z61
      obtain rfl : i = s_ P 122 0 := by omega
      have e70 : sm_I M a 70 = nI (s_ P 122 0) := by rw [rS_70 y0, y2 70 0 (by omega) (by decide)]; exact hH.1.2.2.1
      refine bb_195_78 ⟨y0.1, fun _ => ?_, fun q => ?_⟩
      · refine ⟨rfl, R1, y0, co_gone hC hE hd hp hs hb hf ?_ ?_ ?_ ?_ ?_ ?_ ?_ h211 h123 y2 z4 z5 z57 z58 z59 z61 (fun t ht => by rw [y1 t ht, if_pos ht]), ?_⟩
        · exact vv 83 0 (by decide) (by decide) (by unfold p_prst p_leave; simp only [s_S, s_B, s_F, b_S, b_B, b_F, f_S, f_B, Nat.reduceEqDiff, false_and, and_false, true_and, and_true, and_self, if_true, if_false, reduceIte, ite_self])
        · exact vv 84 0 (by decide) (by decide) (by unfold p_prst p_leave; simp only [s_S, s_B, s_F, b_S, b_B, b_F, f_S, f_B, Nat.reduceEqDiff, false_and, and_false, true_and, and_true, and_self, if_true, if_false, reduceIte, ite_self])
        · exact vv 160 0 (by decide) (by decide) (by unfold p_prst p_leave; simp only [s_S, s_B, s_F, b_S, b_B, b_F, f_S, f_B, Nat.reduceEqDiff, false_and, and_false, true_and, and_true, and_self, if_true, if_false, reduceIte, ite_self])
        · exact vv 161 0 (by decide) (by decide) (by unfold p_prst p_leave; simp only [s_S, s_B, s_F, b_S, b_B, b_F, f_S, f_B, Nat.reduceEqDiff, false_and, and_false, true_and, and_true, and_self, if_true, if_false, reduceIte, ite_self])
        · exact vv 162 8 (by decide) (by decide) (by unfold p_prst p_leave; simp only [s_S, s_B, s_F, b_S, b_B, b_F, f_S, f_B, Nat.reduceEqDiff, false_and, and_false, true_and, and_true, and_self, if_true, if_false, reduceIte, ite_self])
        · exact vv 164 0 (by decide) (by decide) (by unfold p_prst p_leave; simp only [s_S, s_B, s_F, b_S, b_B, b_F, f_S, f_B, Nat.reduceEqDiff, false_and, and_false, true_and, and_true, and_self, if_true, if_false, reduceIte, ite_self])
        · exact vv 165 0 (by decide) (by decide) (by unfold p_prst p_leave; simp only [s_S, s_B, s_F, b_S, b_B, b_F, f_S, f_B, Nat.reduceEqDiff, false_and, and_false, true_and, and_true, and_self, if_true, if_false, reduceIte, ite_self])
        · show s_ X 126 0 ≤ _
          rw [hs 126 0 (by decide) (by decide) (by omega)]; exact Nat.le_add_right _ _
      · rw [e70] at q
        exact absurd (nI_le (Nat.le_refl _) (by omega)) q
    | succ m ih =>
      intro i R1 M hi y0 y1 y2 z4 z5 z57 z58 z59 z61
      have e70 : sm_I M a 70 = nI (s_ P 122 0) := by rw [rS_70 y0, y2 70 0 (by omega) (by decide)]; exact hH.1.2.2.1
      have cli : (nI i).toNatClampNeg = i := nI_clamp (by omega)
      have r73 : sm_I M (ra 73) i = nI (s_ P 211 i) := by rw [rR_73 y0, y1 i (by omega), if_neg (by omega)]
      have r71 : sm_I M (ra 71) i = nI (s_ P 200 i) := by rw [rR_71 y0, y2 71 i (by omega) (by decide)]; exact (hH.2.2.1 i (by omega)).1
      have b211 := ex_b hx 211 i
      have b200 := ex_b hx 200 i
      have i73 : sm_in_ M (ra 73) (nI i) := of_eq_true (rN_73 y0 (by omega))
      have i71 : sm_in_ M (ra 71) (nI i) := of_eq_true (rN_71 y0 (by omega))
      have nx : ∀ v : Nat, v = s_ X 211 i → sm_Run (D + 1) 195 78 [some (.inr (some a)), some (.inl (nI d)), some (.inl (nI (i + 1)))] [] (sm_putI M (ra 73) i (nI v)) (CQ a ra P (some 1, X)) := fun v ev => by
        refine ih (i + 1) (sm_u2 R1 73 i (nI v)) _ (by omega) (rm_wr y0) (fun t ht => ?_) (fun f j n1 n2 => by rw [u2_r, if_neg (fun q => n2 q.1)]; exact y2 f j n1 n2) (by rw [u2_r, if_neg (by omega)]; exact z4) (by rw [u2_r, if_neg (by omega)]; exact z5) (by rw [u2_r, if_neg (by omega)]; exact z57) (by rw [u2_r, if_neg (by omega)]; exact z58) (by rw [u2_r, if_neg (by omega)]; exact z59) (by rw [u2_r, if_neg (by omega)]; exact z61)
        rw [u2_r]
        by_cases c : t = i
        · rw [if_pos ⟨rfl, c⟩, if_pos (by omega), c, ev]
        · rw [if_neg (fun q => c q.2), y1 t ht]
          by_cases c' : t < i
          · rw [if_pos c', if_pos (by omega)]
          · rw [if_neg c', if_neg (by omega)]
      refine bb_195_78 ⟨y0.1, fun q => ?_, fun _ => ⟨ra 73, rd_r73 y0, of_eq_true (rA_73 y0), i73, ?_⟩⟩
      · rw [e70, nI_leI (by omega) (by omega)] at q; omega
      rw [cli, r73, li_0, nI_eq b211 (by decide), nI_1]
      refine ⟨fun c => ⟨ra 73, rd_r73 y0, of_eq_true (rA_73 y0), i73, of_eq_true (rW_73 y0), ?_⟩, fun c => ⟨ra 71, rd_r71 y0, of_eq_true (rA_71 y0), i71, ?_⟩⟩
      · rw [r73]
        exact nx _ (by rw [h211, if_neg (fun q => c q.2.2)])
      rw [r71, nI_eq b200 (by omega)]
      refine ⟨fun c' => ⟨ra 73, rd_r73 y0, of_eq_true (rA_73 y0), i73, of_eq_true (rW_73 y0), ?_⟩, fun c' => ⟨of_eq_true (rW_73 y0), ?_⟩⟩
      · rw [r73]
        exact nx _ (by rw [h211, if_neg (fun q => c' q.2.1)])
      · exact nx 3 (by rw [h211, if_pos ⟨by omega, Decidable.not_not.mp c', Decidable.not_not.mp c⟩])
  refine ⟨ra 4, rd_r4 h, of_eq_true (rW_4 h), of_eq_true (rN_4 h hd), ra 5, rd_r5 k1, of_eq_true (rW_5 h), of_eq_true (rN_5 h hd), ra 57, rd_r57 k2, of_eq_true (rW_57 h), of_eq_true (rN_57 h hd), ra 58, rd_r58 k3, of_eq_true (rW_58 h), of_eq_true (rN_58 h hd), ra 59, rd_r59 k4, of_eq_true (rW_59 h), of_eq_true (rN_59 h hd), ra 61, rd_r61 k5, of_eq_true (rW_61 h), of_eq_true (rN_61 h hd), ?_⟩
  refine lp (s_ P 122 0) 0 _ _ (by omega) k6 (fun t ht => ?_) (fun f j n1 n2 => ?_) ?_ ?_ ?_ ?_ ?_ ?_
  · rw [u2_r, if_neg (by omega), u2_r, if_neg (by omega), u2_r, if_neg (by omega), u2_r, if_neg (by omega), u2_r, if_neg (by omega), u2_r, if_neg (by omega), if_neg (by omega)]
    exact (hH.2.2.1 t ht).2.2.1
  · rw [u2_r, if_neg (by omega), u2_r, if_neg (by omega), u2_r, if_neg (by omega), u2_r, if_neg (by omega), u2_r, if_neg (by omega), u2_r, if_neg (by omega)]
  · simp [u2_r]
  · simp [u2_r]
  · simp [u2_r]
  · simp [u2_r]
  · simp [u2_r]
  · simp [u2_r]
end JC_
