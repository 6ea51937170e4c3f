/-! Calls, both sides: fault. -/
section IT_
variable {a : Nat} {ra : Nat → Nat} {R R' : Nat → Nat → Int32} {M : sm_M} {D : Nat} {P P' Pc P1 X Z : pP} {d k t i n m : Nat} {x x1 x2 x3 x4 x5 : Int32}
theorem co_f (hC : CO P R) (hE : EXO P') (hs : ∀ f j, f ≠ 227 → s_ P' f j = s_ P f j) (hb : ∀ c j, b_ P' c j = b_ P c j) (hr : ∀ f j, ¬ (33 ≤ f ∧ f ≤ 36) → R' f j = R f j) (hF : RF P' R') : CO P' R' := by
  obtain ⟨⟨f1, f2, f3, f4, f5⟩, f6, f7, f8, f9, f10, f11⟩ := hC
  obtain ⟨w1, w2, w3, w4, hH⟩ := f1
  have hx := exo_ex hE
  have so : ∀ d, SO d P P' := fun d => ⟨fun f i o => hs f i (by unfold own at o; omega), fun c i o => hb c i⟩
  have h6 : ∀ d, d < 6 → s_ P 86 d ≤ 6 := fun d hd => ex_86 w1.1.1 hd
  have fh : Fh P P' := ⟨fun f i hf => hs f i (by unfold hostF at hf; omega), fun c i _ => hb c i, fun d => hs 86 d (by decide)⟩
  have wx : WX P' := by
    obtain ⟨v1, v2, v3⟩ := w1
    refine ⟨wi_so v1 hx (fun d _ => so d), fun j hj hS => ?_, fun d hd => so_IK (so d) (v3 d hd)⟩
    rw [hs 228 0 (by decide)] at hS
    unfold PKo
    rw [hs 141 j (by decide), hs 142 j (by decide), hs 140 j (by decide), hb 7 j]
    exact v2 j hj hS
  have lk : LK P P' := ⟨by rw [hs 228 0 (by decide)]; exact Nat.le_refl _, fun p _ _ => ⟨hs _ _ (by decide), hs _ _ (by decide), hb _ _, hs _ _ (by decide), hs _ _ (by decide)⟩, Or.inl ⟨hs _ _ (by decide), hb _ _⟩, fun p h1 h2 => by rw [hs 228 0 (by decide)] at h2; omega⟩
  have g := f2.1
  refine ⟨⟨⟨wx, fun d hd => by rw [hs 91 d (by decide)]; exact w2 d hd, ⟨fun d hd => ?_, hF, ?_, fun i hi => ?_⟩, fun j hj hS => ?_, hrel_cg hH fh (fun f i hf => hr f i (by omega))⟩, ?_, hE, relS_cg f4 (hs 128 0 (by decide)) (hr 69 0 (by decide)), fun i => by rw [hs 186 i (by decide), hs 126 0 (by decide)]; exact f5 i⟩, by rw [hs 228 0 (by decide), hs 126 0 (by decide)]; exact f6, dr_cg f7 (fun f j hf => hs f j (by omega)), lc_lk f8 lk, lv_lk f9 lk, i5_j5 f10 (j5_e (fun f i hf => hs f i (by omega))), rb_cg f11 (fun c j _ => hb c j)⟩
  · exact relX_cg (so d) (fun f i o n => hr f i (by unfold ownR at o; omega)) w1.1.1 hd (wi_HD w1.1 hd) (w3.1 d hd)
  · rw [hr 32 0 (by decide), hs 228 0 (by decide)]; exact w3.2.2.1
  · rw [hr 55 i (by omega)]; exact w3.2.2.2 i hi
  · rw [hs 228 0 (by decide)] at hS
    exact relK_cg (w4 j hj hS) (fun f hf => hs f j (by omega)) (hb 7 j) (fun f i hf => hr f i (by omega))
  · exact inv_lift f2 h6 (fun f j hf => hs f j (by omega)) (by rw [hs _ _ (by decide)]; exact g.2.2.1) (by rw [hs _ _ (by decide)]; exact g.2.2.2.1) (by rw [hs _ _ (by decide)]; exact g.2.2.2.2.1) (by rw [hs _ _ (by decide)]; exact g.2.2.2.2.2.2.1) (hs 185 0 (by decide)) (fun i => by rw [hs _ _ (by decide)]; exact g.2.2.2.2.2.2.2.2.1 i) (fun i => by rw [hs _ _ (by decide)]; exact f2.2.2.2.2.1.1 i) (fun i t h1 => by rw [hs _ _ (by decide)] at h1; exact f2.2.2.2.2.1.2 i t h1) (fun t => hb 36 t) (sts_so (fun d _ => so d)) (fun d _ => zs_so (so d))
theorem rf_new {p w x : Nat} {v3 : Int32} (hF : RF P R) (hp : p < 2 ^ 31) (hw : w < 4) (hx : x < 2 ^ 31) (hn : s_ P 227 0 < 50) (h0 : f_ P p = none) (h3 : w ≠ 0 → v3 = nI x) (hr : ∀ f j, R' f j = if f = 33 ∧ j = 0 then nI (s_ P 227 0 + 1) else if f = 34 ∧ j = s_ P 227 0 then nI p else if f = 35 ∧ j = s_ P 227 0 then nI w else if f = 36 ∧ j = s_ P 227 0 then v3 else R f j) : RF (pS (pF P p (some (w, x))) 227 0 (s_ P 227 0 + 1)) R' := by
  obtain ⟨a1, a2, a3, a4, a5⟩ := hF
  have e7 : s_ (pS (pF P p (some (w, x))) 227 0 (s_ P 227 0 + 1)) 227 0 = s_ P 227 0 + 1 := by rw [s_S, if_pos ⟨rfl, rfl⟩]
  have ef : ∀ q, f_ (pS (pF P p (some (w, x))) 227 0 (s_ P 227 0 + 1)) q = if q = p then some (w, x) else f_ P q := fun q => rfl
  have o34 : ∀ i, i < s_ P 227 0 → R' 34 i = R 34 i := fun i hi => by rw [hr, if_neg (by omega), if_neg (by omega), if_neg (by omega), if_neg (by omega)]
  have n34 : R' 34 (s_ P 227 0) = nI p := by rw [hr, if_neg (by omega), if_pos ⟨rfl, rfl⟩]
  have ne : ∀ i, i < s_ P 227 0 → ¬ R 34 i = nI p := fun i hi c => by
    obtain ⟨p', w', x', b1, b2, b3, b4, b5, b6, b7⟩ := a3 i hi
    rw [b4, nI_eq b1 hp] at c
    rw [c, h0] at b7; cases b7
  unfold RF
  rw [e7]
  refine ⟨by omega, by rw [hr, if_pos ⟨rfl, rfl⟩], fun i hi => ?_, fun i i' hi hi' e => ?_, fun q w' hq => ?_⟩
  · by_cases c : i = s_ P 227 0
    · subst c
      exact ⟨p, w, x, hp, hw, hx, n34, by rw [hr, if_neg (by omega), if_neg (by omega), if_pos ⟨rfl, rfl⟩], fun z => by rw [hr, if_neg (by omega), if_neg (by omega), if_neg (by omega), if_pos ⟨rfl, rfl⟩]; exact h3 z, by rw [ef, if_pos rfl]⟩
    · obtain ⟨p', w', x', b1, b2, b3, b4, b5, b6, b7⟩ := a3 i (by omega)
      refine ⟨p', w', x', b1, b2, b3, by rw [o34 i (by omega)]; exact b4, by rw [hr, if_neg (by omega), if_neg (by omega), if_neg (by omega), if_neg (by omega)]; exact b5, fun z => by rw [hr, if_neg (by omega), if_neg (by omega), if_neg (by omega), if_neg (by omega)]; exact b6 z, ?_⟩
      rw [ef, if_neg]
      · exact b7
      · intro z
        rw [z, h0] at b7; cases b7
  · by_cases c : i = s_ P 227 0
    · by_cases c' : i' = s_ P 227 0
      · omega
      · rw [c, n34, o34 i' (by omega)] at e
        exact absurd e.symm (ne i' (by omega))
    · by_cases c' : i' = s_ P 227 0
      · rw [c', n34, o34 i (by omega)] at e
        exact absurd e (ne i (by omega))
      · rw [o34 i (by omega), o34 i' (by omega)] at e
        exact a4 i i' (by omega) (by omega) e
  · rw [ef] at hq
    by_cases z : q = p
    · exact ⟨by omega, s_ P 227 0, by omega, by rw [z]; exact n34⟩
    · rw [if_neg z] at hq
      obtain ⟨b1, i, b2, b3⟩ := a5 q w' hq
      exact ⟨b1, i, by omega, by rw [o34 i b2]; exact b3⟩
/-- fault -/
theorem r_fault (h : RM a ra R M) (hC : CO P R) (h126 : s_ P 126 0 ≤ 150200) : sm_Run (D + 1) 202 0 (sm_ent 202 [.inr (some a), .inl x1, .inl x2, .inl x3]) [] M (CQ a ra P (p_fault P x1 x2 x3)) := by
  obtain ⟨⟨f1, f2, f3, f4, f5⟩, f6, f7, f8, f9, f10, f11⟩ := id hC
  obtain ⟨w1, w2, w3, w4, hH⟩ := id f1
  have hF : RF P R := w3.2.1
  obtain ⟨a1, a2, a3, a4, a5⟩ := id hF
  have hE : EXO (p_fault P x1 x2 x3).2 := by
    obtain ⟨n0, u0, g, M, hr, hg⟩ := f3
    obtain ⟨v, M', -, k⟩ := ru_ex (c_fault (D := 0) (x1 := x1) (x2 := x2) (x3 := x3) hr)
    have e : ∀ f, f = 122 ∨ f = 130 → s_ (p_fault P x1 x2 x3).2 f 0 = s_ P f 0 := fun f hf => by
      unfold p_fault p_plan
      split
      · rfl
      · split
        · rfl
        · dsimp only; rw [s_n (by omega)]; rfl
    exact ⟨n0, u0, g, M', k, gO_cg hg (e 122 (by decide)) (e 130 (by decide))⟩
  have r32 : R 32 0 = nI (s_ P 228 0) := w3.2.2.1
  have b8 : s_ P 228 0 < 2 ^ 30 := by omega
  have no : p_fault P x1 x2 x3 = (some 0, P) → CQ a ra P (p_fault P x1 x2 x3) (some (.inl 0)) M := fun c => by
    rw [c]; exact cq_same h hC _ rfl
  have ar : (x2 < 0 ∨ (3 : Int32) < x2 ∨ (¬ x2 = 0 ∧ ¬ 0 ≤ x3) ∨ x1 < 0) → p_fault P x1 x2 x3 = (some 0, P) := fun c => by unfold p_fault; rw [if_pos c]
  have pl : ∀ p, x1 = nI p → p < 2 ^ 31 → (p < s_ P 228 0 ∨ 50 ≤ s_ P 227 0 ∨ f_ P p ≠ none) → p_fault P x1 x2 x3 = (some 0, P) := fun p e hp c => by
    unfold p_fault
    split
    · rfl
    · rw [e, nI_clamp hp]
      unfold p_plan
      rw [if_pos c]; rfl
  have fnd : ∀ p, x1 = nI p → p < 2 ^ 31 → ((∃ i, i < s_ P 227 0 ∧ R 34 i = x1) ↔ f_ P p ≠ none) := fun p e hp => by
    constructor
    · rintro ⟨i, hi, ei⟩
      obtain ⟨p', w', x', b1, b2, b3, b4, b5, b6, b7⟩ := a3 i hi
      rw [b4, e, nI_eq b1 hp] at ei
      rw [← ei, b7]; intro c; cases c
    · intro c
      obtain ⟨w, ew⟩ := Option.ne_none_iff_exists'.mp c
      obtain ⟨b1, i, b2, b3⟩ := a5 p w ew
      exact ⟨i, b2, by rw [b3, e]⟩
  have key : ∀ (m i : Nat) (x4 : Int32), i + m = s_ P 227 0 → ((¬ x4 = 0) ↔ ∃ i', i' < i ∧ R 34 i' = x1) → sm_Run (D + 1) 202 6 [some (.inr (some a)), some (.inl x1), some (.inl x2), some (.inl x3), some (.inl x4), some (.inl (nI i))] [] M (CQ a ra P (p_fault P x1 x2 x3)) := by
    intro m
    induction m with
    | zero =>
      intro i x4 hi hx4
      obtain rfl : i = s_ P 227 0 := by omega
      refine bb_202_6 ⟨h.1, fun _ => ?_, fun q => ?_⟩
      rotate_left
      · rw [rS_33 h, a2] at q
        exact absurd (nI_le (Nat.le_refl _) (by omega)) q
      rw [rS_32 h, r32, rS_33 h, a2]
      refine ⟨fun q => no ?_, fun q => ?_⟩
      · by_cases c : x1 < 0
        · exact ar (Or.inr (Or.inr (Or.inr c)))
        · obtain ⟨p, hp, e⟩ := nI_of c
          rw [e, nI_ltI hp (by omega)] at q
          exact pl p e hp (Or.inl q)
      have n1 : ¬ x1 < 0 := fun c => q (by
        have c1 := Int32.lt_iff_toInt_lt.mp c
        refine Int32.lt_iff_toInt_lt.mpr ?_
        rw [nI_toInt (by omega)]
        have b0 : (0 : Int32).toInt = 0 := rfl
        omega)
      obtain ⟨p, hp, e1⟩ := nI_of n1
      have q' : ¬ p < s_ P 228 0 := fun c => q (by rw [e1, nI_ltI hp (by omega)]; exact c)
      refine ⟨fun z => no (pl p e1 hp (Or.inr (Or.inr ((fnd p e1 hp).mp (hx4.mp z))))), fun z => ⟨fun z5 => no (pl p e1 hp (Or.inr (Or.inl ?_))), fun z5 => ⟨fun c2 => no (ar (Or.inl c2)), fun c2 => ⟨fun c3 => no (ar (Or.inr (Or.inl c3))), fun c3 => ?_⟩⟩⟩⟩
      · rw [li_50, nI_eq (by omega) (by decide)] at z5; omega
      have z50 : s_ P 227 0 < 50 := by rw [li_50, nI_eq (by omega) (by decide)] at z5; omega
      have f0 : f_ P p = none := Decidable.byContradiction (fun c => z (hx4.mpr ((fnd p e1 hp).mpr c)))
      obtain ⟨w, hw, e2⟩ := nI_of c2
      have w4 : w < 4 := by rw [e2, li_3, nI_ltI (by decide) hw] at c3; omega
      have go : (w ≠ 0 → 0 ≤ x3) → sm_Run (D + 1) 202 85 [some (.inr (some a)), some (.inl x1), some (.inl x2), some (.inl x3), some (.inl x4), some (.inl (nI (s_ P 227 0)))] [] M (CQ a ra P (p_fault P x1 x2 x3)) := by
        intro hx3
        have e : p_fault P x1 x2 x3 = (some (nI 1), pS (pF P p (some (w, x3.toNatClampNeg))) 227 0 (s_ P 227 0 + 1)) := by
          unfold p_fault
          rw [if_neg, e1, e2, nI_clamp hp, nI_clamp hw]
          · unfold p_plan
            rw [if_neg (by rintro (c | c | c); exact q' c; omega; exact c f0)]
          · rintro (c | c | c | c)
            · exact c2 c
            · exact c3 c
            · refine c.2 (hx3 (fun z => c.1 ?_))
              rw [e2, z]; rfl
            · exact n1 c
        rw [e] at hE ⊢
        have x31 : x3.toNatClampNeg < 2 ^ 31 := by
          have := Int32.toInt_lt x3
          show x3.toInt.toNat < _
          omega
        have cl7 : (nI (s_ P 227 0)).toNatClampNeg = s_ P 227 0 := nI_clamp (by omega)
        have k1 := rm_wr h (f := 34) (j := s_ P 227 0) (v := x1)
        have k2 := rm_wr k1 (f := 35) (j := s_ P 227 0) (v := x2)
        have k3 := rm_wr k2 (f := 36) (j := s_ P 227 0) (v := x3)
        have i1 : sm_I (sm_putI M (ra 34) (s_ P 227 0) x1) a 33 = nI (s_ P 227 0) := by rw [rS_33 k1, u2_r, if_neg (by omega)]; exact a2
        have i2 : sm_I (sm_putI (sm_putI M (ra 34) (s_ P 227 0) x1) (ra 35) (s_ P 227 0) x2) a 33 = nI (s_ P 227 0) := by rw [rS_33 k2, u2_r, if_neg (by omega), u2_r, if_neg (by omega)]; exact a2
        have i3 : sm_I (sm_putI (sm_putI (sm_putI M (ra 34) (s_ P 227 0) x1) (ra 35) (s_ P 227 0) x2) (ra 36) (s_ P 227 0) x3) a 33 = nI (s_ P 227 0) := by rw [rS_33 k3, u2_r, if_neg (by omega), u2_r, if_neg (by omega), u2_r, if_neg (by omega)]; exact a2
        refine bb_202_85 ⟨h.1, ra 34, rd_r34 h, of_eq_true (rW_34 h), ?_⟩
        rw [rS_33 h, a2, cl7]
        refine ⟨of_eq_true (rN_34 h z50), ra 35, rd_r35 k1, of_eq_true (rW_35 h), ?_⟩
        rw [i1, cl7]
        refine ⟨of_eq_true (rN_35 h z50), ra 36, rd_r36 k2, of_eq_true (rW_36 h), ?_⟩
        rw [i2, cl7, i3, nI_1]
        refine ⟨of_eq_true (rN_36 h z50), ?_⟩
        refine bb_202_125 ⟨rfl, _, rm_sr k3, co_f hC hE (fun f j hf => ?_) (fun c j => rfl) (fun f j hf => ?_) (rf_new (v3 := x3) hF hp w4 x31 z50 f0 (fun z => ?_) (fun f j => ?_)), ?_⟩
        · rw [s_n hf]; rfl
        · rw [u2_r, if_neg (by omega), u2_r, if_neg (by omega), u2_r, if_neg (by omega), u2_r, if_neg (by omega)]
        · obtain ⟨y, hy, ey⟩ := nI_of (fun c => by
            have c1 := Int32.lt_iff_toInt_lt.mp c
            have c2 := Int32.le_iff_toInt_le.mp (hx3 z)
            omega : ¬ x3 < 0)
          rw [ey, nI_clamp hy]
        · rw [u2_r, u2_r, u2_r, u2_r, e1, e2]
          by_cases z1 : f = 33 ∧ j = 0
          · rw [if_pos z1, if_pos z1]
          · rw [if_neg z1, if_neg z1]
            by_cases z2 : f = 36 ∧ j = s_ P 227 0
            · rw [if_pos z2, if_neg (by omega), if_neg (by omega), if_pos z2]
            · rw [if_neg z2]
              by_cases z3 : f = 35 ∧ j = s_ P 227 0
              · rw [if_pos z3, if_neg (by omega), if_pos z3]
              · rw [if_neg z3, if_neg z3]
                by_cases z4 : f = 34 ∧ j = s_ P 227 0
                · rw [if_pos z4, if_pos z4]
                · rw [if_neg z4, if_neg z4, if_neg z2]
        · show s_ (pS _ 227 0 _) 126 0 ≤ _
          rw [s_n (by decide)]; exact Nat.le_add_right _ _
      have le0 : (x2 ≤ 0) = (w = 0) := propext (by rw [e2, li_0, nI_leI hw (by decide)]; omega)
      rw [le0]
      refine ⟨fun c => go (fun z => absurd c z), fun c => ⟨fun c' => go (fun _ => c'), fun c' => no (ar (Or.inr (Or.inr (Or.inl ⟨fun z => c ?_, c'⟩))))⟩⟩
      rw [e2, li_0, nI_eq hw (by decide)] at z; exact z
    | succ m ih =>
      intro i x4 hi hx4
      refine bb_202_6 ⟨h.1, fun q => ?_, fun _ => ?_⟩
      · rw [rS_33 h, a2, nI_leI (by omega) (by omega)] at q; omega
      rw [nI_1]
      refine ⟨fun z => ih (i + 1) 1 (by omega) ⟨fun _ => ?_, fun _ => by decide⟩, fun z => ⟨ra 34, rd_r34 h, of_eq_true (rA_34 h), of_eq_true (rN_34 h (by omega)), ?_⟩⟩
      · obtain ⟨i', b1, b2⟩ := hx4.mp z
        exact ⟨i', by omega, b2⟩
      rw [nI_clamp (by omega), rR_34 h]
      have n0 : ¬ ∃ i', i' < i ∧ R 34 i' = x1 := fun c => z (hx4.mpr c)
      refine ⟨fun c => ih (i + 1) 0 (by omega) ⟨fun z => absurd rfl z, fun q => ?_⟩, fun c => ih (i + 1) 1 (by omega) ⟨fun _ => ⟨i, by omega, Decidable.not_not.mp c⟩, fun _ => by decide⟩⟩
      obtain ⟨i', b1, b2⟩ := q
      by_cases z' : i' = i
      · rw [z'] at b2; exact absurd b2 c
      · exact absurd ⟨i', by omega, b2⟩ n0
  exact bb_202_0 (key (s_ P 227 0) 0 0 (by omega) ⟨fun z => absurd rfl z, fun q => by obtain ⟨i', b1, b2⟩ := q; omega⟩)
end IT_
