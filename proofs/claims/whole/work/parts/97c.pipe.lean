/-! The reference's pipe: the road. -/
section HJ
variable {a : Nat} {ra : Nat → Nat} {R R' : Nat → Nat → Int32} {M : sm_M} {D : Nat} {P P' Q : pP} {d k t : Nat} {r : Option Nat}
/-- what is known of a pipe's transfer that is served -/
def PT (P : pP) (t d k : Nat) : Prop := t < s_ P 122 0 ∧ s_ P 211 t = 0 ∧ s_ P 200 t = d ∧ d < 6 ∧ k < s_ P 164 d ∧ s_ P 213 t = pid P d k ∧ pid P d k ≠ 0 ∧ TI P t ∧ s_ P 205 t < 65536 ∧ s_ P 208 t = 0 ∧ s_ P 209 t = 1 ∧ (s_ P 203 t = if s_ P 180 (pid P d k) < 128 then 0 else 1) ∧ s_ P 202 t = s_ P 182 (pid P d k) ∧ s_ P 161 d ≠ 0 ∧ s_ P 180 (pid P d k) < 256 ∧ s_ P 180 (pid P d k) ≠ 0 ∧ s_ P 184 (pid P d k) ≠ 0 ∧ B8 (b_ P 36 t) ∧ (∀ d, s_ P 165 d ≠ t + 1) ∧ (∀ d' k', d' < 6 → k' < s_ P 164 d' → pid P d' k' = pid P d k → d' = d ∧ k' = k)
theorem pt_fh (h : PT P t d k) (y : Fh P Q) : PT Q t d k := by
  obtain ⟨p1, p2, p3, p4, p5, p6, p7, p8, p9, p10, p11, p12, p13, p14, p15, p15', p16, p17, p18, p19⟩ := h
  have p8' := TI_fh p8 y
  unfold PT pid at *
  simp (disch := decide) only [fh_s y, fh_36 y]
  exact ⟨p1, p2, p3, p4, p5, p6, p7, p8', p9, p10, p11, p12, p13, p14, p15, p15', p16, p17, p18, p19⟩
theorem pip_fin (hX : XW Q R) (hH : HREL Q R) (hp : PT Q t d k) (hP : FHo Q P') (hx : EX P') (hs : ∀ f j, hoF f → ¬ chP t (pid Q d k) f j → s_ P' f j = s_ Q f j) (hb : ∀ c j, hostB c j → ¬ (c = 36 ∧ j = t) → b_ P' c j = b_ Q c j) (hl : (b_ P' 36 t).length = (b_ Q 36 t).length) (hr : ∀ f j, ¬ (((f = 73 ∨ f = 74 ∨ f = 76) ∧ j = t) ∨ (f = 81 ∧ 100 * t ≤ j ∧ j < 100 * t + 100) ∨ ((f = 66 ∨ f = 67) ∧ j = 10 * d + k) ∨ f = 68 ∨ f = 82 ∨ f = 83 ∨ f = 84 ∨ f = 87) → R' f j = R f j) (r73 : R' 73 t = nI (s_ P' 211 t)) (r74 : R' 74 t = nI (s_ P' 210 t)) (r76 : R' 76 t = nI (s_ P' 212 t)) (r81 : ∀ i, i < (b_ Q 36 t).length → (s_ Q 203 t = 0 ∨ i < s_ P' 210 t) → R' 81 (100 * t + i) = nI ((b_ P' 36 t).getD i 0)) (r66 : R' 66 (10 * d + k) = nI (s_ P' 185 (pid Q d k))) (r67 : R' 67 (10 * d + k) = nI (if s_ P' 184 (pid Q d k) = 0 then 0 else 1)) : XR P' R' := by
  obtain ⟨p1, p2, p3, p4, p5, p6, p7, p8, p9, p10, p11, p12, p13, p14, p15, p15', p16, p17, p18, p19⟩ := id hp
  refine xr_xw.mpr ⟨xw_ho hX hx hP (fun f i hf => hr f i (by omega)), hrel_up (i := pid Q d k) hH hX.1.1.1 p1 hs hb (fun f j hf hn => hr f j (fun q => hn ?_)) ?_ (fun d' k' hd' hk' q => ?_) (fun q => absurd q p7) p18⟩
  · unfold chR
    rcases q with q | q | q | q
    · exact Or.inl (by omega)
    · exact Or.inr (Or.inl q)
    · exact Or.inr (Or.inr (Or.inl ⟨q.1, d, k, p4, p5, rfl, q.2⟩))
    · exact Or.inr (Or.inr (Or.inr q))
  · obtain ⟨t1, t2, t3, t4, t5, t6, t7, t8⟩ := hH.2.2.1 t p1
    have sT : ∀ f, (200 ≤ f ∧ f < 209) ∨ f = 213 → s_ P' f t = s_ Q f t := fun f hf => hs f t (by omega) (by unfold chP; omega)
    have rT : ∀ f, f = 71 ∨ f = 72 ∨ f = 75 → R' f t = R f t := fun f hf => hr f t (by omega)
    have e180 : s_ P' 180 (s_ Q 213 t) = s_ Q 180 (s_ Q 213 t) := hs 180 _ (by decide) (by unfold chP; omega)
    unfold RelT
    rw [hl, sT 200 (by decide), sT 213 (by decide), sT 203 (by decide), e180, rT 71 (by decide), rT 72 (by decide), rT 75 (by decide)]
    exact ⟨t1, t2, r73, r74, t5, r76, r81, fun q => absurd (p6.symm.trans q) p7⟩
  · obtain ⟨rfl, rfl⟩ := p19 d' k' hd' hk' q
    obtain ⟨-, -, -, -, f5⟩ := hH.2.1 d' hd'
    obtain ⟨g1, g2, g3, g4, g5, g6⟩ := f5 k' hk'
    have rT : ∀ f, f = 62 ∨ f = 63 ∨ f = 64 ∨ f = 65 → R' f (10 * d' + k') = R f (10 * d' + k') := fun f hf => hr f _ (by omega)
    have sT : ∀ f, 180 ≤ f ∧ f ≤ 183 → s_ P' f (pid Q d' k') = s_ Q f (pid Q d' k') := fun f hf => hs f _ (by omega) (by unfold chP; omega)
    unfold RelQ
    rw [rT 62 (by decide), rT 63 (by decide), rT 64 (by decide), rT 65 (by decide), sT 180 (by decide), sT 181 (by decide), sT 182 (by decide), sT 183 (by decide)]
    exact ⟨g1, g2, g3, g4, r66, r67⟩
theorem nI_a15 {x : Nat} (h : x < 2 ^ 31) : nI x &&& 15 = nI (x % 16) := by
  rw [show (15 : Int32) = nI 15 from rfl]
  exact pk_andN (by omega) 4 (by decide)
/-- asking or giving -/
theorem r_pip0 {h' A ad len o sz : Nat} {Q : Option sm_V → sm_M → Prop} (h : RM a ra R M) (ht : t < 336) (hd : d < 6) (hk : k < 6) (eh : h' = 10 * d + k) (h62 : R 62 h' = nI ad) (hb : ad < 256) (h64 : R 64 h' = nI sz) (hz : sz < 2 ^ 31) (h75 : R 75 t = nI len) (h74 : R 74 t = nI o) (ho : o ≤ len) (hl : len ≤ 100) (h59 : R 59 d = nI A)
    (hA : ¬ ad < 128 → sm_Run D 180 0 (sm_ent 180 [.inr (some a), .inl (nI A), .inl (nI (ad % 16))]) [] M (fun v M1 => sm_Run (D + 1) 185 55 [some (.inr (some a)), some (.inl (nI h')), some (.inl (nI t)), some (.inl (nI d)), some (.inl (nI (ad % 16))), some (.inl (nI 1)), some (.inl (nI 0)), none, none, none] (v.toList ++ []) M1 Q))
    (hG : ad < 128 → sm_Run (D + 1) 185 85 [some (.inr (some a)), some (.inl (nI h')), some (.inl (nI t)), some (.inl (nI d)), some (.inl (nI (ad % 16))), some (.inl (nI 0)), some (.inl (nI (min sz (len - o)))), some (.inl (nI 0)), none, none] [] M Q) :
    sm_Run (D + 1) 185 0 (sm_ent 185 [.inr (some a), .inl (nI h'), .inl (nI t)]) [] M Q := by
  have et : (nI t).toNatClampNeg = t := nI_clamp (by omega)
  have eH : (nI h').toNatClampNeg = h' := nI_clamp (by omega)
  have e10 : nI h' / 10 = nI d := by rw [li_10, pk_div (by omega) (by decide) (by decide), show h' / 10 = d by omega]
  have ed : (nI d).toNatClampNeg = d := nI_clamp (by omega)
  have el : nI len - nI o = nI (len - o) := pk_sub ho
  have em : (if nI (len - o) < nI sz then nI (len - o) else nI sz) = nI (min sz (len - o)) := nmin2 (by omega) hz
  have eb : (nI ad < 128) = (ad < 128) := propext (by rw [li_128, nI_ltI (by omega) (by decide)])
  have i62 : sm_in_ M (ra 62) (nI h') := of_eq_true (rN_62 h (by omega))
  have i64 : sm_in_ M (ra 64) (nI h') := of_eq_true (rN_64 h (by omega))
  have i75 : sm_in_ M (ra 75) (nI t) := of_eq_true (rN_75 h (by omega))
  have i74 : sm_in_ M (ra 74) (nI t) := of_eq_true (rN_74 h (by omega))
  have i59 : sm_in_ M (ra 59) (nI d) := of_eq_true (rN_59 h hd)
  refine bb_185_0 ⟨h.1, ra 62, rd_r62 h, of_eq_true (rA_62 h), i62, ra 62, rd_r62 h, of_eq_true (rA_62 h), i62, ?_⟩
  rw [eH, rR_62 h, h62, eb, e10, nI_a15 (by omega)]
  refine ⟨fun q => ⟨ra 64, rd_r64 h, of_eq_true (rA_64 h), i64, ra 75, rd_r75 h, of_eq_true (rA_75 h), i75, ra 74, rd_r74 h, of_eq_true (rA_74 h), i74, ?_⟩, fun q => ⟨ra 59, rd_r59 h, of_eq_true (rA_59 h), i59, ?_⟩⟩
  · rw [et, rR_64 h, rR_75 h, rR_74 h, h64, h75, h74, el, em]
    exact hG q
  · rw [ed, rR_59 h, h59]
    exact hA q
theorem r_pip1 {h' A n o tg : Nat} {x4 : Int32} {Q : Option sm_V → sm_M → Prop} (ht : t < 336) (hd : d < 6) (hh : h' < 60) (hn : o + n ≤ 100) (h74 : R 74 t = nI o) (h59 : R 59 d = nI A) (h66 : R 66 h' = nI tg) (htg : tg ≤ 1) (hQ : ∀ M1 dk, dk = (if tg = 1 then 11 else 3) → RM a ra (rowU R 83 0 n (fun i => R 81 (100 * t + o + i))) M1 → sm_Run D 181 0 (sm_ent 181 [.inr (some a), .inl (nI 1), .inl (nI A), .inl x4, .inl (nI dk), .inl (nI n)]) [] M1 (fun v M1 => sm_Run (D + 1) 185 155 [some (.inr (some a)), some (.inl (nI h')), some (.inl (nI t)), some (.inl (nI d)), some (.inl x4), some (.inl (nI 0)), some (.inl (nI n)), some (.inl (nI n)), none, none] (v.toList ++ []) M1 Q)) : ∀ (m i : Nat) (M : sm_M), i + m = n → RM a ra (rowU R 83 0 i (fun i => R 81 (100 * t + o + i))) M → sm_Run (D + 1) 185 85 [some (.inr (some a)), some (.inl (nI h')), some (.inl (nI t)), some (.inl (nI d)), some (.inl x4), some (.inl (nI 0)), some (.inl (nI n)), some (.inl (nI i)), none, none] [] M Q := by
  intro m
  induction m with
  | zero =>
    intro i M hi h
    obtain rfl : i = n := by omega
    have e59 : rowU R 83 0 i (fun i => R 81 (100 * t + o + i)) 59 d = nI A := by simp only [u2_r, rowU_r, s_S, s_B, s_F, b_S, b_B, b_F, f_S, f_B, nfl_S, nfl_B, Nat.reduceEqDiff, false_and, and_false, true_and, and_true, and_self, if_true, if_false, reduceIte, ite_self, or_self, or_false, false_or, or_true, true_or, false_implies, implies_true, true_implies, Nat.reduceLeDiff, not_true_eq_false, not_false_eq_true, ne_eq]; exact h59
    have e66 : rowU R 83 0 i (fun i => R 81 (100 * t + o + i)) 66 h' = nI tg := by simp only [u2_r, rowU_r, s_S, s_B, s_F, b_S, b_B, b_F, f_S, f_B, nfl_S, nfl_B, Nat.reduceEqDiff, false_and, and_false, true_and, and_true, and_self, if_true, if_false, reduceIte, ite_self, or_self, or_false, false_or, or_true, true_or, false_implies, implies_true, true_implies, Nat.reduceLeDiff, not_true_eq_false, not_false_eq_true, ne_eq]; exact h66
    refine bb_185_85 ⟨fun _ => ⟨h.1, ra 59, rd_r59 h, of_eq_true (rA_59 h), of_eq_true (rN_59 h hd), ra 66, rd_r66 h, of_eq_true (rA_66 h), of_eq_true (rN_66 h hh), ?_⟩, fun q => absurd (nI_le (Nat.le_refl _) (by omega)) q⟩
    rw [nI_clamp (by omega), nI_clamp (by omega), rR_66 h, rR_59 h, e59, e66, li_1, nI_eq (by omega) (by decide)]
    refine ⟨fun q1 => ?_, fun q1 => ?_⟩
    · have := hQ M 3 (by rw [if_neg q1]) h
      exact this
    · have := hQ M 11 (by rw [if_pos (Decidable.not_not.mp q1)]) h
      exact this
  | succ m ih =>
    intro i M hi h
    refine bb_185_85 ?_
    simp (disch := first | assumption | omega | decide) only [rd_r74 h, rR_74 h, rN_74 h, rW_74 h, rA_74 h, rd_r81 h, rR_81 h, rN_81 h, rW_81 h, rA_81 h, rd_r83 h, rR_83 h, rN_83 h, rW_83 h, rA_83 h, rk_39 h, h74, ↓li_m1, li_0, li_1, li_2, li_3, li_4, li_5, li_6, li_7, li_8, li_9, li_10, li_11, li_12, li_13, li_14, li_16, li_18, li_20, li_32, li_36, li_40, li_50, li_60, li_64, li_100, li_127, li_128, li_200, li_255, li_256, li_290, li_300, li_336, li_512, li_513, li_515, li_660, li_2048, li_16385, li_32768, li_32774, li_32776, li_33280, li_49153, nI_add, pk_mul, nI_eq, nI_leI, nI_ltI, pk_sub, nI_clamp, Decidable.not_not, Nat.reduceAdd, Nat.reduceMul, Option.some.injEq, exists_eq_left', exists_eq_left, forall_eq', reduceCtorEq, false_implies, forall_const, true_and, and_true, not_false_eq_true, not_true_eq_false, Nat.reduceEqDiff, Ip_r h, Ip_a h, Ip_b h, I_put_s, I_put_k, Rp_j, u2_r, rowU_r, false_and, and_false, if_false, if_true, reduceIte]
    refine ⟨fun q => by omega, fun _ => ?_⟩
    refine ih (i + 1) _ (by omega) ?_
    have := rm_wr h (f := 83) (j := 0 + i) (v := R 81 (100 * t + o + i))
    rw [rowU_s (v := fun i => R 81 (100 * t + o + i)), Nat.zero_add] at this
    exact this
/-- what was heard -/
theorem r_155 {h' k1 x5 x6 o tg : Nat} {x3 x4 : Int32} {z7 : Option sm_V} {Q : Option sm_V → sm_M → Prop} (h : RM a ra R M) (ht : t < 336) (hh : h' < 60) (hk : k1 < 20) (h82 : R 82 0 = nE k1) (h5 : x5 ≤ 1) (h6 : x6 ≤ 100) (h74 : R 74 t = nI o) (ho : o ≤ 100) (h66 : R 66 h' = nI tg) (htg : tg ≤ 1)
    (hN : k1 = 11 ∨ k1 = 15 → ∀ x8, sm_Run (D + 1) 185 230 [some (.inr (some a)), some (.inl (nI h')), some (.inl (nI t)), some (.inl x3), some (.inl x4), some (.inl (nI x5)), some (.inl (nI x6)), some (.inl (nI (if k1 = 11 then 1 else 0))), some (.inl x8), none] [] M Q)
    (hF : k1 ≠ 11 → k1 ≠ 15 → ¬ (x5 = 0 ∧ k1 = 3) → ¬ (x5 = 1 ∧ (k1 = 4 ∨ k1 = 12)) → sm_Run D 182 0 (sm_ent 182 [.inr (some a), .inl (nI t)]) [] M (fun v M1 => sm_Run (D + 1) 185 266 [some (.inr (some a)), some (.inl (nI h')), some (.inl (nI t)), some (.inl x3), some (.inl x4), some (.inl (nI x5)), some (.inl (nI x6)), some (.inl 0), some (.inl 0), none] (v.toList ++ []) M1 Q))
    (hT : x5 = 1 → k1 = 4 ∨ k1 = 12 → sm_Run (D + 1) 185 193 [some (.inr (some a)), some (.inl (nI h')), some (.inl (nI t)), some (.inl x3), some (.inl x4), some (.inl (nI x5)), some (.inl (nI x6)), some (.inl 0), none, none] [] M Q)
    (hG : x5 = 0 → k1 = 3 → sm_Run (D + 1) 185 386 [some (.inr (some a)), some (.inl (nI h')), some (.inl (nI t)), some (.inl x3), some (.inl x4), some (.inl (nI x5)), some (.inl (nI x6)), some (.inl 0), some (.inl 1), none] [] (sm_putI (sm_putI (sm_putI M (ra 76) t 0) (ra 74) t (nI (o + x6))) (ra 66) h' (nI (1 - tg))) Q) :
    sm_Run (D + 1) 185 155 [some (.inr (some a)), some (.inl (nI h')), some (.inl (nI t)), some (.inl x3), some (.inl x4), some (.inl (nI x5)), some (.inl (nI x6)), z7, none, none] [] M Q := by
  have et : (nI t).toNatClampNeg = t := nI_clamp (by omega)
  have eH : (nI h').toNatClampNeg = h' := nI_clamp (by omega)
  have c : ∀ n, n < 30 → (nE k1 = nI n) = (k1 = n + 1) := fun n hn => propext (nE_I (by omega) (by omega))
  have e5 : (nI x5 = 0) = (x5 = 0) := propext (by rw [li_0, nI_eq (by omega) (by decide)])
  have c10 : (nE k1 = 10) = (k1 = 11) := c 10 (by decide)
  have c14 : (nE k1 = 14) = (k1 = 15) := c 14 (by decide)
  have c11 : (nE k1 = 11) = (k1 = 12) := c 11 (by decide)
  have c3 : (nE k1 = 3) = (k1 = 4) := c 3 (by decide)
  have c2 : (nE k1 = 2) = (k1 = 3) := c 2 (by decide)
  have n1 : k1 = 11 → ∀ x8, sm_Run (D + 1) 185 230 [some (.inr (some a)), some (.inl (nI h')), some (.inl (nI t)), some (.inl x3), some (.inl x4), some (.inl (nI x5)), some (.inl (nI x6)), some (.inl 1), some (.inl x8), none] [] M Q := fun q x8 => by
    have := hN (Or.inl q) x8
    rw [if_pos q] at this; exact this
  have n0 : k1 = 15 → ∀ x8, sm_Run (D + 1) 185 230 [some (.inr (some a)), some (.inl (nI h')), some (.inl (nI t)), some (.inl x3), some (.inl x4), some (.inl (nI x5)), some (.inl (nI x6)), some (.inl 0), some (.inl x8), none] [] M Q := fun q x8 => by
    have := hN (Or.inr q) x8
    rw [if_neg (by omega)] at this; exact this
  refine bb_185_155 ⟨h.1, ?_⟩
  rw [rS_82 h, h82, c10, c14, c11, c3, c2, e5]
  refine ⟨fun q10 => ⟨fun q5 => ⟨fun q2 => ⟨fun q14 => hF q10 q14 (by omega) (by omega), fun q14 => n0 (Decidable.not_not.mp q14) _⟩, fun q2 => ⟨fun q14 => ?_, fun q14 => n0 (Decidable.not_not.mp q14) _⟩⟩, fun q5 => ⟨fun q3 => hT (by omega) (Or.inl q3), fun q3 => ⟨fun q11 => ⟨fun q14 => hF q10 q14 (by omega) (by omega), fun q14 => n0 (Decidable.not_not.mp q14) _⟩, fun q11 => hT (by omega) (Or.inr (Decidable.not_not.mp q11))⟩⟩⟩, fun q10 => ⟨fun q5 => ⟨fun q2 => n1 (Decidable.not_not.mp q10) _, fun q2 => n1 (Decidable.not_not.mp q10) _⟩, fun q5 => ⟨fun q3 => by omega, fun q3 => ⟨fun q11 => n1 (Decidable.not_not.mp q10) _, fun q11 => by omega⟩⟩⟩⟩
  have q2 : k1 = 3 := Decidable.not_not.mp q2
  refine ⟨ra 76, rd_r76 h, of_eq_true (rW_76 h), of_eq_true (rN_76 h (by omega)), ra 74, by rw [Rp_j]; exact rd_r74 h, of_eq_true (rA_74 h), of_eq_true (rN_74 h (by omega)), of_eq_true (rW_74 h), ra 66, by rw [Rp_j, Rp_j]; exact rd_r66 h, of_eq_true (rA_66 h), of_eq_true (rN_66 h hh), of_eq_true (rW_66 h), ?_⟩
  rw [et, eH]
  have v74 : sm_I (sm_putI M (ra 76) t 0) (ra 74) t + nI x6 = nI (o + x6) := by
    rw [Ip_r h (by decide) (by decide) (by decide) (by decide) (by decide), rR_74 h, h74, nI_add]
  rw [v74]
  have v66 : 1 - sm_I (sm_putI (sm_putI M (ra 76) t 0) (ra 74) t (nI (o + x6))) (ra 66) h' = nI (1 - tg) := by
    rw [Ip_r h (by decide) (by decide) (by decide) (by decide) (by decide), Ip_r h (by decide) (by decide) (by decide) (by decide) (by decide), rR_66 h, h66, li_1, pk_sub (by omega)]
  rw [v66]
  exact hG q5 q2
end HJ
