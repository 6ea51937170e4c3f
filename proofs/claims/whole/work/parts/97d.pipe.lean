/-! The reference's pipe: after the exchange. -/
section HK
variable {a : Nat} {ra : Nat → Nat} {R R' : Nat → Nat → Int32} {M : sm_M} {D : Nat} {P P' Q : pP} {d k t : Nat} {r : Option Nat}
def PQ (P : pP) (t d k : Nat) : Prop := t < s_ P 122 0 ∧ d < 6 ∧ k < s_ P 164 d ∧ s_ P 213 t = pid P d k ∧ pid P d k ≠ 0 ∧ (∀ d, s_ P 165 d ≠ t + 1) ∧ (∀ d' k', d' < 6 → k' < s_ P 164 d' → pid P d' k' = pid P d k → d' = d ∧ k' = k) ∧ s_ P 184 (pid P d k) ≠ 0
theorem pt_pq (h : PT P t d k) : PQ P t d k := by
  obtain ⟨p1, p2, p3, p4, p5, p6, p7, p8, p9, p10, p11, p12, p13, p14, p15, p15', p16, p17, p18, p19⟩ := h
  exact ⟨p1, p4, p5, p6, p7, p18, p19, p16⟩
theorem pq_cg (h : PQ P t d k) (hs : ∀ f j, f = 122 ∨ f = 164 ∨ f = 165 ∨ f = 166 ∨ f = 184 ∨ f = 213 → s_ P' f j = s_ P f j) : PQ P' t d k := by
  unfold PQ pid at *
  simp (disch := decide) only [hs]
  exact h
theorem ex_9 {f v : Nat} (hx : EX P) (ht : t < s_ P 122 0) (hv : v < 2 ^ 31) (hf : f = 186) : EX (pS P f (s_ P 213 t) v) := by
  subst hf
  obtain ⟨g, M, h⟩ := hx
  obtain ⟨-, -, l9⟩ := lq_10 h ht
  exact ⟨g, _, rc_w' (c := 9) (k := 6) h l9 hv⟩
theorem ex_sv9 (hx : EX P) (ht : t < s_ P 122 0) (h0 : s_ P 213 t ≠ 0) : EX (sv9 P t) := by
  unfold sv9
  split
  · exact hx
  · unfold p_fin
    have e : s_ (pS P 123 0 (s_ P 123 0 - 1)) 213 t = s_ P 213 t := by simp only [s_S, s_B, s_F, b_S, b_B, b_F, f_S, f_B, Nat.reduceEqDiff, false_and, and_false, true_and, and_true, and_self, if_true, if_false, reduceIte, ite_self]
    have e1 : s_ (pS P 123 0 (s_ P 123 0 - 1)) 211 t = s_ P 211 t := by simp only [s_S, s_B, s_F, b_S, b_B, b_F, f_S, f_B, Nat.reduceEqDiff, false_and, and_false, true_and, and_true, and_self, if_true, if_false, reduceIte, ite_self]
    rw [e, e1, if_pos h0]
    obtain ⟨g, M, h⟩ := hx
    obtain ⟨-, -, l9⟩ := lq_10 h ht
    have b := rc_B h 123 0
    have h1 : RC g (pS P 123 0 (s_ P 123 0 - 1)) _ := rc_w' (c := 6) (k := 3) h (rc_st h (by decide)) (show s_ P 123 0 - 1 < 2 ^ 31 by omega)
    exact ⟨g, _, rc_w' (c := 9) (k := 4) h1 l9 (by split <;> decide)⟩
/-- the pipe's end -/
theorem r_412 {x7 : Nat} {x3 x4 x5 x6 x8 : Int32} {z9 : Option sm_V} (h : RM a ra R M) (hXR : XR P R) (hq : PQ P t d k) (hx : EX (sv9 P t)) (h7 : x7 ≤ 1) : sm_Run (D + 1) 185 412 [some (.inr (some a)), some (.inl (nI (10 * d + k))), some (.inl (nI t)), some (.inl x3), some (.inl x4), some (.inl x5), some (.inl x6), some (.inl (nI x7)), some (.inl x8), z9] [] M (fun v M' => v = some (.inl (nI x7)) ∧ ∃ R', RM a ra R' M' ∧ K60 R R' ∧ XR (sv9 P t) R') := by
  obtain ⟨q1, q2, q3, q4, q5, q6, q7, q8⟩ := id hq
  obtain ⟨hX, hH⟩ := xr_xw.mp hXR
  have b211 := ex_b hX.1.1.1 211 t
  have lt := ex_122 hX.1.1.1
  have l164 := ex_164 hX.1.1.1 q2
  have T := hH.2.2.1 t q1
  have t3 : R 73 t = nI (s_ P 211 t) := T.2.2.1
  have et : (nI t).toNatClampNeg = t := nI_clamp (by omega)
  have eH : (nI (10 * d + k)).toNatClampNeg = 10 * d + k := nI_clamp (by omega)
  have r67 := ((hH.2.1 d q2).2.2.2.2 k q3)
  have ef : s_ P 211 t ≠ 0 → sv9 P t = pS (pS P 123 0 (s_ P 123 0 - 1)) 184 (pid P d k) (if s_ P 211 t = 1 then 1 else 0) := by
    intro n
    unfold sv9 p_fin
    rw [if_neg n]
    simp only [s_S, s_B, s_F, b_S, b_B, b_F, f_S, f_B, Nat.reduceEqDiff, false_and, and_false, true_and, and_true, and_self, if_true, if_false, reduceIte, ite_self]
    rw [q4, if_pos q5]
  have up : ∀ (v : Nat) (R' : Nat → Nat → Int32), sv9 P t = pS (pS P 123 0 (s_ P 123 0 - 1)) 184 (pid P d k) v → (∀ f j, ¬ (f = 67 ∧ j = 10 * d + k) → R' f j = R f j) → R' 67 (10 * d + k) = nI (if v = 0 then 0 else 1) → XR (sv9 P t) R' := by
    intro v R' e hr h67
    have hP : FHo P (sv9 P t) := by rw [e]; exact fho_S (fho_S fho_rf (by decide)) (by decide)
    have s' : ∀ f j, f ≠ 123 → ¬ (f = 184 ∧ j = pid P d k) → s_ (sv9 P t) f j = s_ P f j := fun f j n1 n2 => by rw [e, s_S, if_neg (by omega), s_S, if_neg (by omega)]
    have b' : ∀ c j, b_ (sv9 P t) c j = b_ P c j := fun c j => by rw [e]; rfl
    refine xr_xw.mpr ⟨xw_ho hX hx hP (fun f i hf => hr f i (by omega)), hrel_up (i := pid P d k) hH hX.1.1.1 q1 (fun f j hf hn => s' f j (by unfold chP at hn; omega) (by unfold chP at hn; omega)) (fun c j _ _ => b' c j) (fun f j hf hn => hr f j (fun c => hn (Or.inr (Or.inr (Or.inl ⟨Or.inr c.1, d, k, q2, q3, rfl, c.2⟩))))) ?_ (fun d' k' hd' hk' q => ?_) (fun q => absurd q q5) q6⟩
    · unfold RelT at *
      rw [b', s' 200 _ (by decide) (by omega), s' 213 _ (by decide) (by omega), s' 211 _ (by decide) (by omega), s' 210 _ (by decide) (by omega), s' 212 _ (by decide) (by omega), s' 203 _ (by decide) (by omega), s' 180 _ (by decide) (by omega)]
      obtain ⟨t1, t2, t3, t4, t5, t6, t7, t8⟩ := T
      refine ⟨by rw [hr _ _ (by omega)]; exact t1, by rw [hr _ _ (by omega)]; exact t2, by rw [hr _ _ (by omega)]; exact t3, by rw [hr _ _ (by omega)]; exact t4, by rw [hr _ _ (by omega)]; exact t5, by rw [hr _ _ (by omega)]; exact t6, fun i hi hj => by rw [hr _ _ (by omega)]; exact t7 i hi hj, fun c => absurd (q4.symm.trans c) q5⟩
    · obtain ⟨rfl, rfl⟩ := q7 d' k' hd' hk' q
      unfold RelQ at *
      rw [s' 180 _ (by decide) (by omega), s' 181 _ (by decide) (by omega), s' 182 _ (by decide) (by omega), s' 183 _ (by decide) (by omega), s' 185 _ (by decide) (by omega), hr 62 _ (by omega), hr 63 _ (by omega), hr 64 _ (by omega), hr 65 _ (by omega), hr 66 _ (by omega)]
      obtain ⟨g1, g2, g3, g4, g5, g6⟩ := r67
      refine ⟨g1, g2, g3, g4, g5, ?_⟩
      rw [h67, e]; simp only [s_S, s_B, s_F, b_S, b_B, b_F, f_S, f_B, Nat.reduceEqDiff, false_and, and_false, true_and, and_true, and_self, if_true, if_false, reduceIte, ite_self]
  refine bb_185_412 ⟨h.1, ra 73, rd_r73 h, of_eq_true (rA_73 h), of_eq_true (rN_73 h (by omega)), ?_⟩
  rw [et, eH, rR_73 h, t3, li_1, nI_leI b211 (by decide)]
  refine ⟨fun q => ⟨fit_b h7, rfl, R, h, k60_rf, ?_⟩, fun q => ⟨ra 67, rd_r67 h, of_eq_true (rW_67 h), of_eq_true (rN_67 h (by omega)), fit_b h7, rfl, _, rm_wr h, (by (repeat' (first | exact k60_rf | (refine k60_u ?_ (by decide))))), ?_⟩⟩
  · by_cases n : s_ P 211 t = 0
    · have : sv9 P t = P := by unfold sv9; rw [if_pos n]
      rw [this]; exact hXR
    · have e := ef n
      rw [if_pos (by omega)] at e
      refine up 1 R e (fun _ _ _ => rfl) ?_
      rw [r67.2.2.2.2.2, if_neg q8, if_neg (by decide)]
  · have e := ef (by omega)
    rw [if_neg (by omega)] at e
    exact up 0 _ e (fun f j hn => by rw [u2_r, if_neg hn]) (by simp only [u2_r, rowU_r, s_S, s_B, s_F, b_S, b_B, b_F, f_S, f_B, nfl_S, nfl_B, Nat.reduceEqDiff, false_and, and_false, true_and, and_true, and_self, if_true, if_false, reduceIte, ite_self, or_self, or_false, false_or, or_true, true_or, false_implies, implies_true, true_implies, Nat.reduceLeDiff, not_true_eq_false, not_false_eq_true, ne_eq]; rfl)
def PPost (a : Nat) (ra : Nat → Nat) (R : Nat → Nat → Int32) (Q : pP) (t : Nat) (r : Option Nat) (k1 : Nat) : Option sm_V → sm_M → Prop := fun v M' => v = some (.inl (nI (if k1 = 11 then 1 else 0))) ∧ ∃ R', RM a ra R' M' ∧ K60 R R' ∧ XR (sv9 (sv8 (p_hearA (sv6 Q t r) t r)) t) R'
/-- the bytes were taken -/
theorem pip_dat {j tg o len many i : Nat} {x3 x4 : Int32} (h : RM a ra R M) (hX : XW Q R) (hH : HREL Q R) (hp : PT Q t d k) (ei : pid Q d k = i) (h3 : s_ Q 203 t ≠ 0) (hj : j < 60) (hj' : j < s_ Q 228 0) (h50 : R 50 0 = nI j) (h82 : R 82 0 = nI (s_ Q 141 j)) (hd : isDat (s_ Q 141 j)) (hS : s_ Q 228 0 + 1 < 2 ^ 31) (eo : s_ Q 210 t = o) (el : (b_ Q 36 t).length = len) (em : (b_ Q 7 j).length = many) (eg : s_ Q 185 i = tg) (hP : FHo Q P') (hx : EX P') (hs : ∀ f j, hoF f → ¬ chP t i f j → s_ P' f j = s_ Q f j) (h184 : s_ P' 184 i = s_ Q 184 i) (hb : ∀ c j, hostB c j → ¬ (c = 36 ∧ j = t) → b_ P' c j = b_ Q c j) (e212 : s_ P' 212 t = 0) (e210 : s_ P' 210 t = if mnN (s_ Q 141 j) tg = 1 then o + min many (len - o) else o) (e211 : s_ P' 211 t = if mnN (s_ Q 141 j) tg = 1 ∧ len - o < many then 3 else if lastN o len many (s_ Q 202 t) (mnN (s_ Q 141 j) tg) = 1 then 1 else 0) (e185 : s_ P' 185 i = if mnN (s_ Q 141 j) tg = 1 then 1 - tg else tg) (e36 : b_ P' 36 t = if mnN (s_ Q 141 j) tg = 1 then kpl (b_ Q 36 t) (b_ Q 7 j) o (min many (len - o)) else b_ Q 36 t) : sm_Run (D + 7) 185 193 [some (.inr (some a)), some (.inl (nI (10 * d + k))), some (.inl (nI t)), some (.inl x3), some (.inl x4), some (.inl (nI 1)), some (.inl (nI 0)), some (.inl 0), none, none] [] M (fun v M' => v = some (.inl (nI 0)) ∧ ∃ R', RM a ra R' M' ∧ K60 R R' ∧ XR (sv9 (sv8 (P', true)) t) R') := by
  obtain ⟨p1, p2, p3, p4, p5, p6, p7, p8, p9, p10, p11, p12, p13, p14, p15, p15', p16, p17, p18, p19⟩ := id hp
  obtain ⟨t1, t2, t3, t4, t5, t6, t7, t8⟩ := hH.2.2.1 t p1
  obtain ⟨i1, i2, i3, i4, i5⟩ := id p8
  obtain ⟨g1, g2, g3, g4, g5, g6⟩ := (hH.2.1 d p4).2.2.2.2 k p5
  rw [ei] at g5 g6 g3 p13 p16 p6
  rw [p6, eg] at i2
  rw [eg] at g5
  rw [eo] at t4 i1
  rw [el] at t5 i1
  have l36 := ex_36 hX.1.1.1 p1
  rw [el] at l36
  have lt := ex_122 hX.1.1.1
  have l164 := ex_164 hX.1.1.1 p4
  have l7 := ex_7 hX.1.1.1 (show j < 66 by omega)
  rw [em] at l7
  rw [← p13] at g3
  have h1 := rm_wr h (f := 76) (j := t) (v := nI 0)
  have x1 : XW P' (sm_u2 R 76 t (nI 0)) := xw_ho hX hx hP (fun f i hf => by rw [u2_r, if_neg (by omega)])
  have e141 : s_ P' 141 j = s_ Q 141 j := hP.1 _ _ (by omega)
  have e7 : b_ P' 7 j = b_ Q 7 j := hP.2.1 _ _ (by unfold hostB; omega)
  have e228 : s_ P' 228 0 = s_ Q 228 0 := hP.1 _ _ (by omega)
  have et : (nI t).toNatClampNeg = t := nI_clamp (by omega)
  have eH : (nI (10 * d + k)).toNatClampNeg = 10 * d + k := nI_clamp (by omega)
  have tk := r_takes (D := D) (t := t) (j := j) (o := o) (len := len) (tg := tg) (sz := s_ Q 202 t) h1 x1 (by rw [e228]; exact hS) (by omega) hj (by rw [e228]; exact hj') (by simp only [u2_r, rowU_r, s_S, s_B, s_F, b_S, b_B, b_F, f_S, f_B, nfl_S, nfl_B, Nat.reduceEqDiff, false_and, and_false, true_and, and_true, and_self, if_true, if_false, reduceIte, ite_self, or_self, or_false, false_or, or_true, true_or, false_implies, implies_true, true_implies, Nat.reduceLeDiff, not_true_eq_false, not_false_eq_true, ne_eq]; exact h50) (by simp only [u2_r, rowU_r, s_S, s_B, s_F, b_S, b_B, b_F, f_S, f_B, nfl_S, nfl_B, Nat.reduceEqDiff, false_and, and_false, true_and, and_true, and_self, if_true, if_false, reduceIte, ite_self, or_self, or_false, false_or, or_true, true_or, false_implies, implies_true, true_implies, Nat.reduceLeDiff, not_true_eq_false, not_false_eq_true, ne_eq]; rw [e141]; exact h82) (by rw [e141]; exact hd) (by simp only [u2_r, rowU_r, s_S, s_B, s_F, b_S, b_B, b_F, f_S, f_B, nfl_S, nfl_B, Nat.reduceEqDiff, false_and, and_false, true_and, and_true, and_self, if_true, if_false, reduceIte, ite_self, or_self, or_false, false_or, or_true, true_or, false_implies, implies_true, true_implies, Nat.reduceLeDiff, not_true_eq_false, not_false_eq_true, ne_eq]; exact t4) (by simp only [u2_r, rowU_r, s_S, s_B, s_F, b_S, b_B, b_F, f_S, f_B, nfl_S, nfl_B, Nat.reduceEqDiff, false_and, and_false, true_and, and_true, and_self, if_true, if_false, reduceIte, ite_self, or_self, or_false, false_or, or_true, true_or, false_implies, implies_true, true_implies, Nat.reduceLeDiff, not_true_eq_false, not_false_eq_true, ne_eq]; exact t5) i1 l36 i2 (by omega)
  rw [e141, e7, em] at tk
  have n82 : ¬ R 82 0 = 14 := by
    rw [h82, li_14, nI_eq (by have := ex_b hX.1.1.1 141 j; omega) (by decide)]
    unfold isDat at hd; omega
  have mle := mn_le (k := s_ Q 141 j) (tg := tg)
  have lle := last_le (o := o) (len := len) (many := many) (sz := s_ Q 202 t) (mn := mnN (s_ Q 141 j) tg)
  have lm : lastN o len many (s_ Q 202 t) (mnN (s_ Q 141 j) tg) = 1 → mnN (s_ Q 141 j) tg = 1 ∧ many ≤ len - o := fun q => by
    unfold lastN at q
    by_cases c : mnN (s_ Q 141 j) tg = 1 ∧ many ≤ len - o ∧ (o + min many (len - o) = len ∨ many < s_ Q 202 t)
    · exact ⟨c.1, c.2.1⟩
    · rw [if_neg c] at q; omega
  generalize hmn : mnN (s_ Q 141 j) tg = mn at *
  generalize hla : lastN o len many (s_ Q 202 t) mn = la at *
  refine bb_185_193 ⟨fun q => absurd rfl q, fun _ => ⟨h.1, fun _ => ⟨fun q => absurd (show nI 1 = nI 0 from q) (by decide), fun _ => ⟨ra 76, rd_r76 h, of_eq_true (rW_76 h), of_eq_true (rN_76 h (by omega)), ra 66, by rw [Rp_j]; exact rd_r66 h, of_eq_true (rA_66 h), of_eq_true (rN_66 h (by omega)), ra 64, by rw [Rp_j]; exact rd_r64 h, of_eq_true (rA_64 h), of_eq_true (rN_64 h (by omega)), ?_⟩⟩, fun q => absurd (by rw [rS_82 h] at q; exact Decidable.not_not.mp q) n82⟩⟩
  rw [et, eH, Ip_r h (by decide) (by decide) (by decide) (by decide) (by decide), Ip_r h (by decide) (by decide) (by decide) (by decide) (by decide), rR_66 h, rR_64 h, g5, g3]
  refine ru_mono tk ?_
  rintro v M2 ⟨rfl, R2, h2, y1, y2, y3⟩
  have r66 : R2 66 (10 * d + k) = nI tg := by rw [y3 _ _ (by omega) (by omega), tkR_o (by omega)]; simp only [u2_r, rowU_r, s_S, s_B, s_F, b_S, b_B, b_F, f_S, f_B, nfl_S, nfl_B, Nat.reduceEqDiff, false_and, and_false, true_and, and_true, and_self, if_true, if_false, reduceIte, ite_self, or_self, or_false, false_or, or_true, true_or, false_implies, implies_true, true_implies, Nat.reduceLeDiff, not_true_eq_false, not_false_eq_true, ne_eq]; exact g5
  have r73 : R2 73 t = nI (if mn = 1 ∧ len - o < many then 3 else 0) := by
    rw [y3 _ _ (by omega) (by omega)]
    unfold tkR tkR1
    by_cases q1 : mn = 1
    · rw [if_pos q1]
      by_cases q2 : len - o < many
      · rw [if_pos q2, if_pos ⟨q1, q2⟩]; simp only [u2_r, rowU_r, s_S, s_B, s_F, b_S, b_B, b_F, f_S, f_B, nfl_S, nfl_B, Nat.reduceEqDiff, false_and, and_false, true_and, and_true, and_self, if_true, if_false, reduceIte, ite_self, or_self, or_false, false_or, or_true, true_or, false_implies, implies_true, true_implies, Nat.reduceLeDiff, not_true_eq_false, not_false_eq_true, ne_eq]
      · rw [if_neg q2, if_neg (by omega)]; simp only [u2_r, rowU_r, s_S, s_B, s_F, b_S, b_B, b_F, f_S, f_B, nfl_S, nfl_B, Nat.reduceEqDiff, false_and, and_false, true_and, and_true, and_self, if_true, if_false, reduceIte, ite_self, or_self, or_false, false_or, or_true, true_or, false_implies, implies_true, true_implies, Nat.reduceLeDiff, not_true_eq_false, not_false_eq_true, ne_eq]; rw [t3, p2]
    · rw [if_neg q1, if_neg (by omega)]; simp only [u2_r, rowU_r, s_S, s_B, s_F, b_S, b_B, b_F, f_S, f_B, nfl_S, nfl_B, Nat.reduceEqDiff, false_and, and_false, true_and, and_true, and_self, if_true, if_false, reduceIte, ite_self, or_self, or_false, false_or, or_true, true_or, false_implies, implies_true, true_implies, Nat.reduceLeDiff, not_true_eq_false, not_false_eq_true, ne_eq]; rw [t3, p2]
  have fin : ∀ (M3 : sm_M) (w s' : Nat) x9, w = (if mn = 1 then 1 - tg else tg) → s' = (if mn = 1 ∧ len - o < many then 3 else if la = 1 then 1 else 0) → RM a ra (sm_u2 (sm_u2 R2 66 (10 * d + k) (nI w)) 73 t (nI s')) M3 → sm_Run (D + 7) 185 412 [some (.inr (some a)), some (.inl (nI (10 * d + k))), some (.inl (nI t)), some (.inl x3), some (.inl x4), some (.inl (nI 1)), some (.inl (nI 0)), some (.inl (nI 0)), some (.inl 1), x9] [] M3 (fun v M' => v = some (.inl (nI 0)) ∧ ∃ R', RM a ra R' M' ∧ K60 R R' ∧ XR (sv9 (sv8 (P', true)) t) R') := by
    intro M3 w s' x9 ew es h3'
    have fin1 : XR (sv8 (P', true)) (sm_u2 (sm_u2 R2 66 (10 * d + k) (nI w)) 73 t (nI s')) := by
      refine ctl_ack (R := sm_u2 (sm_u2 (tkR (sm_u2 R 76 t (nI 0)) t j o len many mn) 66 (10 * d + k) (nI w)) 73 t (nI s')) (R3 := R2) ?_ y1 (fun f i hf => by rw [u2_r, if_neg (by omega), u2_r, if_neg (by omega)]) (fun f i hf => ?_)
      · have k1 : ∀ f i, ¬ ((f = 66 ∧ i = 10 * d + k) ∨ (f = 73 ∧ i = t)) → sm_u2 (sm_u2 (tkR (sm_u2 R 76 t (nI 0)) t j o len many mn) 66 (10 * d + k) (nI w)) 73 t (nI s') f i = tkR (sm_u2 R 76 t (nI 0)) t j o len many mn f i := fun f i hf => by rw [u2_r, if_neg (by omega), u2_r, if_neg (by omega)]
        refine pip_fin hX hH hp hP hx (by rw [ei]; exact hs) hb ?_ (fun f i hn => ?_) ?_ ?_ ?_ (fun i hi hq => ?_) ?_ ?_
        · rw [e36]
          split
          · rw [kpl_len (by omega) (by omega)]
          · rfl
        · rw [k1 f i (by omega)]
          unfold tkR tkR1
          split
          · split
            · rw [u2_r, if_neg (by omega), u2_r, if_neg (by omega), rowU_r, if_neg (by omega), u2_r, if_neg (by omega)]
            · rw [u2_r, if_neg (by omega), rowU_r, if_neg (by omega), u2_r, if_neg (by omega)]
          · rw [u2_r, if_neg (by omega)]
        · rw [e211]; simp only [u2_r, rowU_r, s_S, s_B, s_F, b_S, b_B, b_F, f_S, f_B, nfl_S, nfl_B, Nat.reduceEqDiff, false_and, and_false, true_and, and_true, and_self, if_true, if_false, reduceIte, ite_self, or_self, or_false, false_or, or_true, true_or, false_implies, implies_true, true_implies, Nat.reduceLeDiff, not_true_eq_false, not_false_eq_true, ne_eq]; rw [es]
        · rw [k1 _ _ (by omega), e210]
          unfold tkR tkR1
          by_cases q1 : mn = 1
          · rw [if_pos q1, if_pos q1]
            split
            · simp only [u2_r, rowU_r, s_S, s_B, s_F, b_S, b_B, b_F, f_S, f_B, nfl_S, nfl_B, Nat.reduceEqDiff, false_and, and_false, true_and, and_true, and_self, if_true, if_false, reduceIte, ite_self, or_self, or_false, false_or, or_true, true_or, false_implies, implies_true, true_implies, Nat.reduceLeDiff, not_true_eq_false, not_false_eq_true, ne_eq]
            · simp only [u2_r, rowU_r, s_S, s_B, s_F, b_S, b_B, b_F, f_S, f_B, nfl_S, nfl_B, Nat.reduceEqDiff, false_and, and_false, true_and, and_true, and_self, if_true, if_false, reduceIte, ite_self, or_self, or_false, false_or, or_true, true_or, false_implies, implies_true, true_implies, Nat.reduceLeDiff, not_true_eq_false, not_false_eq_true, ne_eq]
          · rw [if_neg q1, if_neg q1]; simp only [u2_r, rowU_r, s_S, s_B, s_F, b_S, b_B, b_F, f_S, f_B, nfl_S, nfl_B, Nat.reduceEqDiff, false_and, and_false, true_and, and_true, and_self, if_true, if_false, reduceIte, ite_self, or_self, or_false, false_or, or_true, true_or, false_implies, implies_true, true_implies, Nat.reduceLeDiff, not_true_eq_false, not_false_eq_true, ne_eq]; exact t4
        · rw [k1 _ _ (by omega), tkR_o (by omega), e212]; simp only [u2_r, rowU_r, s_S, s_B, s_F, b_S, b_B, b_F, f_S, f_B, nfl_S, nfl_B, Nat.reduceEqDiff, false_and, and_false, true_and, and_true, and_self, if_true, if_false, reduceIte, ite_self, or_self, or_false, false_or, or_true, true_or, false_implies, implies_true, true_implies, Nat.reduceLeDiff, not_true_eq_false, not_false_eq_true, ne_eq]
        · rw [k1 _ _ (by omega), e36]
          have hq : i < s_ P' 210 t := by
            rcases hq with q | q
            · exact absurd q h3
            · exact q
          rw [e210] at hq
          have k42 := (hX.2.2.2 j hj hj').2.2.2.2.2.1
          by_cases q1 : mn = 1
          · rw [if_pos q1] at hq ⊢
            have e81 : tkR (sm_u2 R 76 t (nI 0)) t j o len many mn 81 (100 * t + i) = if o ≤ i then R 42 (100 * j + (i - o)) else R 81 (100 * t + i) := by
              unfold tkR tkR1
              rw [if_pos q1]
              have e' : rowU (sm_u2 R 76 t (nI 0)) 81 (100 * t + o) (min many (len - o)) (fun i => sm_u2 R 76 t (nI 0) 42 (100 * j + i)) 81 (100 * t + i) = if o ≤ i then R 42 (100 * j + (i - o)) else R 81 (100 * t + i) := by
                rw [rowU_r]
                by_cases q2 : o ≤ i
                · rw [if_pos (by omega), if_pos q2, show 100 * t + i - (100 * t + o) = i - o by omega]; simp only [u2_r, rowU_r, s_S, s_B, s_F, b_S, b_B, b_F, f_S, f_B, nfl_S, nfl_B, Nat.reduceEqDiff, false_and, and_false, true_and, and_true, and_self, if_true, if_false, reduceIte, ite_self, or_self, or_false, false_or, or_true, true_or, false_implies, implies_true, true_implies, Nat.reduceLeDiff, not_true_eq_false, not_false_eq_true, ne_eq]
                · rw [if_neg (by omega), if_neg q2]; simp only [u2_r, rowU_r, s_S, s_B, s_F, b_S, b_B, b_F, f_S, f_B, nfl_S, nfl_B, Nat.reduceEqDiff, false_and, and_false, true_and, and_true, and_self, if_true, if_false, reduceIte, ite_self, or_self, or_false, false_or, or_true, true_or, false_implies, implies_true, true_implies, Nat.reduceLeDiff, not_true_eq_false, not_false_eq_true, ne_eq]
              split
              · rw [u2_r, if_neg (by omega), u2_r, if_neg (by omega)]; exact e'
              · rw [u2_r, if_neg (by omega)]; exact e'
            rw [e81, kpl_gd (by omega) (by omega)]
            by_cases q2 : o ≤ i
            · rw [if_pos q2, if_pos (by omega)]; exact k42 (i - o) (by omega)
            · rw [if_neg q2, if_neg (by omega)]; exact t7 i hi (Or.inr (by omega))
          · rw [if_neg q1] at hq ⊢
            have : tkR (sm_u2 R 76 t (nI 0)) t j o len many mn = sm_u2 R 76 t (nI 0) := by unfold tkR; rw [if_neg q1]
            rw [this]; simp only [u2_r, rowU_r, s_S, s_B, s_F, b_S, b_B, b_F, f_S, f_B, nfl_S, nfl_B, Nat.reduceEqDiff, false_and, and_false, true_and, and_true, and_self, if_true, if_false, reduceIte, ite_self, or_self, or_false, false_or, or_true, true_or, false_implies, implies_true, true_implies, Nat.reduceLeDiff, not_true_eq_false, not_false_eq_true, ne_eq]; exact t7 i hi (Or.inr (by omega))
        · rw [ei, e185]; simp only [u2_r, rowU_r, s_S, s_B, s_F, b_S, b_B, b_F, f_S, f_B, nfl_S, nfl_B, Nat.reduceEqDiff, false_and, and_false, true_and, and_true, and_self, if_true, if_false, reduceIte, ite_self, or_self, or_false, false_or, or_true, true_or, false_implies, implies_true, true_implies, Nat.reduceLeDiff, not_true_eq_false, not_false_eq_true, ne_eq]; rw [ew]
        · rw [ei, k1 _ _ (by omega), tkR_o (by omega), h184]; simp only [u2_r, rowU_r, s_S, s_B, s_F, b_S, b_B, b_F, f_S, f_B, nfl_S, nfl_B, Nat.reduceEqDiff, false_and, and_false, true_and, and_true, and_self, if_true, if_false, reduceIte, ite_self, or_self, or_false, false_or, or_true, true_or, false_implies, implies_true, true_implies, Nat.reduceLeDiff, not_true_eq_false, not_false_eq_true, ne_eq]; exact g6
      · by_cases q : (f = 66 ∧ i = 10 * d + k) ∨ (f = 73 ∧ i = t)
        · rcases q with ⟨rfl, rfl⟩ | ⟨rfl, rfl⟩
          · simp only [u2_r, rowU_r, s_S, s_B, s_F, b_S, b_B, b_F, f_S, f_B, nfl_S, nfl_B, Nat.reduceEqDiff, false_and, and_false, true_and, and_true, and_self, if_true, if_false, reduceIte, ite_self, or_self, or_false, false_or, or_true, true_or, false_implies, implies_true, true_implies, Nat.reduceLeDiff, not_true_eq_false, not_false_eq_true, ne_eq]
          · simp only [u2_r, rowU_r, s_S, s_B, s_F, b_S, b_B, b_F, f_S, f_B, nfl_S, nfl_B, Nat.reduceEqDiff, false_and, and_false, true_and, and_true, and_self, if_true, if_false, reduceIte, ite_self, or_self, or_false, false_or, or_true, true_or, false_implies, implies_true, true_implies, Nat.reduceLeDiff, not_true_eq_false, not_false_eq_true, ne_eq]
        · rw [u2_r, if_neg (by omega), u2_r, if_neg (by omega), u2_r, if_neg (by omega), u2_r, if_neg (by omega)]
          exact y3 f i (by omega) (by omega)
    have k8 : Fh P' (sv8 (P', true)) := fh_tr fh_rs (fh_carry fh_rf (fun d hd => by rw [rst_s (by omega)]; exact ex_86 hx hd))
    have k213 : s_ (sv8 (P', true)) 213 t = i := by
      rw [fh_s k8 (by decide), hs 213 t (by decide) (by unfold chP; omega)]; exact p6
    have k122 : s_ (sv8 (P', true)) 122 0 = s_ Q 122 0 := by
      rw [fh_s k8 (by decide)]; exact hs 122 0 (by decide) (by unfold chP; omega)
    have hq : PQ (sv8 (P', true)) t d k := by
      refine pq_cg (P := P') (pq_cg (pt_pq hp) (fun f j hf => ?_)) (fun f j hf => fh_s k8 (by omega))
      by_cases q : f = 184
      · subst q
        by_cases q' : j = i
        · rw [q']; exact h184
        · exact hs 184 j (by decide) (by unfold chP; omega)
      · exact hs f j (by omega) (by unfold chP; omega)
    have kk : K60 R (sm_u2 (sm_u2 R2 66 (10 * d + k) (nI w)) 73 t (nI s')) := k60_u (k60_u (fun f i hf => by rw [y3 f i (by omega) (by omega), tkR_o (by omega), u2_r, if_neg (by omega)]) (by decide)) (by decide)
    refine ru_mono (r_412 (D := D + 6) (x7 := 0) h3' fin1 hq (ex_sv9 fin1.1.1.1 (by rw [k122]; exact p1) (by rw [k213, ← ei]; exact p7)) (by decide)) ?_
    rintro v M' ⟨rfl, R', z1, z2, z3⟩
    exact ⟨rfl, R', z1, k60_tr kk z2, z3⟩
  have i66 : sm_in_ M2 (ra 66) (nI (10 * d + k)) := of_eq_true (rN_66 h2 (by omega))
  have i73 : sm_in_ M2 (ra 73) (nI t) := of_eq_true (rN_73 h2 (by omega))
  have m84 : (nI mn = 0) = (mn = 0) := propext (by rw [li_0, nI_eq (by omega) (by decide)])
  have l84 : (nI la = 0) = (la = 0) := propext (by rw [li_0, nI_eq (by omega) (by decide)])
  refine bb_185_298 ⟨h2.1, ?_⟩
  rw [rS_84 h2, y2, m84, l84, et, eH]
  have s0 : la = 0 → (if mn = 1 ∧ len - o < many then 3 else 0) = (if mn = 1 ∧ len - o < many then 3 else if la = 1 then 1 else 0) := fun q => by rw [if_neg (show ¬ la = 1 by omega)]
  have s1 : ¬ la = 0 → 1 = (if mn = 1 ∧ len - o < many then 3 else if la = 1 then 1 else 0) := fun q => by
    have := lm (by omega)
    rw [if_neg (by omega), if_pos (by omega)]
  refine ⟨fun q => ⟨ra 66, rd_r66 h2, of_eq_true (rA_66 h2), i66, of_eq_true (rW_66 h2), ?_⟩, fun q => ⟨ra 66, rd_r66 h2, of_eq_true (rA_66 h2), i66, of_eq_true (rW_66 h2), ?_⟩⟩
  · rw [rR_66 h2, r66]
    refine ⟨fun q1 => ⟨ra 73, by rw [Rp_j]; exact rd_r73 h2, of_eq_true (rA_73 h2), i73, of_eq_true (rW_73 h2), ?_⟩, fun q1 => ?_⟩
    · rw [Ip_r h2 (by decide) (by decide) (by decide) (by decide) (by decide), rR_73 h2, r73]
      exact fin _ tg _ _ (by rw [if_neg (by omega)]) (s0 q1) (rm_wr (rm_wr h2))
    · have := lm (by omega)
      omega
  · have e1 : 1 - sm_I M2 (ra 66) (10 * d + k) = nI (1 - tg) := by rw [rR_66 h2, r66, li_1, pk_sub i2]
    rw [e1]
    refine ⟨fun q1 => ⟨ra 73, by rw [Rp_j]; exact rd_r73 h2, of_eq_true (rA_73 h2), i73, of_eq_true (rW_73 h2), ?_⟩, fun q1 => ⟨ra 73, by rw [Rp_j]; exact rd_r73 h2, of_eq_true (rW_73 h2), i73, ?_⟩⟩
    · rw [Ip_r h2 (by decide) (by decide) (by decide) (by decide) (by decide), rR_73 h2, r73]
      exact fin _ (1 - tg) _ _ (by rw [if_pos (by omega)]) (s0 q1) (rm_wr (rm_wr h2))
    · exact fin _ (1 - tg) 1 _ (by rw [if_pos (by omega)]) (s1 q1) (rm_wr (rm_wr h2))
end HK
