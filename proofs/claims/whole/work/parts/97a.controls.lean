/-! The reference's controls: after the exchange. -/
section HH
variable {a : Nat} {ra : Nat → Nat} {R R' : Nat → Nat → Int32} {M : sm_M} {D : Nat} {P P' Q : pP} {d t : Nat} {r : Option Nat}
def CPost (a : Nat) (ra : Nat → Nat) (R : Nat → Nat → Int32) (Q : pP) (t : Nat) (r : Option Nat) (k1 : Nat) : Option sm_V → sm_M → Prop := fun v M' => v = some (.inl (nI (if k1 = 11 ∧ s_ Q 209 t ≠ 0 then 1 else 0))) ∧ ∃ R', RM a ra R' M' ∧ K60 R R' ∧ XR (sv8 (p_hearA (sv6 Q t r) t r)) R'
theorem ct_S {f i v : Nat} (h : CT P t) (hf : f = 186) : CT (pS P f i v) t := by
  subst hf
  unfold CT TI pid at *
  simp only [s_S, s_B, s_F, b_S, b_B, b_F, f_S, f_B, Nat.reduceEqDiff, false_and, and_false, true_and, and_true, and_self, if_true, if_false, reduceIte, ite_self]
  exact h
/-- the bytes were taken -/
theorem ctl_dat0 {j tg o len many : Nat} {x3 x4 : Int32} {z8 : Option sm_V} (h : RM a ra R M) (hX : XW Q R) (hH : HREL Q R) (hc : CT Q t) (h9 : s_ Q 209 t = 1) (h3 : s_ Q 203 t ≠ 0) (hj : j < 60) (hj' : j < s_ Q 228 0) (h50 : R 50 0 = nI j) (h82 : R 82 0 = nI (s_ Q 141 j)) (hd : isDat (s_ Q 141 j)) (hS : s_ Q 228 0 + 1 < 2 ^ 31) (eo : s_ Q 210 t = o) (el : (b_ Q 36 t).length = len) (em : (b_ Q 7 j).length = many) (eg : s_ Q 185 0 = tg) (hP : FHo Q P') (hx : EX P') (hs : ∀ f j, hoF f → ¬ chP t 0 f j → s_ P' f j = s_ Q f j) (hb : ∀ c j, hostB c j → ¬ (c = 36 ∧ j = t) → b_ P' c j = b_ Q c j) (e212 : s_ P' 212 t = 0) (e210 : s_ P' 210 t = if mnN (s_ Q 141 j) tg = 1 then o + min many (len - o) else o) (e211 : s_ P' 211 t = if mnN (s_ Q 141 j) tg = 1 ∧ len - o < many then 3 else 0) (e185 : s_ P' 185 0 = if mnN (s_ Q 141 j) tg = 1 then 1 - tg else tg) (e209 : s_ P' 211 t = 0 → s_ P' 209 t = if lastN o len many (s_ Q 202 t) (mnN (s_ Q 141 j) tg) = 1 then 2 else 1) (e36 : b_ P' 36 t = if mnN (s_ Q 141 j) tg = 1 then kpl (b_ Q 36 t) (b_ Q 7 j) o (min many (len - o)) else b_ Q 36 t) : sm_Run (D + 7) 184 416 [some (.inr (some a)), some (.inl (nI t)), some (.inl (nI (s_ Q 200 t))), some (.inl x3), some (.inl x4), some (.inl (nI 1)), some (.inl (nI 1)), some (.inl (nI 0)), z8, none] [] M (fun v M' => v = some (.inl (nI 0)) ∧ ∃ R', RM a ra R' M' ∧ K60 R R' ∧ XR (sv8 (P', true)) R') := by
  obtain ⟨c1, c2, c3, c4, c5, c6, c7, c8, c9, c10, c11, c12, c13, c14⟩ := id hc
  obtain ⟨t1, t2, t3, t4, t5, t6, t7, t8⟩ := hH.2.2.1 t c1
  obtain ⟨d1, d2, d3⟩ := t8 c2
  obtain ⟨f1, f2, -⟩ := d3 c3
  obtain ⟨i1, i2, i3, i4, i5⟩ := id c5
  have f2 := f2 (by omega)
  rw [c2, eg] at i2
  rw [eg] at f2
  rw [eo] at t4 i1
  rw [el] at t5 i1
  have l36 := ex_36 hX.1.1.1 c1
  rw [el] at l36
  have lt := ex_122 hX.1.1.1
  have l7 := ex_7 hX.1.1.1 (show j < 66 by omega)
  rw [em] at l7
  have p58 : R 58 (s_ Q 200 t) = nI (s_ Q 202 t) := by rw [(hH.2.1 _ c4).2.1, c9]
  have h1 := rm_wr h (f := 76) (j := t) (v := nI 0)
  have x1 : XW P' (sm_u2 R 76 t (nI 0)) := xw_ho hX hx hP (fun f i hf => by rw [u2_r, if_neg (by omega)])
  have e141 : s_ P' 141 j = s_ Q 141 j := hP.1 _ _ (by omega)
  have e7 : b_ P' 7 j = b_ Q 7 j := hP.2.1 _ _ (by unfold hostB; omega)
  have e228 : s_ P' 228 0 = s_ Q 228 0 := hP.1 _ _ (by omega)
  have et : (nI t).toNatClampNeg = t := nI_clamp (by omega)
  have ed : (nI (s_ Q 200 t)).toNatClampNeg = s_ Q 200 t := nI_clamp (by omega)
  have tk := r_takes (D := D) (t := t) (j := j) (o := o) (len := len) (tg := tg) (sz := s_ Q 202 t) h1 x1 (by rw [e228]; exact hS) (by omega) hj (by rw [e228]; exact hj') (by simp only [u2_r, rowU_r, s_S, s_B, s_F, b_S, b_B, b_F, f_S, f_B, nfl_S, nfl_B, Nat.reduceEqDiff, false_and, and_false, true_and, and_true, and_self, if_true, if_false, reduceIte, ite_self, or_self, or_false, false_or, or_true, true_or, false_implies, implies_true, true_implies, Nat.reduceLeDiff, not_true_eq_false, not_false_eq_true, ne_eq]; exact h50) (by simp only [u2_r, rowU_r, s_S, s_B, s_F, b_S, b_B, b_F, f_S, f_B, nfl_S, nfl_B, Nat.reduceEqDiff, false_and, and_false, true_and, and_true, and_self, if_true, if_false, reduceIte, ite_self, or_self, or_false, false_or, or_true, true_or, false_implies, implies_true, true_implies, Nat.reduceLeDiff, not_true_eq_false, not_false_eq_true, ne_eq]; rw [e141]; exact h82) (by rw [e141]; exact hd) (by simp only [u2_r, rowU_r, s_S, s_B, s_F, b_S, b_B, b_F, f_S, f_B, nfl_S, nfl_B, Nat.reduceEqDiff, false_and, and_false, true_and, and_true, and_self, if_true, if_false, reduceIte, ite_self, or_self, or_false, false_or, or_true, true_or, false_implies, implies_true, true_implies, Nat.reduceLeDiff, not_true_eq_false, not_false_eq_true, ne_eq]; exact t4) (by simp only [u2_r, rowU_r, s_S, s_B, s_F, b_S, b_B, b_F, f_S, f_B, nfl_S, nfl_B, Nat.reduceEqDiff, false_and, and_false, true_and, and_true, and_self, if_true, if_false, reduceIte, ite_self, or_self, or_false, false_or, or_true, true_or, false_implies, implies_true, true_implies, Nat.reduceLeDiff, not_true_eq_false, not_false_eq_true, ne_eq]; exact t5) i1 l36 i2 (by omega)
  rw [e141, e7, em] at tk
  have mle := mn_le (k := s_ Q 141 j) (tg := tg)
  have lle := last_le (o := o) (len := len) (many := many) (sz := s_ Q 202 t) (mn := mnN (s_ Q 141 j) tg)
  generalize hmn : mnN (s_ Q 141 j) tg = mn at *
  generalize hla : lastN o len many (s_ Q 202 t) mn = la at *
  refine bb_184_416 ⟨h.1, ra 76, rd_r76 h, of_eq_true (rW_76 h), of_eq_true (rN_76 h (by omega)), fun _ => ⟨fun q => absurd (show nI 1 = nI 0 from q) (by decide), fun _ => ⟨ra 78, by rw [Rp_j]; exact rd_r78 h, of_eq_true (rA_78 h), of_eq_true (rN_78 h (by omega)), ra 58, by rw [Rp_j]; exact rd_r58 h, of_eq_true (rA_58 h), of_eq_true (rN_58 h c4), ?_⟩⟩, fun q => absurd (show nI 1 = nI 0 from Decidable.not_not.mp q) (by decide)⟩
  rw [et, ed, Ip_r h (by decide) (by decide) (by decide) (by decide) (by decide), Ip_r h (by decide) (by decide) (by decide) (by decide) (by decide), rR_78 h, rR_58 h, f2, p58]
  refine ru_mono tk ?_
  rintro v M2 ⟨rfl, R2, h2, y1, y2, y3⟩
  have r78 : R2 78 t = nI tg := by rw [y3 _ _ (by omega) (by omega), tkR_o (by omega)]; simp only [u2_r, rowU_r, s_S, s_B, s_F, b_S, b_B, b_F, f_S, f_B, nfl_S, nfl_B, Nat.reduceEqDiff, false_and, and_false, true_and, and_true, and_self, if_true, if_false, reduceIte, ite_self, or_self, or_false, false_or, or_true, true_or, false_implies, implies_true, true_implies, Nat.reduceLeDiff, not_true_eq_false, not_false_eq_true, ne_eq]; exact f2
  -- the rows as they end
  have fin : ∀ (M3 : sm_M) (w s' : Nat), w = (if mn = 1 then 1 - tg else tg) → s' = (if la = 1 then 2 else 1) → RM a ra (sm_u2 (sm_u2 R2 78 t (nI w)) 77 t (nI s')) M3 → ∃ R', RM a ra R' M3 ∧ K60 R R' ∧ XR (sv8 (P', true)) R' := by
    intro M3 w s' ew es h3'
    refine ⟨_, h3', (fun f i hf => by rw [u2_r, if_neg (by omega), u2_r, if_neg (by omega), y3 f i (by omega) (by omega), tkR_o (by omega), u2_r, if_neg (by omega)]), ?_⟩
    refine ctl_ack (R := sm_u2 (sm_u2 (tkR (sm_u2 R 76 t (nI 0)) t j o len many mn) 78 t (nI w)) 77 t (nI s')) (R3 := R2) ?_ y1 (fun f i hf => by rw [u2_r, if_neg (by omega), u2_r, if_neg (by omega)]) (fun f i hf => ?_)
    · have k1 : ∀ f i, ¬ ((f = 77 ∨ f = 78) ∧ i = t) → sm_u2 (sm_u2 (tkR (sm_u2 R 76 t (nI 0)) t j o len many mn) 78 t (nI w)) 77 t (nI s') f i = tkR (sm_u2 R 76 t (nI 0)) t j o len many mn f i := fun f i hf => by rw [u2_r, if_neg (by omega), u2_r, if_neg (by omega)]
      refine ctl_fin hX hH hc hP hx hs hb ?_ (fun f i hn => ?_) ?_ ?_ ?_ (fun i hi hq => ?_) (fun q => ?_) (fun q _ => ?_)
      · rw [e36]
        split
        · rw [kpl_len (by omega) (by omega)]
        · rfl
      · rw [k1 f i (by omega)]
        unfold tkR tkR1
        split
        · split
          · rw [u2_r, if_neg (by omega), u2_r, if_neg (by omega), rowU_r, if_neg (by omega), u2_r, if_neg (by omega)]
          · rw [u2_r, if_neg (by omega), rowU_r, if_neg (by omega), u2_r, if_neg (by omega)]
        · rw [u2_r, if_neg (by omega)]
      · rw [k1 _ _ (by omega), e211]
        unfold tkR tkR1
        by_cases q1 : mn = 1
        · rw [if_pos q1]
          by_cases q2 : len - o < many
          · rw [if_pos q2, if_pos ⟨q1, q2⟩]; simp only [u2_r, rowU_r, s_S, s_B, s_F, b_S, b_B, b_F, f_S, f_B, nfl_S, nfl_B, Nat.reduceEqDiff, false_and, and_false, true_and, and_true, and_self, if_true, if_false, reduceIte, ite_self, or_self, or_false, false_or, or_true, true_or, false_implies, implies_true, true_implies, Nat.reduceLeDiff, not_true_eq_false, not_false_eq_true, ne_eq]
          · rw [if_neg q2, if_neg (by omega)]; simp only [u2_r, rowU_r, s_S, s_B, s_F, b_S, b_B, b_F, f_S, f_B, nfl_S, nfl_B, Nat.reduceEqDiff, false_and, and_false, true_and, and_true, and_self, if_true, if_false, reduceIte, ite_self, or_self, or_false, false_or, or_true, true_or, false_implies, implies_true, true_implies, Nat.reduceLeDiff, not_true_eq_false, not_false_eq_true, ne_eq]; rw [t3, c3]
        · rw [if_neg q1, if_neg (by omega)]; simp only [u2_r, rowU_r, s_S, s_B, s_F, b_S, b_B, b_F, f_S, f_B, nfl_S, nfl_B, Nat.reduceEqDiff, false_and, and_false, true_and, and_true, and_self, if_true, if_false, reduceIte, ite_self, or_self, or_false, false_or, or_true, true_or, false_implies, implies_true, true_implies, Nat.reduceLeDiff, not_true_eq_false, not_false_eq_true, ne_eq]; rw [t3, c3]
      · rw [k1 _ _ (by omega), e210]
        unfold tkR tkR1
        by_cases q1 : mn = 1
        · rw [if_pos q1, if_pos q1]
          split
          · simp only [u2_r, rowU_r, s_S, s_B, s_F, b_S, b_B, b_F, f_S, f_B, nfl_S, nfl_B, Nat.reduceEqDiff, false_and, and_false, true_and, and_true, and_self, if_true, if_false, reduceIte, ite_self, or_self, or_false, false_or, or_true, true_or, false_implies, implies_true, true_implies, Nat.reduceLeDiff, not_true_eq_false, not_false_eq_true, ne_eq]
          · simp only [u2_r, rowU_r, s_S, s_B, s_F, b_S, b_B, b_F, f_S, f_B, nfl_S, nfl_B, Nat.reduceEqDiff, false_and, and_false, true_and, and_true, and_self, if_true, if_false, reduceIte, ite_self, or_self, or_false, false_or, or_true, true_or, false_implies, implies_true, true_implies, Nat.reduceLeDiff, not_true_eq_false, not_false_eq_true, ne_eq]
        · rw [if_neg q1, if_neg q1]; simp only [u2_r, rowU_r, s_S, s_B, s_F, b_S, b_B, b_F, f_S, f_B, nfl_S, nfl_B, Nat.reduceEqDiff, false_and, and_false, true_and, and_true, and_self, if_true, if_false, reduceIte, ite_self, or_self, or_false, false_or, or_true, true_or, false_implies, implies_true, true_implies, Nat.reduceLeDiff, not_true_eq_false, not_false_eq_true, ne_eq]; exact t4
      · rw [k1 _ _ (by omega), tkR_o (by omega), e212]; simp only [u2_r, rowU_r, s_S, s_B, s_F, b_S, b_B, b_F, f_S, f_B, nfl_S, nfl_B, Nat.reduceEqDiff, false_and, and_false, true_and, and_true, and_self, if_true, if_false, reduceIte, ite_self, or_self, or_false, false_or, or_true, true_or, false_implies, implies_true, true_implies, Nat.reduceLeDiff, not_true_eq_false, not_false_eq_true, ne_eq]
      · rw [k1 _ _ (by omega), e36]
        have hq : i < s_ P' 210 t := by
          rcases hq with q | q
          · exact absurd q h3
          · exact q
        rw [e210] at hq
        have k42 := (hX.2.2.2 j hj hj').2.2.2.2.2.1
        by_cases q1 : mn = 1
        · rw [if_pos q1] at hq ⊢
          have e81 : tkR (sm_u2 R 76 t (nI 0)) t j o len many mn 81 (100 * t + i) = if o ≤ i then R 42 (100 * j + (i - o)) else R 81 (100 * t + i) := by
            unfold tkR tkR1
            rw [if_pos q1]
            have e' : rowU (sm_u2 R 76 t (nI 0)) 81 (100 * t + o) (min many (len - o)) (fun i => sm_u2 R 76 t (nI 0) 42 (100 * j + i)) 81 (100 * t + i) = if o ≤ i then R 42 (100 * j + (i - o)) else R 81 (100 * t + i) := by
              rw [rowU_r]
              by_cases q2 : o ≤ i
              · rw [if_pos (by omega), if_pos q2, show 100 * t + i - (100 * t + o) = i - o by omega]; simp only [u2_r, rowU_r, s_S, s_B, s_F, b_S, b_B, b_F, f_S, f_B, nfl_S, nfl_B, Nat.reduceEqDiff, false_and, and_false, true_and, and_true, and_self, if_true, if_false, reduceIte, ite_self, or_self, or_false, false_or, or_true, true_or, false_implies, implies_true, true_implies, Nat.reduceLeDiff, not_true_eq_false, not_false_eq_true, ne_eq]
              · rw [if_neg (by omega), if_neg q2]; simp only [u2_r, rowU_r, s_S, s_B, s_F, b_S, b_B, b_F, f_S, f_B, nfl_S, nfl_B, Nat.reduceEqDiff, false_and, and_false, true_and, and_true, and_self, if_true, if_false, reduceIte, ite_self, or_self, or_false, false_or, or_true, true_or, false_implies, implies_true, true_implies, Nat.reduceLeDiff, not_true_eq_false, not_false_eq_true, ne_eq]
            split
            · rw [u2_r, if_neg (by omega), u2_r, if_neg (by omega)]; exact e'
            · rw [u2_r, if_neg (by omega)]; exact e'
          rw [e81, kpl_gd (by omega) (by omega)]
          by_cases q2 : o ≤ i
          · rw [if_pos q2, if_pos (by omega)]; exact k42 (i - o) (by omega)
          · rw [if_neg q2, if_neg (by omega)]; exact t7 i hi (Or.inr (by omega))
        · rw [if_neg q1] at hq ⊢
          have : tkR (sm_u2 R 76 t (nI 0)) t j o len many mn = sm_u2 R 76 t (nI 0) := by unfold tkR; rw [if_neg q1]
          rw [this]; simp only [u2_r, rowU_r, s_S, s_B, s_F, b_S, b_B, b_F, f_S, f_B, nfl_S, nfl_B, Nat.reduceEqDiff, false_and, and_false, true_and, and_true, and_self, if_true, if_false, reduceIte, ite_self, or_self, or_false, false_or, or_true, true_or, false_implies, implies_true, true_implies, Nat.reduceLeDiff, not_true_eq_false, not_false_eq_true, ne_eq]; exact t7 i hi (Or.inr (by omega))
      · rw [e209 q]; simp only [u2_r, rowU_r, s_S, s_B, s_F, b_S, b_B, b_F, f_S, f_B, nfl_S, nfl_B, Nat.reduceEqDiff, false_and, and_false, true_and, and_true, and_self, if_true, if_false, reduceIte, ite_self, or_self, or_false, false_or, or_true, true_or, false_implies, implies_true, true_implies, Nat.reduceLeDiff, not_true_eq_false, not_false_eq_true, ne_eq]; rw [es]
      · rw [e185]; simp only [u2_r, rowU_r, s_S, s_B, s_F, b_S, b_B, b_F, f_S, f_B, nfl_S, nfl_B, Nat.reduceEqDiff, false_and, and_false, true_and, and_true, and_self, if_true, if_false, reduceIte, ite_self, or_self, or_false, false_or, or_true, true_or, false_implies, implies_true, true_implies, Nat.reduceLeDiff, not_true_eq_false, not_false_eq_true, ne_eq]; rw [ew]
    · by_cases q : (f = 77 ∨ f = 78) ∧ i = t
      · rcases q with ⟨rfl | rfl, rfl⟩
        · simp only [u2_r, rowU_r, s_S, s_B, s_F, b_S, b_B, b_F, f_S, f_B, nfl_S, nfl_B, Nat.reduceEqDiff, false_and, and_false, true_and, and_true, and_self, if_true, if_false, reduceIte, ite_self, or_self, or_false, false_or, or_true, true_or, false_implies, implies_true, true_implies, Nat.reduceLeDiff, not_true_eq_false, not_false_eq_true, ne_eq]
        · simp only [u2_r, rowU_r, s_S, s_B, s_F, b_S, b_B, b_F, f_S, f_B, nfl_S, nfl_B, Nat.reduceEqDiff, false_and, and_false, true_and, and_true, and_self, if_true, if_false, reduceIte, ite_self, or_self, or_false, false_or, or_true, true_or, false_implies, implies_true, true_implies, Nat.reduceLeDiff, not_true_eq_false, not_false_eq_true, ne_eq]
      · rw [u2_r, if_neg (by omega), u2_r, if_neg (by omega), u2_r, if_neg (by omega), u2_r, if_neg (by omega)]
        exact y3 f i (by omega) (by omega)
  have i78 : sm_in_ M2 (ra 78) (nI t) := of_eq_true (rN_78 h2 (by omega))
  have i77 : sm_in_ M2 (ra 77) (nI t) := of_eq_true (rN_77 h2 (by omega))
  have m84 : (nI mn = 0) = (mn = 0) := propext (by rw [li_0, nI_eq (by omega) (by decide)])
  have l84 : (nI la = 0) = (la = 0) := propext (by rw [li_0, nI_eq (by omega) (by decide)])
  refine bb_184_521 ⟨h2.1, ?_⟩
  rw [rS_84 h2, y2, m84, l84, et]
  refine ⟨fun q => ⟨ra 78, rd_r78 h2, of_eq_true (rA_78 h2), i78, of_eq_true (rW_78 h2), ?_⟩, fun q => ⟨ra 78, rd_r78 h2, of_eq_true (rA_78 h2), i78, of_eq_true (rW_78 h2), ?_⟩⟩
  · rw [rR_78 h2, r78]
    refine ⟨fun q1 => ⟨ra 77, by rw [Rp_j]; exact rd_r77 h2, of_eq_true (rW_77 h2), i77, rfl, ?_⟩, fun q1 => ⟨ra 77, by rw [Rp_j]; exact rd_r77 h2, of_eq_true (rW_77 h2), i77, rfl, ?_⟩⟩
    · exact fin _ tg 1 (by rw [if_neg (by omega)]) (by rw [if_neg (by omega)]) (rm_wr (rm_wr h2))
    · exact fin _ tg 2 (by rw [if_neg (by omega)]) (by rw [if_pos (by omega)]) (rm_wr (rm_wr h2))
  · have e1 : 1 - sm_I M2 (ra 78) t = nI (1 - tg) := by rw [rR_78 h2, r78, li_1, pk_sub i2]
    rw [e1]
    refine ⟨fun q1 => ⟨ra 77, by rw [Rp_j]; exact rd_r77 h2, of_eq_true (rW_77 h2), i77, rfl, ?_⟩, fun q1 => ⟨ra 77, by rw [Rp_j]; exact rd_r77 h2, of_eq_true (rW_77 h2), i77, rfl, ?_⟩⟩
    · exact fin _ (1 - tg) 1 (by rw [if_pos (by omega)]) (by rw [if_neg (by omega)]) (rm_wr (rm_wr h2))
    · exact fin _ (1 - tg) 2 (by rw [if_pos (by omega)]) (by rw [if_pos (by omega)]) (rm_wr (rm_wr h2))
theorem r_ctlPost {x5 x6 x7 : Nat} {x3 x4 : Int32} {z8 : Option sm_V} (h : RM a ra R M) (hX : XW Q R) (hH : HREL Q R) (hc : CT Q t) (h9 : s_ Q 209 t ≠ 0) (h82 : R 82 0 = nE (hrd (Q, r))) (h50 : ∀ j, r = some j → R 50 0 = nI j ∧ j < 60 ∧ j < s_ Q 228 0) (hS : s_ Q 228 0 + 1 < 2 ^ 31) (h126 : s_ Q 126 0 + 1 < 2 ^ 31) (e5 : x5 = if s_ Q 209 t = 1 then 1 else 0) (e6 : x6 = if asks Q t then 1 else 0) (e7 : x7 = if asks Q t then 0 else chk Q t) : sm_Run (D + 7) 184 313 [some (.inr (some a)), some (.inl (nI t)), some (.inl (nI (s_ Q 200 t))), some (.inl x3), some (.inl x4), some (.inl (nI x5)), some (.inl (nI x6)), some (.inl (nI x7)), z8, none] [] M (CPost a ra R Q t r (hrd (Q, r))) := by
  obtain ⟨c1, c2, c3, c4, c5, c6, c7, c8, c9, c10, c11, c12, c13, c14⟩ := id hc
  obtain ⟨t1, t2, t3, t4, t5, t6, t7, t8⟩ := hH.2.2.1 t c1
  obtain ⟨d1, d2, d3⟩ := t8 c2
  obtain ⟨f1, f2, -⟩ := d3 c3
  obtain ⟨i1, i2, i3, i4, i5⟩ := id c5
  rw [c2] at i2
  have l36 := ex_36 hX.1.1.1 c1
  have lt := ex_122 hX.1.1.1
  have t336 : t < 336 := by omega
  have kb : ∀ j, r = some j → s_ Q 141 j < 16 := fun j e => by
    obtain ⟨q1, q2, q3⟩ := h50 j e
    exact (hX.1.2.1 j q2 q3).1.1
  have hk20 : hrd (Q, r) < 20 := by
    unfold hrd
    cases r with
    | none => show 0 < 20; omega
    | some j => dsimp only; have := kb j rfl; omega
  have hsm : ∀ n, n ≠ 0 → hrd (Q, r) = n → ∃ j, r = some j ∧ s_ Q 141 j + 1 = n := by
    intro n hn e
    unfold hrd at e
    cases r with
    | none => exact absurd e.symm hn
    | some j => exact ⟨j, rfl, e⟩
  have hso : ∀ j, r = some j → hrd (Q, r) = s_ Q 141 j + 1 := fun j e => by subst e; rfl
  have exA : EX (p_hearA (sv6 Q t r) t r).1 := by
    by_cases q : ∃ j, r = some j ∧ s_ Q 141 j = 10
    · obtain ⟨j, ej, ek⟩ := q
      have e : sv6 Q t r = pS Q 186 0 (s_ Q 126 0 + 1) := by subst ej; unfold sv6; dsimp only; rw [if_pos ⟨ek, h9⟩, c2]
      rw [e]
      refine ex_hearA (ex_186 hX.1.1.1 h126) (by simp only [s_S, s_B, s_F, b_S, b_B, b_F, f_S, f_B, Nat.reduceEqDiff, false_and, and_false, true_and, and_true, and_self, if_true, if_false, reduceIte, ite_self]; exact c1) (ct_S hc rfl).2.2.2.2.1 (fun j' e' => ?_)
      obtain ⟨q1, q2, q3⟩ := h50 j' e'
      exact ⟨by omega, by simp only [s_S, s_B, s_F, b_S, b_B, b_F, f_S, f_B, Nat.reduceEqDiff, false_and, and_false, true_and, and_true, and_self, if_true, if_false, reduceIte, ite_self]; exact kb j' e'⟩
    · rw [sv6_n (fun j ej c => q ⟨j, ej, c.1⟩)]
      exact ex_hearA hX.1.1.1 c1 c5 (fun j' e' => ⟨by have := (h50 j' e').2.1; omega, kb j' e'⟩)
  have v0 : hrd (Q, r) ≠ 11 → (if hrd (Q, r) = 11 ∧ s_ Q 209 t ≠ 0 then 1 else 0) = 0 := fun q => if_neg (fun c => q c.1)
  have n6 : hrd (Q, r) ≠ 11 → sv6 Q t r = Q := fun q => sv6_n (fun j ej c => q (by rw [hso j ej]; omega))
  -- j for the packet at hand
  obtain ⟨j0, hj0⟩ : ∃ j0, hrd (Q, r) ≠ 0 → r = some j0 := by
    cases r with
    | none => exact ⟨0, fun q => absurd rfl q⟩
    | some j => exact ⟨j, fun _ => rfl⟩
  refine r_313 (j := j0) (many := if r = some j0 then (b_ Q 7 j0).length else 0) (o := s_ Q 210 t) (tg := s_ Q 185 0) h t336 hk20 h82 (by rw [e5]; split <;> omega) (by rw [e6]; split <;> omega) (by rw [e7]; split; omega; unfold chk; split <;> omega) (fun q => ?_) ?_ t4 (by omega) (fun _ => f2 h9) i2 (fun q => ?_) (fun q1 q2 q3 q4 q5 => ?_) (fun q1 q2 q3 => ?_) (fun q1 q2 q3 q4 => ?_) (fun q1 q2 q3 => ?_) (fun q1 q2 q3 => ?_)
  · have e := hj0 q
    obtain ⟨g1, g2, g3⟩ := h50 j0 e
    rw [if_pos e]
    exact ⟨g1, g2, (hX.2.2.2 j0 g2 g3).2.2.2.2.1⟩
  · split
    · rename_i e
      exact ex_7 hX.1.1.1 (by have := (h50 j0 e).2.1; omega)
    · omega
  · -- NAK, STALL
    obtain ⟨j, ej, ek⟩ := hsm _ (by omega) rfl
    have c14 : (nE (hrd (Q, r)) = 14) = (hrd (Q, r) = 15) := propext (nE_I (a := hrd (Q, r)) (b := 14) (by omega) (by decide))
    have c10 : (nE (hrd (Q, r)) = 10) = (hrd (Q, r) = 11) := propext (nE_I (a := hrd (Q, r)) (b := 10) (by omega) (by decide))
    have et : (nI t).toNatClampNeg = t := nI_clamp (by omega)
    have i73 : sm_in_ M (ra 73) (nI t) := of_eq_true (rN_73 h (by omega))
    refine bb_184_331 ⟨h.1, ra 76, rd_r76 h, of_eq_true (rW_76 h), of_eq_true (rN_76 h (by omega)), ?_⟩
    rw [et, Ip_a h (by decide) (by decide), rS_82 h, h82, c14]
    refine ⟨fun q15 => ⟨ra 73, by rw [Rp_j]; exact rd_r73 h, of_eq_true (rW_73 h), i73, ?_⟩, fun q15 => ⟨ra 73, by rw [Rp_j]; exact rd_r73 h, of_eq_true (rW_73 h), i73, ?_⟩⟩
    · rw [Ip_a h (by decide) (by decide), Ip_a h (by decide) (by decide), rS_82 h, h82, c10]
      refine ⟨fun q11 => by omega, fun q11 => ?_⟩
      have q11 : hrd (Q, r) = 11 := Decidable.not_not.mp q11
      have e : sv6 Q t r = pS Q 186 0 (s_ Q 126 0 + 1) := by subst ej; unfold sv6; dsimp only; rw [if_pos ⟨by omega, h9⟩, c2]
      have eA : p_hearA (sv6 Q t r) t r = (pS (pS Q 186 0 (s_ Q 126 0 + 1)) 212 t 0, false) := by
        rw [e]; exact hA_nak ej (by simp only [s_S, s_B, s_F, b_S, b_B, b_F, f_S, f_B, Nat.reduceEqDiff, false_and, and_false, true_and, and_true, and_self, if_true, if_false, reduceIte, ite_self]; omega) (by simp only [s_S, s_B, s_F, b_S, b_B, b_F, f_S, f_B, Nat.reduceEqDiff, false_and, and_false, true_and, and_true, and_self, if_true, if_false, reduceIte, ite_self]; exact h9)
      refine ⟨by rw [if_pos ⟨q11, h9⟩]; rfl, ?_⟩
      rw [eA] at exA ⊢
      refine ⟨_, rm_wr (rm_wr h), (by (repeat' (first | exact k60_rf | (refine k60_u ?_ (by decide))))), ctl_fin (P' := pS (pS Q 186 0 (s_ Q 126 0 + 1)) 212 t 0) hX hH hc (fho_S (fho_S fho_rf (by decide)) (by decide)) exA (fun f j hf hn => ?_) (fun c j _ _ => rfl) rfl (fun f j hn => ?_) ?_ ?_ ?_ (fun i hi hq => ?_) (fun q => ?_) (fun q q' => ?_)⟩
      · unfold chP at hn; rw [s_S, if_neg (by omega), s_S, if_neg (by omega)]
      · rw [u2_r, if_neg (by omega), u2_r, if_neg (by omega)]
      · simp only [u2_r, rowU_r, s_S, s_B, s_F, b_S, b_B, b_F, f_S, f_B, nfl_S, nfl_B, Nat.reduceEqDiff, false_and, and_false, true_and, and_true, and_self, if_true, if_false, reduceIte, ite_self, or_self, or_false, false_or, or_true, true_or, false_implies, implies_true, true_implies, Nat.reduceLeDiff, not_true_eq_false, not_false_eq_true, ne_eq]; rw [c3]; rfl
      · simp only [u2_r, rowU_r, s_S, s_B, s_F, b_S, b_B, b_F, f_S, f_B, nfl_S, nfl_B, Nat.reduceEqDiff, false_and, and_false, true_and, and_true, and_self, if_true, if_false, reduceIte, ite_self, or_self, or_false, false_or, or_true, true_or, false_implies, implies_true, true_implies, Nat.reduceLeDiff, not_true_eq_false, not_false_eq_true, ne_eq]; exact t4
      · simp only [u2_r, rowU_r, s_S, s_B, s_F, b_S, b_B, b_F, f_S, f_B, nfl_S, nfl_B, Nat.reduceEqDiff, false_and, and_false, true_and, and_true, and_self, if_true, if_false, reduceIte, ite_self, or_self, or_false, false_or, or_true, true_or, false_implies, implies_true, true_implies, Nat.reduceLeDiff, not_true_eq_false, not_false_eq_true, ne_eq]; rfl
      · simp only [u2_r, rowU_r, s_S, s_B, s_F, b_S, b_B, b_F, f_S, f_B, nfl_S, nfl_B, Nat.reduceEqDiff, false_and, and_false, true_and, and_true, and_self, if_true, if_false, reduceIte, ite_self, or_self, or_false, false_or, or_true, true_or, false_implies, implies_true, true_implies, Nat.reduceLeDiff, not_true_eq_false, not_false_eq_true, ne_eq]; refine t7 i hi ?_; revert hq; simp only [u2_r, rowU_r, s_S, s_B, s_F, b_S, b_B, b_F, f_S, f_B, nfl_S, nfl_B, Nat.reduceEqDiff, false_and, and_false, true_and, and_true, and_self, if_true, if_false, reduceIte, ite_self, or_self, or_false, false_or, or_true, true_or, false_implies, implies_true, true_implies, Nat.reduceLeDiff, not_true_eq_false, not_false_eq_true, ne_eq]; exact id
      · simp only [u2_r, rowU_r, s_S, s_B, s_F, b_S, b_B, b_F, f_S, f_B, nfl_S, nfl_B, Nat.reduceEqDiff, false_and, and_false, true_and, and_true, and_self, if_true, if_false, reduceIte, ite_self, or_self, or_false, false_or, or_true, true_or, false_implies, implies_true, true_implies, Nat.reduceLeDiff, not_true_eq_false, not_false_eq_true, ne_eq]; exact f1
      · simp only [u2_r, rowU_r, s_S, s_B, s_F, b_S, b_B, b_F, f_S, f_B, nfl_S, nfl_B, Nat.reduceEqDiff, false_and, and_false, true_and, and_true, and_self, if_true, if_false, reduceIte, ite_self, or_self, or_false, false_or, or_true, true_or, false_implies, implies_true, true_implies, Nat.reduceLeDiff, not_true_eq_false, not_false_eq_true, ne_eq]; exact f2 h9
    · have q15 : hrd (Q, r) = 15 := Decidable.not_not.mp q15
      rw [Ip_a h (by decide) (by decide), Ip_a h (by decide) (by decide), rS_82 h, h82, c10]
      refine ⟨fun q11 => ?_, fun q11 => by omega⟩
      have eA : p_hearA (sv6 Q t r) t r = (pS (pS Q 212 t 0) 211 t 2, false) := by
        rw [n6 (by omega)]; exact hA_stall ej (by omega) h9
      refine ⟨by rw [v0 (by omega)]; rfl, ?_⟩
      rw [eA] at exA ⊢
      refine ⟨_, rm_wr (rm_wr h), (by (repeat' (first | exact k60_rf | (refine k60_u ?_ (by decide))))), ctl_fin (P' := pS (pS Q 212 t 0) 211 t 2) hX hH hc (fho_S (fho_S fho_rf (by decide)) (by decide)) exA (fun f j hf hn => ?_) (fun c j _ _ => rfl) rfl (fun f j hn => ?_) ?_ ?_ ?_ (fun i hi hq => ?_) (fun q => ?_) (fun q q' => ?_)⟩
      · unfold chP at hn; rw [s_S, if_neg (by omega), s_S, if_neg (by omega)]
      · rw [u2_r, if_neg (by omega), u2_r, if_neg (by omega)]
      · simp only [u2_r, rowU_r, s_S, s_B, s_F, b_S, b_B, b_F, f_S, f_B, nfl_S, nfl_B, Nat.reduceEqDiff, false_and, and_false, true_and, and_true, and_self, if_true, if_false, reduceIte, ite_self, or_self, or_false, false_or, or_true, true_or, false_implies, implies_true, true_implies, Nat.reduceLeDiff, not_true_eq_false, not_false_eq_true, ne_eq]; rfl
      · simp only [u2_r, rowU_r, s_S, s_B, s_F, b_S, b_B, b_F, f_S, f_B, nfl_S, nfl_B, Nat.reduceEqDiff, false_and, and_false, true_and, and_true, and_self, if_true, if_false, reduceIte, ite_self, or_self, or_false, false_or, or_true, true_or, false_implies, implies_true, true_implies, Nat.reduceLeDiff, not_true_eq_false, not_false_eq_true, ne_eq]; exact t4
      · simp only [u2_r, rowU_r, s_S, s_B, s_F, b_S, b_B, b_F, f_S, f_B, nfl_S, nfl_B, Nat.reduceEqDiff, false_and, and_false, true_and, and_true, and_self, if_true, if_false, reduceIte, ite_self, or_self, or_false, false_or, or_true, true_or, false_implies, implies_true, true_implies, Nat.reduceLeDiff, not_true_eq_false, not_false_eq_true, ne_eq]; rfl
      · simp only [u2_r, rowU_r, s_S, s_B, s_F, b_S, b_B, b_F, f_S, f_B, nfl_S, nfl_B, Nat.reduceEqDiff, false_and, and_false, true_and, and_true, and_self, if_true, if_false, reduceIte, ite_self, or_self, or_false, false_or, or_true, true_or, false_implies, implies_true, true_implies, Nat.reduceLeDiff, not_true_eq_false, not_false_eq_true, ne_eq]; refine t7 i hi ?_; revert hq; simp only [u2_r, rowU_r, s_S, s_B, s_F, b_S, b_B, b_F, f_S, f_B, nfl_S, nfl_B, Nat.reduceEqDiff, false_and, and_false, true_and, and_true, and_self, if_true, if_false, reduceIte, ite_self, or_self, or_false, false_or, or_true, true_or, false_implies, implies_true, true_implies, Nat.reduceLeDiff, not_true_eq_false, not_false_eq_true, ne_eq]; exact id
      · exfalso; revert q; simp only [u2_r, rowU_r, s_S, s_B, s_F, b_S, b_B, b_F, f_S, f_B, nfl_S, nfl_B, Nat.reduceEqDiff, false_and, and_false, true_and, and_true, and_self, if_true, if_false, reduceIte, ite_self, or_self, or_false, false_or, or_true, true_or, false_implies, implies_true, true_implies, Nat.reduceLeDiff, not_true_eq_false, not_false_eq_true, ne_eq] <;> (intro q; omega)
      · exfalso; revert q; simp only [u2_r, rowU_r, s_S, s_B, s_F, b_S, b_B, b_F, f_S, f_B, nfl_S, nfl_B, Nat.reduceEqDiff, false_and, and_false, true_and, and_true, and_self, if_true, if_false, reduceIte, ite_self, or_self, or_false, false_or, or_true, true_or, false_implies, implies_true, true_implies, Nat.reduceLeDiff, not_true_eq_false, not_false_eq_true, ne_eq] <;> (intro q; omega)
  · -- an error
    have eA : p_hearA (sv6 Q t r) t r = (p_err Q t, false) := by
      rw [n6 q1]
      by_cases cc : ∃ j, r = some j ∧ asks Q t ∧ isDat (s_ Q 141 j)
      · obtain ⟨j, ej, ca, cd⟩ := cc
        have ek := hso j ej
        rw [if_pos ca] at e6
        have p1 : s_ Q 209 t ≠ 1 := fun p1 => by
          rw [if_pos p1] at e5
          exact q4 ⟨e6, e5, by unfold isDat at cd; omega⟩
        have p2 : s_ Q 209 t = 2 := by omega
        rw [if_neg p1] at e5
        have e0 : r = some j0 := hj0 (by omega)
        rw [if_pos e0] at q5
        have e1 : j0 = j := by rw [ej] at e0; cases e0; rfl
        rw [e1] at q5
        rw [hA_dat ej cd ca]
        unfold p_takeD
        rw [if_pos p2, if_neg (fun c => q5 ⟨e6, e5, by omega, c.2⟩)]
      · refine hA_err (fun j ej => ?_)
        have ek := hso j ej
        refine ⟨fun c => cc ⟨j, ej, c⟩, fun c => ?_, fun c => by omega⟩
        rw [if_neg c.1] at e6
        exact q3 ⟨e6, by omega⟩
    rw [eA] at exA
    refine ru_mono (r_failed h (by omega) t6 i3) ?_
    rintro v M1 ⟨rfl, h1⟩
    refine bb_184_462 ⟨by rw [v0 q1]; rfl, ?_⟩
    rw [eA]
    exact ctl_err hX hH hc exA h1
  · -- bytes
    have ca : asks Q t := by
      refine Decidable.byContradiction (fun n => ?_)
      rw [if_neg n] at e6; omega
    have p1 : s_ Q 209 t = 1 := by
      refine Decidable.byContradiction (fun n => ?_)
      rw [if_neg n] at e5; omega
    obtain ⟨j, ej, ek⟩ := hsm _ (by omega) rfl
    obtain ⟨g1, g2, g3⟩ := h50 j ej
    have cd : isDat (s_ Q 141 j) := by unfold isDat; omega
    have h203 : s_ Q 203 t ≠ 0 := by unfold asks at ca; omega
    have eA : p_hearA (sv6 Q t r) t r = p_takeD Q t j := by rw [n6 (by omega)]; exact hA_dat ej cd ca
    have hP : FHo Q (p_takeD Q t j).1 := by rw [← hA_dat ej cd ca]; exact fho_hearA
    rw [eA] at exA
    have h82' : R 82 0 = nI (s_ Q 141 j) := by rw [h82, hso j ej, nE_s]
    rw [q1, q2, e7, if_pos ca]
    have fitE : tkf Q t j = min (b_ Q 7 j).length ((b_ Q 36 t).length - s_ Q 210 t) := rfl
    have l36' := ex_36 hX.1.1.1 c1
    have fin : ∀ P' : pP, p_takeD Q t j = (P', true) → (∀ f j, hoF f → ¬ chP t 0 f j → s_ P' f j = s_ Q f j) → (∀ c j, hostB c j → ¬ (c = 36 ∧ j = t) → b_ P' c j = b_ Q c j) → s_ P' 212 t = 0 → (s_ P' 210 t = if mnN (s_ Q 141 j) (s_ Q 185 0) = 1 then s_ Q 210 t + min (b_ Q 7 j).length ((b_ Q 36 t).length - s_ Q 210 t) else s_ Q 210 t) → (s_ P' 211 t = if mnN (s_ Q 141 j) (s_ Q 185 0) = 1 ∧ (b_ Q 36 t).length - s_ Q 210 t < (b_ Q 7 j).length then 3 else 0) → (s_ P' 185 0 = if mnN (s_ Q 141 j) (s_ Q 185 0) = 1 then 1 - s_ Q 185 0 else s_ Q 185 0) → (s_ P' 211 t = 0 → s_ P' 209 t = if lastN (s_ Q 210 t) (b_ Q 36 t).length (b_ Q 7 j).length (s_ Q 202 t) (mnN (s_ Q 141 j) (s_ Q 185 0)) = 1 then 2 else 1) → (b_ P' 36 t = if mnN (s_ Q 141 j) (s_ Q 185 0) = 1 then kpl (b_ Q 36 t) (b_ Q 7 j) (s_ Q 210 t) (min (b_ Q 7 j).length ((b_ Q 36 t).length - s_ Q 210 t)) else b_ Q 36 t) → sm_Run (D + 7) 184 416 [some (.inr (some a)), some (.inl (nI t)), some (.inl (nI (s_ Q 200 t))), some (.inl x3), some (.inl x4), some (.inl (nI 1)), some (.inl (nI 1)), some (.inl (nI 0)), z8, none] [] M (CPost a ra R Q t r (hrd (Q, r))) := by
      intro P' eP k1 k2 k3 k4 k5 k6 k7 k8
      rw [eP] at hP exA
      refine ru_mono (ctl_dat0 (D := D) h hX hH hc p1 h203 g2 g3 g1 h82' cd hS rfl rfl rfl rfl hP exA k1 k2 k3 k4 k5 k6 k7 k8) ?_
      rintro v M' ⟨rfl, R', y1, yk, y2⟩
      refine ⟨by rw [v0 (by omega)], R', y1, yk, ?_⟩
      rw [eA, eP]; exact y2
    have e0 : p_takeD Q t j = if tgo (s_ Q 141 j) ≠ s_ Q 185 0 then (pS Q 212 t 0, true) else if tkf Q t j < (b_ Q 7 j).length then (pS (p_tk1 Q t j) 211 t 3, true) else if s_ Q 210 t + tkf Q t j = (b_ Q 36 t).length ∨ (b_ Q 7 j).length < s_ Q 202 t then (p_endD (p_tk1 Q t j) t, true) else (p_tk1 Q t j, true) := by
      unfold p_takeD; rw [if_neg (by omega), c2]
    by_cases m1 : tgo (s_ Q 141 j) = s_ Q 185 0
    · have em : mnN (s_ Q 141 j) (s_ Q 185 0) = 1 := by unfold mnN; rw [if_pos m1]
      rw [if_neg (fun c => c m1)] at e0
      have tk1 : p_tk1 Q t j = pS (pB (pS (pS Q 212 t 0) 185 0 (1 - s_ Q 185 0)) 36 t (kpl (b_ Q 36 t) (b_ Q 7 j) (s_ Q 210 t) (tkf Q t j))) 210 t (s_ Q 210 t + tkf Q t j) := by unfold p_tk1; rw [c2]
      rw [em] at fin
      by_cases m2 : tkf Q t j < (b_ Q 7 j).length
      · rw [if_pos m2, tk1] at e0
        refine fin _ e0 (fun f j hf hn => ?_) (fun c j _ hn => ?_) (by simp only [s_S, s_B, s_F, b_S, b_B, b_F, f_S, f_B, Nat.reduceEqDiff, false_and, and_false, true_and, and_true, and_self, if_true, if_false, reduceIte, ite_self]) ?_ ?_ ?_ (fun q => ?_) ?_
        · unfold chP at hn; rw [s_S, if_neg (by omega), s_S, if_neg (by omega), s_B, s_S, if_neg (by omega), s_S, if_neg (by omega)]
        · rw [b_S, b_S, b_B, if_neg hn]; rfl
        · rw [if_pos rfl]; simp only [s_S, s_B, s_F, b_S, b_B, b_F, f_S, f_B, Nat.reduceEqDiff, false_and, and_false, true_and, and_true, and_self, if_true, if_false, reduceIte, ite_self]; rw [fitE]
        · rw [if_pos ⟨rfl, by omega⟩]; simp only [s_S, s_B, s_F, b_S, b_B, b_F, f_S, f_B, Nat.reduceEqDiff, false_and, and_false, true_and, and_true, and_self, if_true, if_false, reduceIte, ite_self]
        · rw [if_pos rfl]; simp only [s_S, s_B, s_F, b_S, b_B, b_F, f_S, f_B, Nat.reduceEqDiff, false_and, and_false, true_and, and_true, and_self, if_true, if_false, reduceIte, ite_self]
        · exfalso; revert q; simp only [s_S, s_B, s_F, b_S, b_B, b_F, f_S, f_B, Nat.reduceEqDiff, false_and, and_false, true_and, and_true, and_self, if_true, if_false, reduceIte, ite_self] <;> (intro q; omega)
        · rw [if_pos rfl]; simp only [s_S, s_B, s_F, b_S, b_B, b_F, f_S, f_B, Nat.reduceEqDiff, false_and, and_false, true_and, and_true, and_self, if_true, if_false, reduceIte, ite_self]; rw [fitE]
      · rw [if_neg m2] at e0
        by_cases m3 : s_ Q 210 t + tkf Q t j = (b_ Q 36 t).length ∨ (b_ Q 7 j).length < s_ Q 202 t
        · have eE : p_endD (p_tk1 Q t j) t = pS (p_tk1 Q t j) 209 t 2 := by
            unfold p_endD
            rw [if_pos]
            rw [tk1]; simp only [s_S, s_B, s_F, b_S, b_B, b_F, f_S, f_B, Nat.reduceEqDiff, false_and, and_false, true_and, and_true, and_self, if_true, if_false, reduceIte, ite_self]; rw [c2]; exact c7
          rw [if_pos m3, eE, tk1] at e0
          have la : lastN (s_ Q 210 t) (b_ Q 36 t).length (b_ Q 7 j).length (s_ Q 202 t) 1 = 1 := by
            unfold lastN; rw [if_pos ⟨rfl, by omega, by rw [← fitE]; exact m3⟩]
          refine fin _ e0 (fun f j hf hn => ?_) (fun c j _ hn => ?_) (by simp only [s_S, s_B, s_F, b_S, b_B, b_F, f_S, f_B, Nat.reduceEqDiff, false_and, and_false, true_and, and_true, and_self, if_true, if_false, reduceIte, ite_self]) ?_ ?_ ?_ (fun q => ?_) ?_
          · unfold chP at hn; rw [s_S, if_neg (by omega), s_S, if_neg (by omega), s_B, s_S, if_neg (by omega), s_S, if_neg (by omega)]
          · rw [b_S, b_S, b_B, if_neg hn]; rfl
          · rw [if_pos rfl]; simp only [s_S, s_B, s_F, b_S, b_B, b_F, f_S, f_B, Nat.reduceEqDiff, false_and, and_false, true_and, and_true, and_self, if_true, if_false, reduceIte, ite_self]; rw [fitE]
          · rw [if_neg (by omega)]; simp only [s_S, s_B, s_F, b_S, b_B, b_F, f_S, f_B, Nat.reduceEqDiff, false_and, and_false, true_and, and_true, and_self, if_true, if_false, reduceIte, ite_self]; exact c3
          · rw [if_pos rfl]; simp only [s_S, s_B, s_F, b_S, b_B, b_F, f_S, f_B, Nat.reduceEqDiff, false_and, and_false, true_and, and_true, and_self, if_true, if_false, reduceIte, ite_self]
          · rw [la, if_pos rfl]; simp only [s_S, s_B, s_F, b_S, b_B, b_F, f_S, f_B, Nat.reduceEqDiff, false_and, and_false, true_and, and_true, and_self, if_true, if_false, reduceIte, ite_self]
          · rw [if_pos rfl]; simp only [s_S, s_B, s_F, b_S, b_B, b_F, f_S, f_B, Nat.reduceEqDiff, false_and, and_false, true_and, and_true, and_self, if_true, if_false, reduceIte, ite_self]; rw [fitE]
        · rw [if_neg m3, tk1] at e0
          have la : lastN (s_ Q 210 t) (b_ Q 36 t).length (b_ Q 7 j).length (s_ Q 202 t) 1 = 0 := by
            unfold lastN; rw [if_neg (fun c => m3 (by rw [fitE]; exact c.2.2))]
          refine fin _ e0 (fun f j hf hn => ?_) (fun c j _ hn => ?_) (by simp only [s_S, s_B, s_F, b_S, b_B, b_F, f_S, f_B, Nat.reduceEqDiff, false_and, and_false, true_and, and_true, and_self, if_true, if_false, reduceIte, ite_self]) ?_ ?_ ?_ (fun q => ?_) ?_
          · unfold chP at hn; rw [s_S, if_neg (by omega), s_B, s_S, if_neg (by omega), s_S, if_neg (by omega)]
          · rw [b_S, b_B, if_neg hn]; rfl
          · rw [if_pos rfl]; simp only [s_S, s_B, s_F, b_S, b_B, b_F, f_S, f_B, Nat.reduceEqDiff, false_and, and_false, true_and, and_true, and_self, if_true, if_false, reduceIte, ite_self]; rw [fitE]
          · rw [if_neg (by omega)]; simp only [s_S, s_B, s_F, b_S, b_B, b_F, f_S, f_B, Nat.reduceEqDiff, false_and, and_false, true_and, and_true, and_self, if_true, if_false, reduceIte, ite_self]; exact c3
          · rw [if_pos rfl]; simp only [s_S, s_B, s_F, b_S, b_B, b_F, f_S, f_B, Nat.reduceEqDiff, false_and, and_false, true_and, and_true, and_self, if_true, if_false, reduceIte, ite_self]
          · rw [la, if_neg (by decide)]; simp only [s_S, s_B, s_F, b_S, b_B, b_F, f_S, f_B, Nat.reduceEqDiff, false_and, and_false, true_and, and_true, and_self, if_true, if_false, reduceIte, ite_self]; exact p1
          · rw [if_pos rfl]; simp only [s_S, s_B, s_F, b_S, b_B, b_F, f_S, f_B, Nat.reduceEqDiff, false_and, and_false, true_and, and_true, and_self, if_true, if_false, reduceIte, ite_self]; rw [fitE]
    · have em : mnN (s_ Q 141 j) (s_ Q 185 0) = 0 := by unfold mnN; rw [if_neg m1]
      rw [if_pos m1] at e0
      rw [em] at fin
      refine fin _ e0 (fun f j hf hn => ?_) (fun c j _ hn => rfl) (by simp only [s_S, s_B, s_F, b_S, b_B, b_F, f_S, f_B, Nat.reduceEqDiff, false_and, and_false, true_and, and_true, and_self, if_true, if_false, reduceIte, ite_self]) ?_ ?_ ?_ (fun q => ?_) ?_
      · unfold chP at hn; rw [s_S, if_neg (by omega)]
      · rw [if_neg (by decide)]; simp only [s_S, s_B, s_F, b_S, b_B, b_F, f_S, f_B, Nat.reduceEqDiff, false_and, and_false, true_and, and_true, and_self, if_true, if_false, reduceIte, ite_self]
      · rw [if_neg (by omega)]; simp only [s_S, s_B, s_F, b_S, b_B, b_F, f_S, f_B, Nat.reduceEqDiff, false_and, and_false, true_and, and_true, and_self, if_true, if_false, reduceIte, ite_self]; exact c3
      · rw [if_neg (by decide)]; simp only [s_S, s_B, s_F, b_S, b_B, b_F, f_S, f_B, Nat.reduceEqDiff, false_and, and_false, true_and, and_true, and_self, if_true, if_false, reduceIte, ite_self]
      · have la : lastN (s_ Q 210 t) (b_ Q 36 t).length (b_ Q 7 j).length (s_ Q 202 t) 0 = 0 := by unfold lastN; rw [if_neg (by omega)]
        rw [la, if_neg (by decide)]; simp only [s_S, s_B, s_F, b_S, b_B, b_F, f_S, f_B, Nat.reduceEqDiff, false_and, and_false, true_and, and_true, and_self, if_true, if_false, reduceIte, ite_self]; exact p1
      · rw [if_neg (by decide)]; rfl
  · -- the status's empty bytes
    have ca : asks Q t := by
      refine Decidable.byContradiction (fun n => ?_)
      rw [if_neg n] at e6; omega
    have p1 : s_ Q 209 t = 2 := by
      by_cases n : s_ Q 209 t = 1
      · rw [if_pos n] at e5; omega
      · omega
    obtain ⟨j, ej, ek⟩ := hsm _ (by omega) rfl
    have ej0 : j0 = j := by have := hj0 (by omega); rw [ej] at this; cases this; rfl
    rw [ej0, if_pos ej] at q4
    have cd : isDat (s_ Q 141 j) := by unfold isDat; omega
    have eA : p_hearA (sv6 Q t r) t r = (pS (pS Q 212 t 0) 211 t 1, true) := by
      rw [n6 (by omega), hA_dat ej cd ca]
      unfold p_takeD
      rw [if_pos p1, if_pos ⟨by omega, q4⟩]
    rw [eA] at exA
    have hP : FHo Q (pS (pS Q 212 t 0) 211 t 1) := fho_S (fho_S fho_rf (by decide)) (by decide)
    have h1 := rm_wr h (f := 76) (j := t) (v := nI 0)
    have x1 : XW (pS (pS Q 212 t 0) 211 t 1) (sm_u2 R 76 t (nI 0)) := xw_ho hX exA hP (fun f i hf => by rw [u2_r, if_neg (by omega)])
    rw [li_2, li_0]
    refine ru_mono (r_ack (D := D + 1) h1 x1 (by simp only [s_S, s_B, s_F, b_S, b_B, b_F, f_S, f_B, Nat.reduceEqDiff, false_and, and_false, true_and, and_true, and_self, if_true, if_false, reduceIte, ite_self]; exact hS)) ?_
    rintro v M2 ⟨rfl, R2, h2, y1, y2⟩
    refine bb_184_489 ⟨h2.1, ra 73, rd_r73 h2, of_eq_true (rW_73 h2), of_eq_true (rN_73 h2 (by omega)), ?_⟩
    rw [nI_clamp (by omega)]
    refine ⟨by rw [v0 (by omega)]; rfl, _, rm_wr h2, k60_u (fun f i hf => (y2 f i (by omega)).trans (by rw [u2_r, if_neg (by omega)])) (by decide), ?_⟩
    rw [eA]
    refine ctl_ack (R := sm_u2 (sm_u2 R 76 t (nI 0)) 73 t (nI 1)) (R3 := R2) ?_ y1 (fun f i hf => by rw [u2_r, if_neg (by omega)]) (fun f i hf => ?_)
    · refine ctl_fin hX hH hc hP exA (fun f j hf hn => ?_) (fun c j _ _ => rfl) rfl (fun f j hn => ?_) ?_ ?_ ?_ (fun i hi hq => ?_) (fun q => ?_) (fun q q' => ?_)
      · unfold chP at hn; rw [s_S, if_neg (by omega), s_S, if_neg (by omega)]
      · rw [u2_r, if_neg (by omega), u2_r, if_neg (by omega)]
      · simp only [u2_r, rowU_r, s_S, s_B, s_F, b_S, b_B, b_F, f_S, f_B, nfl_S, nfl_B, Nat.reduceEqDiff, false_and, and_false, true_and, and_true, and_self, if_true, if_false, reduceIte, ite_self, or_self, or_false, false_or, or_true, true_or, false_implies, implies_true, true_implies, Nat.reduceLeDiff, not_true_eq_false, not_false_eq_true, ne_eq]
      · simp only [u2_r, rowU_r, s_S, s_B, s_F, b_S, b_B, b_F, f_S, f_B, nfl_S, nfl_B, Nat.reduceEqDiff, false_and, and_false, true_and, and_true, and_self, if_true, if_false, reduceIte, ite_self, or_self, or_false, false_or, or_true, true_or, false_implies, implies_true, true_implies, Nat.reduceLeDiff, not_true_eq_false, not_false_eq_true, ne_eq]; exact t4
      · simp only [u2_r, rowU_r, s_S, s_B, s_F, b_S, b_B, b_F, f_S, f_B, nfl_S, nfl_B, Nat.reduceEqDiff, false_and, and_false, true_and, and_true, and_self, if_true, if_false, reduceIte, ite_self, or_self, or_false, false_or, or_true, true_or, false_implies, implies_true, true_implies, Nat.reduceLeDiff, not_true_eq_false, not_false_eq_true, ne_eq]
      · simp only [u2_r, rowU_r, s_S, s_B, s_F, b_S, b_B, b_F, f_S, f_B, nfl_S, nfl_B, Nat.reduceEqDiff, false_and, and_false, true_and, and_true, and_self, if_true, if_false, reduceIte, ite_self, or_self, or_false, false_or, or_true, true_or, false_implies, implies_true, true_implies, Nat.reduceLeDiff, not_true_eq_false, not_false_eq_true, ne_eq]; refine t7 i hi ?_; revert hq; simp only [u2_r, rowU_r, s_S, s_B, s_F, b_S, b_B, b_F, f_S, f_B, nfl_S, nfl_B, Nat.reduceEqDiff, false_and, and_false, true_and, and_true, and_self, if_true, if_false, reduceIte, ite_self, or_self, or_false, false_or, or_true, true_or, false_implies, implies_true, true_implies, Nat.reduceLeDiff, not_true_eq_false, not_false_eq_true, ne_eq]; exact id
      · exfalso; revert q; simp only [u2_r, rowU_r, s_S, s_B, s_F, b_S, b_B, b_F, f_S, f_B, nfl_S, nfl_B, Nat.reduceEqDiff, false_and, and_false, true_and, and_true, and_self, if_true, if_false, reduceIte, ite_self, or_self, or_false, false_or, or_true, true_or, false_implies, implies_true, true_implies, Nat.reduceLeDiff, not_true_eq_false, not_false_eq_true, ne_eq] <;> (intro q; omega)
      · exfalso; revert q; simp only [u2_r, rowU_r, s_S, s_B, s_F, b_S, b_B, b_F, f_S, f_B, nfl_S, nfl_B, Nat.reduceEqDiff, false_and, and_false, true_and, and_true, and_self, if_true, if_false, reduceIte, ite_self, or_self, or_false, false_or, or_true, true_or, false_implies, implies_true, true_implies, Nat.reduceLeDiff, not_true_eq_false, not_false_eq_true, ne_eq] <;> (intro q; omega)
    · rw [u2_r, u2_r]
      by_cases q : f = 73 ∧ i = t
      · rw [if_pos q, if_pos q]; rfl
      · rw [if_neg q, if_neg q]; exact y2 f i hf.1
  · -- bytes went out
    have ca : ¬ asks Q t := fun c => by rw [if_pos c] at e6; omega
    have p1 : s_ Q 209 t = 1 := by
      refine Decidable.byContradiction (fun n => ?_)
      rw [if_neg n] at e5; omega
    obtain ⟨j, ej, ek⟩ := hsm _ (by omega) rfl
    rw [if_neg ca] at e7
    have h203 : s_ Q 203 t = 0 := by
      refine Decidable.byContradiction (fun n => ca ?_)
      unfold asks; omega
    have ck : chk (pS Q 212 t 0) t = chk Q t := by unfold chk; simp only [s_S, s_B, s_F, b_S, b_B, b_F, f_S, f_B, Nat.reduceEqDiff, false_and, and_false, true_and, and_true, and_self, if_true, if_false, reduceIte, ite_self]
    have eG : p_goOn (pS Q 212 t 0) t = if s_ Q 210 t + chk Q t = (b_ Q 36 t).length then pS (pS (pS (pS Q 212 t 0) 210 t (s_ Q 210 t + chk Q t)) 185 0 (1 - s_ Q 185 0)) 209 t 2 else pS (pS (pS Q 212 t 0) 210 t (s_ Q 210 t + chk Q t)) 185 0 (1 - s_ Q 185 0) := by
      unfold p_goOn
      rw [ck]; simp only [s_S, s_B, s_F, b_S, b_B, b_F, f_S, f_B, Nat.reduceEqDiff, false_and, and_false, true_and, and_true, and_self, if_true, if_false, reduceIte, ite_self]
      rw [if_neg h9, if_neg (by omega), c2]
      unfold p_endD
      simp only [s_S, s_B, s_F, b_S, b_B, b_F, f_S, f_B, Nat.reduceEqDiff, false_and, and_false, true_and, and_true, and_self, if_true, if_false, reduceIte, ite_self]
      rw [c2, if_pos c7]
    have eA : p_hearA (sv6 Q t r) t r = (p_goOn (pS Q 212 t 0) t, false) := by rw [n6 (by omega)]; exact hA_ack ej (by omega) ca
    rw [eA] at exA
    have h1 := rm_wr (rm_wr (rm_wr h (f := 76) (j := t) (v := nI 0)) (f := 74) (j := t) (v := nI (s_ Q 210 t + x7))) (f := 78) (j := t) (v := nI (1 - s_ Q 185 0))
    have r74 : sm_u2 (sm_u2 (sm_u2 R 76 t (nI 0)) 74 t (nI (s_ Q 210 t + x7))) 78 t (nI (1 - s_ Q 185 0)) 74 t = nI (s_ Q 210 t + x7) := by simp only [u2_r, rowU_r, s_S, s_B, s_F, b_S, b_B, b_F, f_S, f_B, nfl_S, nfl_B, Nat.reduceEqDiff, false_and, and_false, true_and, and_true, and_self, if_true, if_false, reduceIte, ite_self, or_self, or_false, false_or, or_true, true_or, false_implies, implies_true, true_implies, Nat.reduceLeDiff, not_true_eq_false, not_false_eq_true, ne_eq]
    have r75 : sm_u2 (sm_u2 (sm_u2 R 76 t (nI 0)) 74 t (nI (s_ Q 210 t + x7))) 78 t (nI (1 - s_ Q 185 0)) 75 t = nI (b_ Q 36 t).length := by simp only [u2_r, rowU_r, s_S, s_B, s_F, b_S, b_B, b_F, f_S, f_B, nfl_S, nfl_B, Nat.reduceEqDiff, false_and, and_false, true_and, and_true, and_self, if_true, if_false, reduceIte, ite_self, or_self, or_false, false_or, or_true, true_or, false_implies, implies_true, true_implies, Nat.reduceLeDiff, not_true_eq_false, not_false_eq_true, ne_eq]; exact t5
    have ckl : chk Q t ≤ 64 := by unfold chk; split <;> omega
    rw [li_0]
    generalize sm_putI (sm_putI (sm_putI M (ra 76) t (nI 0)) (ra 74) t (nI (s_ Q 210 t + x7))) (ra 78) t (nI (1 - s_ Q 185 0)) = M1 at *
    refine bb_184_597 ⟨h1.1, ra 74, rd_r74 h1, of_eq_true (rA_74 h1), of_eq_true (rN_74 h1 (by omega)), ra 75, rd_r75 h1, of_eq_true (rA_75 h1), of_eq_true (rN_75 h1 (by omega)), ?_⟩
    rw [nI_clamp (by omega), rR_74 h1, rR_75 h1, r74, r75, nI_eq (by omega) (by omega)]
    refine ⟨fun q => ⟨ra 77, rd_r77 h1, of_eq_true (rW_77 h1), of_eq_true (rN_77 h1 (by omega)), by rw [v0 (by omega)]; rfl, _, rm_wr h1, (by (repeat' (first | exact k60_rf | (refine k60_u ?_ (by decide))))), ?_⟩, fun q => ⟨ra 77, rd_r77 h1, of_eq_true (rW_77 h1), of_eq_true (rN_77 h1 (by omega)), by rw [v0 (by omega)]; rfl, _, rm_wr h1, (by (repeat' (first | exact k60_rf | (refine k60_u ?_ (by decide))))), ?_⟩⟩
    · rw [eA]
      rw [eG, if_neg (by omega)] at exA ⊢
      show XR (pS (pS (pS Q 212 t 0) 210 t (s_ Q 210 t + chk Q t)) 185 0 (1 - s_ Q 185 0)) _
      refine ctl_fin hX hH hc (fho_S (fho_S (fho_S fho_rf (by decide)) (by decide)) (by decide)) exA (fun f j hf hn => ?_) (fun c j _ _ => rfl) rfl (fun f j hn => ?_) ?_ ?_ ?_ (fun i hi hq => ?_) (fun q => ?_) (fun q q' => ?_)
      · unfold chP at hn; rw [s_S, if_neg (by omega), s_S, if_neg (by omega), s_S, if_neg (by omega)]
      · rw [u2_r, if_neg (by omega), u2_r, if_neg (by omega), u2_r, if_neg (by omega), u2_r, if_neg (by omega)]
      · simp only [u2_r, rowU_r, s_S, s_B, s_F, b_S, b_B, b_F, f_S, f_B, nfl_S, nfl_B, Nat.reduceEqDiff, false_and, and_false, true_and, and_true, and_self, if_true, if_false, reduceIte, ite_self, or_self, or_false, false_or, or_true, true_or, false_implies, implies_true, true_implies, Nat.reduceLeDiff, not_true_eq_false, not_false_eq_true, ne_eq]; exact t3
      · simp only [u2_r, rowU_r, s_S, s_B, s_F, b_S, b_B, b_F, f_S, f_B, nfl_S, nfl_B, Nat.reduceEqDiff, false_and, and_false, true_and, and_true, and_self, if_true, if_false, reduceIte, ite_self, or_self, or_false, false_or, or_true, true_or, false_implies, implies_true, true_implies, Nat.reduceLeDiff, not_true_eq_false, not_false_eq_true, ne_eq]; rw [e7]
      · simp only [u2_r, rowU_r, s_S, s_B, s_F, b_S, b_B, b_F, f_S, f_B, nfl_S, nfl_B, Nat.reduceEqDiff, false_and, and_false, true_and, and_true, and_self, if_true, if_false, reduceIte, ite_self, or_self, or_false, false_or, or_true, true_or, false_implies, implies_true, true_implies, Nat.reduceLeDiff, not_true_eq_false, not_false_eq_true, ne_eq]
      · simp only [u2_r, rowU_r, s_S, s_B, s_F, b_S, b_B, b_F, f_S, f_B, nfl_S, nfl_B, Nat.reduceEqDiff, false_and, and_false, true_and, and_true, and_self, if_true, if_false, reduceIte, ite_self, or_self, or_false, false_or, or_true, true_or, false_implies, implies_true, true_implies, Nat.reduceLeDiff, not_true_eq_false, not_false_eq_true, ne_eq]; exact t7 i hi (Or.inl h203)
      · simp only [u2_r, rowU_r, s_S, s_B, s_F, b_S, b_B, b_F, f_S, f_B, nfl_S, nfl_B, Nat.reduceEqDiff, false_and, and_false, true_and, and_true, and_self, if_true, if_false, reduceIte, ite_self, or_self, or_false, false_or, or_true, true_or, false_implies, implies_true, true_implies, Nat.reduceLeDiff, not_true_eq_false, not_false_eq_true, ne_eq]; rw [p1]; rfl
      · simp only [u2_r, rowU_r, s_S, s_B, s_F, b_S, b_B, b_F, f_S, f_B, nfl_S, nfl_B, Nat.reduceEqDiff, false_and, and_false, true_and, and_true, and_self, if_true, if_false, reduceIte, ite_self, or_self, or_false, false_or, or_true, true_or, false_implies, implies_true, true_implies, Nat.reduceLeDiff, not_true_eq_false, not_false_eq_true, ne_eq]
    · rw [eA]
      rw [eG, if_pos (by omega)] at exA ⊢
      show XR (pS (pS (pS (pS Q 212 t 0) 210 t (s_ Q 210 t + chk Q t)) 185 0 (1 - s_ Q 185 0)) 209 t 2) _
      refine ctl_fin hX hH hc (fho_S (fho_S (fho_S (fho_S fho_rf (by decide)) (by decide)) (by decide)) (by decide)) exA (fun f j hf hn => ?_) (fun c j _ _ => rfl) rfl (fun f j hn => ?_) ?_ ?_ ?_ (fun i hi hq => ?_) (fun q => ?_) (fun q q' => ?_)
      · unfold chP at hn; rw [s_S, if_neg (by omega), s_S, if_neg (by omega), s_S, if_neg (by omega), s_S, if_neg (by omega)]
      · rw [u2_r, if_neg (by omega), u2_r, if_neg (by omega), u2_r, if_neg (by omega), u2_r, if_neg (by omega)]
      · simp only [u2_r, rowU_r, s_S, s_B, s_F, b_S, b_B, b_F, f_S, f_B, nfl_S, nfl_B, Nat.reduceEqDiff, false_and, and_false, true_and, and_true, and_self, if_true, if_false, reduceIte, ite_self, or_self, or_false, false_or, or_true, true_or, false_implies, implies_true, true_implies, Nat.reduceLeDiff, not_true_eq_false, not_false_eq_true, ne_eq]; exact t3
      · simp only [u2_r, rowU_r, s_S, s_B, s_F, b_S, b_B, b_F, f_S, f_B, nfl_S, nfl_B, Nat.reduceEqDiff, false_and, and_false, true_and, and_true, and_self, if_true, if_false, reduceIte, ite_self, or_self, or_false, false_or, or_true, true_or, false_implies, implies_true, true_implies, Nat.reduceLeDiff, not_true_eq_false, not_false_eq_true, ne_eq]; rw [e7]
      · simp only [u2_r, rowU_r, s_S, s_B, s_F, b_S, b_B, b_F, f_S, f_B, nfl_S, nfl_B, Nat.reduceEqDiff, false_and, and_false, true_and, and_true, and_self, if_true, if_false, reduceIte, ite_self, or_self, or_false, false_or, or_true, true_or, false_implies, implies_true, true_implies, Nat.reduceLeDiff, not_true_eq_false, not_false_eq_true, ne_eq]
      · simp only [u2_r, rowU_r, s_S, s_B, s_F, b_S, b_B, b_F, f_S, f_B, nfl_S, nfl_B, Nat.reduceEqDiff, false_and, and_false, true_and, and_true, and_self, if_true, if_false, reduceIte, ite_self, or_self, or_false, false_or, or_true, true_or, false_implies, implies_true, true_implies, Nat.reduceLeDiff, not_true_eq_false, not_false_eq_true, ne_eq]; exact t7 i hi (Or.inl h203)
      · simp only [u2_r, rowU_r, s_S, s_B, s_F, b_S, b_B, b_F, f_S, f_B, nfl_S, nfl_B, Nat.reduceEqDiff, false_and, and_false, true_and, and_true, and_self, if_true, if_false, reduceIte, ite_self, or_self, or_false, false_or, or_true, true_or, false_implies, implies_true, true_implies, Nat.reduceLeDiff, not_true_eq_false, not_false_eq_true, ne_eq]; rfl
      · simp only [u2_r, rowU_r, s_S, s_B, s_F, b_S, b_B, b_F, f_S, f_B, nfl_S, nfl_B, Nat.reduceEqDiff, false_and, and_false, true_and, and_true, and_self, if_true, if_false, reduceIte, ite_self, or_self, or_false, false_or, or_true, true_or, false_implies, implies_true, true_implies, Nat.reduceLeDiff, not_true_eq_false, not_false_eq_true, ne_eq]
  · -- the status went out
    have ca : ¬ asks Q t := fun c => by rw [if_pos c] at e6; omega
    have p1 : s_ Q 209 t = 2 := by
      by_cases n : s_ Q 209 t = 1
      · rw [if_pos n] at e5; omega
      · omega
    obtain ⟨j, ej, ek⟩ := hsm _ (by omega) rfl
    have eA : p_hearA (sv6 Q t r) t r = (pS (pS Q 212 t 0) 211 t 1, false) := by
      rw [n6 (by omega), hA_ack ej (by omega) ca]
      unfold p_goOn
      simp only [s_S, s_B, s_F, b_S, b_B, b_F, f_S, f_B, Nat.reduceEqDiff, false_and, and_false, true_and, and_true, and_self, if_true, if_false, reduceIte, ite_self]
      rw [if_neg h9, if_pos p1]
    rw [eA] at exA
    have h1 := rm_wr h (f := 76) (j := t) (v := nI 0)
    rw [li_0]
    refine bb_184_489 ⟨h1.1, ra 73, rd_r73 h1, of_eq_true (rW_73 h1), of_eq_true (rN_73 h1 (by omega)), ?_⟩
    rw [nI_clamp (by omega)]
    refine ⟨by rw [v0 (by omega)]; rfl, _, rm_wr h1, (by (repeat' (first | exact k60_rf | (refine k60_u ?_ (by decide))))), ?_⟩
    rw [eA]
    refine ctl_fin (P' := pS (pS Q 212 t 0) 211 t 1) hX hH hc (fho_S (fho_S fho_rf (by decide)) (by decide)) exA (fun f j hf hn => ?_) (fun c j _ _ => rfl) rfl (fun f j hn => ?_) ?_ ?_ ?_ (fun i hi hq => ?_) (fun q => ?_) (fun q q' => ?_)
    · unfold chP at hn; rw [s_S, if_neg (by omega), s_S, if_neg (by omega)]
    · rw [u2_r, if_neg (by omega), u2_r, if_neg (by omega)]
    · simp only [u2_r, rowU_r, s_S, s_B, s_F, b_S, b_B, b_F, f_S, f_B, nfl_S, nfl_B, Nat.reduceEqDiff, false_and, and_false, true_and, and_true, and_self, if_true, if_false, reduceIte, ite_self, or_self, or_false, false_or, or_true, true_or, false_implies, implies_true, true_implies, Nat.reduceLeDiff, not_true_eq_false, not_false_eq_true, ne_eq]; rfl
    · simp only [u2_r, rowU_r, s_S, s_B, s_F, b_S, b_B, b_F, f_S, f_B, nfl_S, nfl_B, Nat.reduceEqDiff, false_and, and_false, true_and, and_true, and_self, if_true, if_false, reduceIte, ite_self, or_self, or_false, false_or, or_true, true_or, false_implies, implies_true, true_implies, Nat.reduceLeDiff, not_true_eq_false, not_false_eq_true, ne_eq]; exact t4
    · simp only [u2_r, rowU_r, s_S, s_B, s_F, b_S, b_B, b_F, f_S, f_B, nfl_S, nfl_B, Nat.reduceEqDiff, false_and, and_false, true_and, and_true, and_self, if_true, if_false, reduceIte, ite_self, or_self, or_false, false_or, or_true, true_or, false_implies, implies_true, true_implies, Nat.reduceLeDiff, not_true_eq_false, not_false_eq_true, ne_eq]
    · simp only [u2_r, rowU_r, s_S, s_B, s_F, b_S, b_B, b_F, f_S, f_B, nfl_S, nfl_B, Nat.reduceEqDiff, false_and, and_false, true_and, and_true, and_self, if_true, if_false, reduceIte, ite_self, or_self, or_false, false_or, or_true, true_or, false_implies, implies_true, true_implies, Nat.reduceLeDiff, not_true_eq_false, not_false_eq_true, ne_eq]; refine t7 i hi ?_; revert hq; simp only [u2_r, rowU_r, s_S, s_B, s_F, b_S, b_B, b_F, f_S, f_B, nfl_S, nfl_B, Nat.reduceEqDiff, false_and, and_false, true_and, and_true, and_self, if_true, if_false, reduceIte, ite_self, or_self, or_false, false_or, or_true, true_or, false_implies, implies_true, true_implies, Nat.reduceLeDiff, not_true_eq_false, not_false_eq_true, ne_eq]; exact id
    · exfalso; revert q; simp only [u2_r, rowU_r, s_S, s_B, s_F, b_S, b_B, b_F, f_S, f_B, nfl_S, nfl_B, Nat.reduceEqDiff, false_and, and_false, true_and, and_true, and_self, if_true, if_false, reduceIte, ite_self, or_self, or_false, false_or, or_true, true_or, false_implies, implies_true, true_implies, Nat.reduceLeDiff, not_true_eq_false, not_false_eq_true, ne_eq] <;> (intro q; omega)
    · exfalso; revert q; simp only [u2_r, rowU_r, s_S, s_B, s_F, b_S, b_B, b_F, f_S, f_B, nfl_S, nfl_B, Nat.reduceEqDiff, false_and, and_false, true_and, and_true, and_self, if_true, if_false, reduceIte, ite_self, or_self, or_false, false_or, or_true, true_or, false_implies, implies_true, true_implies, Nat.reduceLeDiff, not_true_eq_false, not_false_eq_true, ne_eq] <;> (intro q; omega)
end HH
