/-! The reference's pipe: the whole. -/
section HL
variable {a : Nat} {ra : Nat → Nat} {R R' : Nat → Nat → Int32} {M : sm_M} {D : Nat} {P P' Q : pP} {d k t : Nat} {r : Option Nat}
/-- an error -/
theorem pip_err {M' : sm_M} (hX : XW Q R) (hH : HREL Q R) (hp : PT Q t d k) (hx : EX (p_err Q t)) (h : RM a ra (if s_ Q 212 t + 1 = 3 then sm_u2 (sm_u2 R 76 t (nI (s_ Q 212 t + 1))) 73 t (nI 3) else sm_u2 R 76 t (nI (s_ Q 212 t + 1))) M') : ∃ R', RM a ra R' M' ∧ K60 R R' ∧ XR (p_err Q t) R' := by
  obtain ⟨p1, p2, p3, p4, p5, p6, p7, p8, p9, p10, p11, p12, p13, p14, p15, p15', p16, p17, p18, p19⟩ := id hp
  obtain ⟨t1, t2, t3, t4, t5, t6, t7, t8⟩ := hH.2.2.1 t p1
  obtain ⟨g1, g2, g3, g4, g5, g6⟩ := (hH.2.1 d p4).2.2.2.2 k p5
  refine ⟨_, h, by split <;> exact (by (repeat' (first | exact k60_rf | (refine k60_u ?_ (by decide))))), ?_⟩
  have hP : FHo Q (p_err Q t) := by
    unfold p_err
    split
    · exact fho_S fho_rf (by decide)
    · exact fho_S (fho_S fho_rf (by decide)) (by decide)
  have h3 := p8.2.2.1
  by_cases q : s_ Q 212 t + 1 = 3
  · have e : p_err Q t = pS (pS Q 212 t (s_ Q 212 t + 1)) 211 t 3 := by unfold p_err; rw [if_neg (by omega)]
    rw [if_pos q]
    rw [e] at hP hx ⊢
    refine pip_fin hX hH hp hP hx (fun f j hf hn => ?_) (fun c j _ _ => rfl) rfl (fun f j hn => ?_) ?_ ?_ ?_ (fun i hi hq => ?_) ?_ ?_
    · unfold chP at hn; rw [s_S, if_neg (by omega), s_S, if_neg (by omega)]
    · rw [u2_r, if_neg (by omega), u2_r, if_neg (by omega)]
    · simp only [u2_r, rowU_r, s_S, s_B, s_F, b_S, b_B, b_F, f_S, f_B, nfl_S, nfl_B, Nat.reduceEqDiff, false_and, and_false, true_and, and_true, and_self, if_true, if_false, reduceIte, ite_self, or_self, or_false, false_or, or_true, true_or, false_implies, implies_true, true_implies, Nat.reduceLeDiff, not_true_eq_false, not_false_eq_true, ne_eq]
    · simp only [u2_r, rowU_r, s_S, s_B, s_F, b_S, b_B, b_F, f_S, f_B, nfl_S, nfl_B, Nat.reduceEqDiff, false_and, and_false, true_and, and_true, and_self, if_true, if_false, reduceIte, ite_self, or_self, or_false, false_or, or_true, true_or, false_implies, implies_true, true_implies, Nat.reduceLeDiff, not_true_eq_false, not_false_eq_true, ne_eq]; exact t4
    · simp only [u2_r, rowU_r, s_S, s_B, s_F, b_S, b_B, b_F, f_S, f_B, nfl_S, nfl_B, Nat.reduceEqDiff, false_and, and_false, true_and, and_true, and_self, if_true, if_false, reduceIte, ite_self, or_self, or_false, false_or, or_true, true_or, false_implies, implies_true, true_implies, Nat.reduceLeDiff, not_true_eq_false, not_false_eq_true, ne_eq]
    · simp only [u2_r, rowU_r, s_S, s_B, s_F, b_S, b_B, b_F, f_S, f_B, nfl_S, nfl_B, Nat.reduceEqDiff, false_and, and_false, true_and, and_true, and_self, if_true, if_false, reduceIte, ite_self, or_self, or_false, false_or, or_true, true_or, false_implies, implies_true, true_implies, Nat.reduceLeDiff, not_true_eq_false, not_false_eq_true, ne_eq]; refine t7 i hi ?_; revert hq; simp only [u2_r, rowU_r, s_S, s_B, s_F, b_S, b_B, b_F, f_S, f_B, nfl_S, nfl_B, Nat.reduceEqDiff, false_and, and_false, true_and, and_true, and_self, if_true, if_false, reduceIte, ite_self, or_self, or_false, false_or, or_true, true_or, false_implies, implies_true, true_implies, Nat.reduceLeDiff, not_true_eq_false, not_false_eq_true, ne_eq]; exact id
    · simp only [u2_r, rowU_r, s_S, s_B, s_F, b_S, b_B, b_F, f_S, f_B, nfl_S, nfl_B, Nat.reduceEqDiff, false_and, and_false, true_and, and_true, and_self, if_true, if_false, reduceIte, ite_self, or_self, or_false, false_or, or_true, true_or, false_implies, implies_true, true_implies, Nat.reduceLeDiff, not_true_eq_false, not_false_eq_true, ne_eq]; exact g5
    · simp only [u2_r, rowU_r, s_S, s_B, s_F, b_S, b_B, b_F, f_S, f_B, nfl_S, nfl_B, Nat.reduceEqDiff, false_and, and_false, true_and, and_true, and_self, if_true, if_false, reduceIte, ite_self, or_self, or_false, false_or, or_true, true_or, false_implies, implies_true, true_implies, Nat.reduceLeDiff, not_true_eq_false, not_false_eq_true, ne_eq]; exact g6
  · have e : p_err Q t = pS Q 212 t (s_ Q 212 t + 1) := by unfold p_err; rw [if_pos (by omega)]
    rw [if_neg q]
    rw [e] at hP hx ⊢
    refine pip_fin hX hH hp hP hx (fun f j hf hn => ?_) (fun c j _ _ => rfl) rfl (fun f j hn => ?_) ?_ ?_ ?_ (fun i hi hq => ?_) ?_ ?_
    · unfold chP at hn; rw [s_S, if_neg (by omega)]
    · rw [u2_r, if_neg (by omega)]
    · simp only [u2_r, rowU_r, s_S, s_B, s_F, b_S, b_B, b_F, f_S, f_B, nfl_S, nfl_B, Nat.reduceEqDiff, false_and, and_false, true_and, and_true, and_self, if_true, if_false, reduceIte, ite_self, or_self, or_false, false_or, or_true, true_or, false_implies, implies_true, true_implies, Nat.reduceLeDiff, not_true_eq_false, not_false_eq_true, ne_eq]; exact t3
    · simp only [u2_r, rowU_r, s_S, s_B, s_F, b_S, b_B, b_F, f_S, f_B, nfl_S, nfl_B, Nat.reduceEqDiff, false_and, and_false, true_and, and_true, and_self, if_true, if_false, reduceIte, ite_self, or_self, or_false, false_or, or_true, true_or, false_implies, implies_true, true_implies, Nat.reduceLeDiff, not_true_eq_false, not_false_eq_true, ne_eq]; exact t4
    · simp only [u2_r, rowU_r, s_S, s_B, s_F, b_S, b_B, b_F, f_S, f_B, nfl_S, nfl_B, Nat.reduceEqDiff, false_and, and_false, true_and, and_true, and_self, if_true, if_false, reduceIte, ite_self, or_self, or_false, false_or, or_true, true_or, false_implies, implies_true, true_implies, Nat.reduceLeDiff, not_true_eq_false, not_false_eq_true, ne_eq]
    · simp only [u2_r, rowU_r, s_S, s_B, s_F, b_S, b_B, b_F, f_S, f_B, nfl_S, nfl_B, Nat.reduceEqDiff, false_and, and_false, true_and, and_true, and_self, if_true, if_false, reduceIte, ite_self, or_self, or_false, false_or, or_true, true_or, false_implies, implies_true, true_implies, Nat.reduceLeDiff, not_true_eq_false, not_false_eq_true, ne_eq]; refine t7 i hi ?_; revert hq; simp only [u2_r, rowU_r, s_S, s_B, s_F, b_S, b_B, b_F, f_S, f_B, nfl_S, nfl_B, Nat.reduceEqDiff, false_and, and_false, true_and, and_true, and_self, if_true, if_false, reduceIte, ite_self, or_self, or_false, false_or, or_true, true_or, false_implies, implies_true, true_implies, Nat.reduceLeDiff, not_true_eq_false, not_false_eq_true, ne_eq]; exact id
    · simp only [u2_r, rowU_r, s_S, s_B, s_F, b_S, b_B, b_F, f_S, f_B, nfl_S, nfl_B, Nat.reduceEqDiff, false_and, and_false, true_and, and_true, and_self, if_true, if_false, reduceIte, ite_self, or_self, or_false, false_or, or_true, true_or, false_implies, implies_true, true_implies, Nat.reduceLeDiff, not_true_eq_false, not_false_eq_true, ne_eq]; exact g5
    · simp only [u2_r, rowU_r, s_S, s_B, s_F, b_S, b_B, b_F, f_S, f_B, nfl_S, nfl_B, Nat.reduceEqDiff, false_and, and_false, true_and, and_true, and_self, if_true, if_false, reduceIte, ite_self, or_self, or_false, false_or, or_true, true_or, false_implies, implies_true, true_implies, Nat.reduceLeDiff, not_true_eq_false, not_false_eq_true, ne_eq]; exact g6
/-- the end, all ways but bytes -/
theorem pip_end {x7 : Nat} {x3 x4 x5 x6 x8 : Int32} {z9 : Option sm_V} {M' : sm_M} (h : RM a ra R' M') (hp : PT Q t d k) (hXR : XR P' R') (hs : ∀ f j, f = 122 ∨ f = 164 ∨ f = 165 ∨ f = 166 ∨ f = 184 ∨ f = 213 → s_ P' f j = s_ Q f j) (h7 : x7 ≤ 1) : sm_Run (D + 1) 185 412 [some (.inr (some a)), some (.inl (nI (10 * d + k))), some (.inl (nI t)), some (.inl x3), some (.inl x4), some (.inl x5), some (.inl x6), some (.inl (nI x7)), some (.inl x8), z9] [] M' (fun v M' => v = some (.inl (nI x7)) ∧ ∃ R'', RM a ra R'' M' ∧ K60 R' R'' ∧ XR (sv9 P' t) R'') := by
  have hq : PQ P' t d k := pq_cg (pt_pq hp) hs
  refine r_412 h hXR hq (ex_sv9 hXR.1.1.1 hq.1 ?_) h7
  rw [hq.2.2.2.1]; exact hq.2.2.2.2.1
theorem hrd_some {j : Nat} (e : r = some j) : hrd (Q, r) = s_ Q 141 j + 1 := by subst e; rfl
theorem hrd_ex {n : Nat} (hn : n ≠ 0) (e : hrd (Q, r) = n) : ∃ j, r = some j ∧ s_ Q 141 j + 1 = n := by
  unfold hrd at e
  cases r with
  | none => exact absurd e.symm hn
  | some j => exact ⟨j, rfl, e⟩
theorem pt_S {f i v : Nat} (h : PT P t d k) (hf : f = 186) : PT (pS P f i v) t d k := by
  subst hf
  unfold PT TI pid at *
  simp only [s_S, s_B, s_F, b_S, b_B, b_F, f_S, f_B, Nat.reduceEqDiff, false_and, and_false, true_and, and_true, and_self, if_true, if_false, reduceIte, ite_self]
  exact h
/-- after the exchange -/
theorem r_pipPost {x5 x6 : Nat} {x3 x4 : Int32} {z7 : Option sm_V} (h : RM a ra R M) (hX : XW Q R) (hH : HREL Q R) (hp : PT Q t d k) (h82 : R 82 0 = nE (hrd (Q, r))) (h50 : ∀ j, r = some j → R 50 0 = nI j ∧ j < 60 ∧ j < s_ Q 228 0) (hS : s_ Q 228 0 + 1 < 2 ^ 31) (h126 : s_ Q 126 0 + 1 < 2 ^ 31) (e5 : x5 = if asks Q t then 1 else 0) (e6 : x6 = if asks Q t then 0 else chk Q t) : sm_Run (D + 7) 185 155 [some (.inr (some a)), some (.inl (nI (10 * d + k))), some (.inl (nI t)), some (.inl x3), some (.inl x4), some (.inl (nI x5)), some (.inl (nI x6)), z7, none, none] [] M (PPost a ra R Q t r (hrd (Q, r))) := by
  obtain ⟨p1, p2, p3, p4, p5, p6, p7, p8, p9, p10, p11, p12, p13, p14, p15, p15', p16, p17, p18, p19⟩ := id hp
  obtain ⟨t1, t2, t3, t4, t5, t6, t7, t8⟩ := hH.2.2.1 t p1
  obtain ⟨i1, i2, i3, i4, i5⟩ := id p8
  obtain ⟨g1, g2, g3, g4, g5, g6⟩ := (hH.2.1 d p4).2.2.2.2 k p5
  have l36 := ex_36 hX.1.1.1 p1
  have lt := ex_122 hX.1.1.1
  have l164 := ex_164 hX.1.1.1 p4
  have t336 : t < 336 := by omega
  have h9 : s_ Q 209 t ≠ 0 := by omega
  rw [p6] at i2
  have et : (nI t).toNatClampNeg = t := nI_clamp (by omega)
  have eH : (nI (10 * d + k)).toNatClampNeg = 10 * d + k := nI_clamp (by omega)
  have kb : ∀ j, r = some j → s_ Q 141 j < 16 := fun j e => by
    obtain ⟨q1, q2, q3⟩ := h50 j e
    exact (hX.1.2.1 j q2 q3).1.1
  have hk20 : hrd (Q, r) < 20 := by
    unfold hrd
    cases r with
    | none => show 0 < 20; omega
    | some j => dsimp only; have := kb j rfl; omega
  have exA : EX (p_hearA (sv6 Q t r) t r).1 := by
    by_cases q : ∃ j, r = some j ∧ s_ Q 141 j = 10
    · obtain ⟨j, ej, ek⟩ := q
      have e : sv6 Q t r = pS Q 186 (s_ Q 213 t) (s_ Q 126 0 + 1) := by subst ej; unfold sv6; dsimp only; rw [if_pos ⟨ek, h9⟩]
      rw [e]
      refine ex_hearA (ex_9 hX.1.1.1 p1 h126 rfl) (by simp only [s_S, s_B, s_F, b_S, b_B, b_F, f_S, f_B, Nat.reduceEqDiff, false_and, and_false, true_and, and_true, and_self, if_true, if_false, reduceIte, ite_self]; exact p1) (pt_S hp rfl).2.2.2.2.2.2.2.1 (fun j' e' => ?_)
      obtain ⟨q1, q2, q3⟩ := h50 j' e'
      exact ⟨by omega, by simp only [s_S, s_B, s_F, b_S, b_B, b_F, f_S, f_B, Nat.reduceEqDiff, false_and, and_false, true_and, and_true, and_self, if_true, if_false, reduceIte, ite_self]; exact kb j' e'⟩
    · rw [sv6_n (fun j ej c => q ⟨j, ej, c.1⟩)]
      exact ex_hearA hX.1.1.1 p1 p8 (fun j' e' => ⟨by have := (h50 j' e').2.1; omega, kb j' e'⟩)
  have v0 : hrd (Q, r) ≠ 11 → (if hrd (Q, r) = 11 then 1 else 0) = 0 := fun q => if_neg q
  have n6 : hrd (Q, r) ≠ 11 → sv6 Q t r = Q := fun q => sv6_n (fun j ej c => q (by rw [hrd_some ej]; omega))
  have aE : asks Q t ↔ s_ Q 203 t ≠ 0 := by unfold asks; omega
  have i73 : sm_in_ M (ra 73) (nI t) := of_eq_true (rN_73 h (by omega))
  refine r_155 (D := D + 6) (o := s_ Q 210 t) (tg := s_ Q 185 (pid Q d k)) h t336 (by omega) hk20 h82 (by rw [e5]; split <;> omega) (by rw [e6]; split; omega; unfold chk; split <;> omega) t4 (by omega) g5 i2 (fun q x8 => ?_) (fun q1 q2 q3 q4 => ?_) (fun q1 q2 => ?_) (fun q1 q2 => ?_)
  · -- NAK, STALL
    obtain ⟨j, ej, ek⟩ := hrd_ex (by omega) (rfl : hrd (Q, r) = hrd (Q, r))
    have e7 : (nI (if hrd (Q, r) = 11 then 1 else 0) = 0) = (hrd (Q, r) ≠ 11) := propext (by
      rw [li_0, nI_eq (by split <;> omega) (by decide)]
      constructor
      · intro q q'; rw [if_pos q'] at q; omega
      · intro q; rw [if_neg q])
    refine bb_185_230 ⟨h.1, ra 76, rd_r76 h, of_eq_true (rW_76 h), of_eq_true (rN_76 h (by omega)), ?_⟩
    rw [et, e7]
    refine ⟨fun q0 => ⟨ra 73, by rw [Rp_j]; exact rd_r73 h, of_eq_true (rW_73 h), i73, ?_⟩, fun q0 => ⟨ra 73, by rw [Rp_j]; exact rd_r73 h, of_eq_true (rW_73 h), i73, ?_⟩⟩
    · have q15 : hrd (Q, r) = 15 := by omega
      have eA : p_hearA (sv6 Q t r) t r = (pS (pS Q 212 t 0) 211 t 2, false) := by
        rw [n6 q0]; exact hA_stall ej (by omega) h9
      rw [eA] at exA
      have hXR : XR (pS (pS Q 212 t 0) 211 t 2) (sm_u2 (sm_u2 R 76 t 0) 73 t 2) := by
        refine pip_fin hX hH hp (fho_S (fho_S fho_rf (by decide)) (by decide)) exA (fun f j hf hn => ?_) (fun c j _ _ => rfl) rfl (fun f j hn => ?_) ?_ ?_ ?_ (fun i hi hq => ?_) ?_ ?_
        · unfold chP at hn; rw [s_S, if_neg (by omega), s_S, if_neg (by omega)]
        · rw [u2_r, if_neg (by omega), u2_r, if_neg (by omega)]
        · simp only [u2_r, rowU_r, s_S, s_B, s_F, b_S, b_B, b_F, f_S, f_B, nfl_S, nfl_B, Nat.reduceEqDiff, false_and, and_false, true_and, and_true, and_self, if_true, if_false, reduceIte, ite_self, or_self, or_false, false_or, or_true, true_or, false_implies, implies_true, true_implies, Nat.reduceLeDiff, not_true_eq_false, not_false_eq_true, ne_eq]; rfl
        · simp only [u2_r, rowU_r, s_S, s_B, s_F, b_S, b_B, b_F, f_S, f_B, nfl_S, nfl_B, Nat.reduceEqDiff, false_and, and_false, true_and, and_true, and_self, if_true, if_false, reduceIte, ite_self, or_self, or_false, false_or, or_true, true_or, false_implies, implies_true, true_implies, Nat.reduceLeDiff, not_true_eq_false, not_false_eq_true, ne_eq]; exact t4
        · simp only [u2_r, rowU_r, s_S, s_B, s_F, b_S, b_B, b_F, f_S, f_B, nfl_S, nfl_B, Nat.reduceEqDiff, false_and, and_false, true_and, and_true, and_self, if_true, if_false, reduceIte, ite_self, or_self, or_false, false_or, or_true, true_or, false_implies, implies_true, true_implies, Nat.reduceLeDiff, not_true_eq_false, not_false_eq_true, ne_eq]; rfl
        · simp only [u2_r, rowU_r, s_S, s_B, s_F, b_S, b_B, b_F, f_S, f_B, nfl_S, nfl_B, Nat.reduceEqDiff, false_and, and_false, true_and, and_true, and_self, if_true, if_false, reduceIte, ite_self, or_self, or_false, false_or, or_true, true_or, false_implies, implies_true, true_implies, Nat.reduceLeDiff, not_true_eq_false, not_false_eq_true, ne_eq]; refine t7 i hi ?_; revert hq; simp only [u2_r, rowU_r, s_S, s_B, s_F, b_S, b_B, b_F, f_S, f_B, nfl_S, nfl_B, Nat.reduceEqDiff, false_and, and_false, true_and, and_true, and_self, if_true, if_false, reduceIte, ite_self, or_self, or_false, false_or, or_true, true_or, false_implies, implies_true, true_implies, Nat.reduceLeDiff, not_true_eq_false, not_false_eq_true, ne_eq]; exact id
        · simp only [u2_r, rowU_r, s_S, s_B, s_F, b_S, b_B, b_F, f_S, f_B, nfl_S, nfl_B, Nat.reduceEqDiff, false_and, and_false, true_and, and_true, and_self, if_true, if_false, reduceIte, ite_self, or_self, or_false, false_or, or_true, true_or, false_implies, implies_true, true_implies, Nat.reduceLeDiff, not_true_eq_false, not_false_eq_true, ne_eq]; exact g5
        · simp only [u2_r, rowU_r, s_S, s_B, s_F, b_S, b_B, b_F, f_S, f_B, nfl_S, nfl_B, Nat.reduceEqDiff, false_and, and_false, true_and, and_true, and_self, if_true, if_false, reduceIte, ite_self, or_self, or_false, false_or, or_true, true_or, false_implies, implies_true, true_implies, Nat.reduceLeDiff, not_true_eq_false, not_false_eq_true, ne_eq]; exact g6
      refine ru_mono (pip_end (D := D + 6) (rm_wr (rm_wr h)) hp hXR (fun f j hf => by rw [s_S, if_neg (by omega), s_S, if_neg (by omega)]) (by split <;> omega)) ?_
      rintro v M' ⟨rfl, R', y1, yk, y2⟩
      refine ⟨rfl, R', y1, k60_tr (by (repeat' (first | exact k60_rf | (refine k60_u ?_ (by decide))))) yk, ?_⟩
      rw [eA]; exact y2
    · have q11 : hrd (Q, r) = 11 := Decidable.not_not.mp q0
      have e : sv6 Q t r = pS Q 186 (s_ Q 213 t) (s_ Q 126 0 + 1) := by subst ej; unfold sv6; dsimp only; rw [if_pos ⟨by omega, h9⟩]
      have eA : p_hearA (sv6 Q t r) t r = (pS (pS Q 186 (pid Q d k) (s_ Q 126 0 + 1)) 212 t 0, false) := by
        rw [e, p6]; exact hA_nak ej (by simp only [s_S, s_B, s_F, b_S, b_B, b_F, f_S, f_B, Nat.reduceEqDiff, false_and, and_false, true_and, and_true, and_self, if_true, if_false, reduceIte, ite_self]; omega) (by simp only [s_S, s_B, s_F, b_S, b_B, b_F, f_S, f_B, Nat.reduceEqDiff, false_and, and_false, true_and, and_true, and_self, if_true, if_false, reduceIte, ite_self]; exact h9)
      rw [eA] at exA
      have hXR : XR (pS (pS Q 186 (pid Q d k) (s_ Q 126 0 + 1)) 212 t 0) (sm_u2 (sm_u2 R 76 t 0) 73 t 0) := by
        refine pip_fin hX hH hp (fho_S (fho_S fho_rf (by decide)) (by decide)) exA (fun f j hf hn => ?_) (fun c j _ _ => rfl) rfl (fun f j hn => ?_) ?_ ?_ ?_ (fun i hi hq => ?_) ?_ ?_
        · unfold chP at hn; rw [s_S, if_neg (by omega), s_S, if_neg (by omega)]
        · rw [u2_r, if_neg (by omega), u2_r, if_neg (by omega)]
        · simp only [u2_r, rowU_r, s_S, s_B, s_F, b_S, b_B, b_F, f_S, f_B, nfl_S, nfl_B, Nat.reduceEqDiff, false_and, and_false, true_and, and_true, and_self, if_true, if_false, reduceIte, ite_self, or_self, or_false, false_or, or_true, true_or, false_implies, implies_true, true_implies, Nat.reduceLeDiff, not_true_eq_false, not_false_eq_true, ne_eq]; rw [p2]; rfl
        · simp only [u2_r, rowU_r, s_S, s_B, s_F, b_S, b_B, b_F, f_S, f_B, nfl_S, nfl_B, Nat.reduceEqDiff, false_and, and_false, true_and, and_true, and_self, if_true, if_false, reduceIte, ite_self, or_self, or_false, false_or, or_true, true_or, false_implies, implies_true, true_implies, Nat.reduceLeDiff, not_true_eq_false, not_false_eq_true, ne_eq]; exact t4
        · simp only [u2_r, rowU_r, s_S, s_B, s_F, b_S, b_B, b_F, f_S, f_B, nfl_S, nfl_B, Nat.reduceEqDiff, false_and, and_false, true_and, and_true, and_self, if_true, if_false, reduceIte, ite_self, or_self, or_false, false_or, or_true, true_or, false_implies, implies_true, true_implies, Nat.reduceLeDiff, not_true_eq_false, not_false_eq_true, ne_eq]; rfl
        · simp only [u2_r, rowU_r, s_S, s_B, s_F, b_S, b_B, b_F, f_S, f_B, nfl_S, nfl_B, Nat.reduceEqDiff, false_and, and_false, true_and, and_true, and_self, if_true, if_false, reduceIte, ite_self, or_self, or_false, false_or, or_true, true_or, false_implies, implies_true, true_implies, Nat.reduceLeDiff, not_true_eq_false, not_false_eq_true, ne_eq]; refine t7 i hi ?_; revert hq; simp only [u2_r, rowU_r, s_S, s_B, s_F, b_S, b_B, b_F, f_S, f_B, nfl_S, nfl_B, Nat.reduceEqDiff, false_and, and_false, true_and, and_true, and_self, if_true, if_false, reduceIte, ite_self, or_self, or_false, false_or, or_true, true_or, false_implies, implies_true, true_implies, Nat.reduceLeDiff, not_true_eq_false, not_false_eq_true, ne_eq]; exact id
        · simp only [u2_r, rowU_r, s_S, s_B, s_F, b_S, b_B, b_F, f_S, f_B, nfl_S, nfl_B, Nat.reduceEqDiff, false_and, and_false, true_and, and_true, and_self, if_true, if_false, reduceIte, ite_self, or_self, or_false, false_or, or_true, true_or, false_implies, implies_true, true_implies, Nat.reduceLeDiff, not_true_eq_false, not_false_eq_true, ne_eq]; exact g5
        · simp only [u2_r, rowU_r, s_S, s_B, s_F, b_S, b_B, b_F, f_S, f_B, nfl_S, nfl_B, Nat.reduceEqDiff, false_and, and_false, true_and, and_true, and_self, if_true, if_false, reduceIte, ite_self, or_self, or_false, false_or, or_true, true_or, false_implies, implies_true, true_implies, Nat.reduceLeDiff, not_true_eq_false, not_false_eq_true, ne_eq]; exact g6
      refine ru_mono (pip_end (D := D + 6) (rm_wr (rm_wr h)) hp hXR (fun f j hf => by rw [s_S, if_neg (by omega), s_S, if_neg (by omega)]) (by split <;> omega)) ?_
      rintro v M' ⟨rfl, R', y1, yk, y2⟩
      refine ⟨rfl, R', y1, k60_tr (by (repeat' (first | exact k60_rf | (refine k60_u ?_ (by decide))))) yk, ?_⟩
      rw [eA]; exact y2
  · -- an error
    have eA : p_hearA (sv6 Q t r) t r = (p_err Q t, false) := by
      rw [n6 q1]
      refine hA_err (fun j ej => ?_)
      have ek := hrd_some (Q := Q) ej
      refine ⟨fun c => q4 ⟨by rw [e5, if_pos c.1], by have := c.2; unfold isDat at this; omega⟩, fun c => q3 ⟨by rw [e5, if_neg c.1], by omega⟩, fun c => by omega⟩
    rw [eA] at exA
    refine ru_mono (r_failed h (by omega) t6 i3) ?_
    rintro v M1 ⟨rfl, h1⟩
    obtain ⟨R1, h1, k1, hXR⟩ := pip_err hX hH hp exA h1
    refine bb_185_266 ?_
    refine ru_mono (pip_end (D := D + 6) (x7 := 0) h1 hp hXR (fun f j hf => ?_) (by decide)) ?_
    · unfold p_err
      split
      · rw [s_S, if_neg (by omega)]
      · rw [s_S, if_neg (by omega), s_S, if_neg (by omega)]
    · rintro v M' ⟨rfl, R', y1, yk, y2⟩
      refine ⟨by rw [v0 q1], R', y1, k60_tr k1 yk, ?_⟩
      rw [eA]; exact y2
  · -- bytes
    have ca : asks Q t := by
      refine Decidable.byContradiction (fun n => ?_)
      rw [if_neg n] at e5; omega
    obtain ⟨j, ej, ek⟩ := hrd_ex (by omega) (rfl : hrd (Q, r) = hrd (Q, r))
    obtain ⟨w1, w2, w3⟩ := h50 j ej
    have cd : isDat (s_ Q 141 j) := by unfold isDat; omega
    have eA : p_hearA (sv6 Q t r) t r = p_takeD Q t j := by rw [n6 (by omega)]; exact hA_dat ej cd ca
    have hP : FHo Q (p_takeD Q t j).1 := by rw [← hA_dat ej cd ca]; exact fho_hearA
    rw [eA] at exA
    have h82' : R 82 0 = nI (s_ Q 141 j) := by rw [h82, hrd_some ej, nE_s]
    rw [q1, e6, if_pos ca]
    have fitE : tkf Q t j = min (b_ Q 7 j).length ((b_ Q 36 t).length - s_ Q 210 t) := rfl
    have fin : ∀ P' : pP, p_takeD Q t j = (P', true) → (∀ f j, hoF f → ¬ chP t (pid Q d k) f j → s_ P' f j = s_ Q f j) → s_ P' 184 (pid Q d k) = s_ Q 184 (pid Q d k) → (∀ c j, hostB c j → ¬ (c = 36 ∧ j = t) → b_ P' c j = b_ Q c j) → s_ P' 212 t = 0 → (s_ P' 210 t = if mnN (s_ Q 141 j) (s_ Q 185 (pid Q d k)) = 1 then s_ Q 210 t + min (b_ Q 7 j).length ((b_ Q 36 t).length - s_ Q 210 t) else s_ Q 210 t) → (s_ P' 211 t = if mnN (s_ Q 141 j) (s_ Q 185 (pid Q d k)) = 1 ∧ (b_ Q 36 t).length - s_ Q 210 t < (b_ Q 7 j).length then 3 else if lastN (s_ Q 210 t) (b_ Q 36 t).length (b_ Q 7 j).length (s_ Q 202 t) (mnN (s_ Q 141 j) (s_ Q 185 (pid Q d k))) = 1 then 1 else 0) → (s_ P' 185 (pid Q d k) = if mnN (s_ Q 141 j) (s_ Q 185 (pid Q d k)) = 1 then 1 - s_ Q 185 (pid Q d k) else s_ Q 185 (pid Q d k)) → (b_ P' 36 t = if mnN (s_ Q 141 j) (s_ Q 185 (pid Q d k)) = 1 then kpl (b_ Q 36 t) (b_ Q 7 j) (s_ Q 210 t) (min (b_ Q 7 j).length ((b_ Q 36 t).length - s_ Q 210 t)) else b_ Q 36 t) → sm_Run (D + 7) 185 193 [some (.inr (some a)), some (.inl (nI (10 * d + k))), some (.inl (nI t)), some (.inl x3), some (.inl x4), some (.inl (nI 1)), some (.inl (nI 0)), some (.inl 0), none, none] [] M (PPost a ra R Q t r (hrd (Q, r))) := by
      intro P' eP k1 k184 k2 k3 k4 k5 k6 k8
      rw [eP] at hP exA
      refine ru_mono (pip_dat (D := D) h hX hH hp rfl (aE.mp ca) w2 w3 w1 h82' cd hS rfl rfl rfl rfl hP exA k1 k184 k2 k3 k4 k5 k6 k8) ?_
      rintro v M' ⟨rfl, R', y1, yk, y2⟩
      refine ⟨by rw [v0 (by omega)], R', y1, yk, ?_⟩
      rw [eA, eP]; exact y2
    have e0 : p_takeD Q t j = if tgo (s_ Q 141 j) ≠ s_ Q 185 (pid Q d k) then (pS Q 212 t 0, true) else if tkf Q t j < (b_ Q 7 j).length then (pS (p_tk1 Q t j) 211 t 3, true) else if s_ Q 210 t + tkf Q t j = (b_ Q 36 t).length ∨ (b_ Q 7 j).length < s_ Q 202 t then (p_endD (p_tk1 Q t j) t, true) else (p_tk1 Q t j, true) := by
      unfold p_takeD; rw [if_neg (by omega), p6]
    by_cases m1 : tgo (s_ Q 141 j) = s_ Q 185 (pid Q d k)
    · have em : mnN (s_ Q 141 j) (s_ Q 185 (pid Q d k)) = 1 := by unfold mnN; rw [if_pos m1]
      rw [if_neg (fun c => c m1)] at e0
      have tk1 : p_tk1 Q t j = pS (pB (pS (pS Q 212 t 0) 185 (pid Q d k) (1 - s_ Q 185 (pid Q d k))) 36 t (kpl (b_ Q 36 t) (b_ Q 7 j) (s_ Q 210 t) (tkf Q t j))) 210 t (s_ Q 210 t + tkf Q t j) := by unfold p_tk1; rw [p6]
      rw [em] at fin
      by_cases m2 : tkf Q t j < (b_ Q 7 j).length
      · rw [if_pos m2, tk1] at e0
        refine fin _ e0 (fun f j hf hn => ?_) (by simp only [s_S, s_B, s_F, b_S, b_B, b_F, f_S, f_B, Nat.reduceEqDiff, false_and, and_false, true_and, and_true, and_self, if_true, if_false, reduceIte, ite_self]) (fun c j _ hn => ?_) (by simp only [s_S, s_B, s_F, b_S, b_B, b_F, f_S, f_B, Nat.reduceEqDiff, false_and, and_false, true_and, and_true, and_self, if_true, if_false, reduceIte, ite_self]) ?_ ?_ ?_ ?_
        · unfold chP at hn; rw [s_S, if_neg (by omega), s_S, if_neg (by omega), s_B, s_S, if_neg (by omega), s_S, if_neg (by omega)]
        · rw [b_S, b_S, b_B, if_neg hn]; rfl
        · rw [if_pos rfl]; simp only [s_S, s_B, s_F, b_S, b_B, b_F, f_S, f_B, Nat.reduceEqDiff, false_and, and_false, true_and, and_true, and_self, if_true, if_false, reduceIte, ite_self]; rw [fitE]
        · rw [if_pos ⟨rfl, by omega⟩]; simp only [s_S, s_B, s_F, b_S, b_B, b_F, f_S, f_B, Nat.reduceEqDiff, false_and, and_false, true_and, and_true, and_self, if_true, if_false, reduceIte, ite_self]
        · rw [if_pos rfl]; simp only [s_S, s_B, s_F, b_S, b_B, b_F, f_S, f_B, Nat.reduceEqDiff, false_and, and_false, true_and, and_true, and_self, if_true, if_false, reduceIte, ite_self]
        · rw [if_pos rfl]; simp only [s_S, s_B, s_F, b_S, b_B, b_F, f_S, f_B, Nat.reduceEqDiff, false_and, and_false, true_and, and_true, and_self, if_true, if_false, reduceIte, ite_self]; rw [fitE]
      · rw [if_neg m2] at e0
        by_cases m3 : s_ Q 210 t + tkf Q t j = (b_ Q 36 t).length ∨ (b_ Q 7 j).length < s_ Q 202 t
        · have eE : p_endD (p_tk1 Q t j) t = pS (p_tk1 Q t j) 211 t 1 := by
            unfold p_endD
            rw [if_neg]
            rw [tk1]; simp only [s_S, s_B, s_F, b_S, b_B, b_F, f_S, f_B, Nat.reduceEqDiff, false_and, and_false, true_and, and_true, and_self, if_true, if_false, reduceIte, ite_self]; rw [p6]; exact p15'
          rw [if_pos m3, eE, tk1] at e0
          have la : lastN (s_ Q 210 t) (b_ Q 36 t).length (b_ Q 7 j).length (s_ Q 202 t) 1 = 1 := by
            unfold lastN; rw [if_pos ⟨rfl, by omega, by rw [← fitE]; exact m3⟩]
          refine fin _ e0 (fun f j hf hn => ?_) (by simp only [s_S, s_B, s_F, b_S, b_B, b_F, f_S, f_B, Nat.reduceEqDiff, false_and, and_false, true_and, and_true, and_self, if_true, if_false, reduceIte, ite_self]) (fun c j _ hn => ?_) (by simp only [s_S, s_B, s_F, b_S, b_B, b_F, f_S, f_B, Nat.reduceEqDiff, false_and, and_false, true_and, and_true, and_self, if_true, if_false, reduceIte, ite_self]) ?_ ?_ ?_ ?_
          · unfold chP at hn; rw [s_S, if_neg (by omega), s_S, if_neg (by omega), s_B, s_S, if_neg (by omega), s_S, if_neg (by omega)]
          · rw [b_S, b_S, b_B, if_neg hn]; rfl
          · rw [if_pos rfl]; simp only [s_S, s_B, s_F, b_S, b_B, b_F, f_S, f_B, Nat.reduceEqDiff, false_and, and_false, true_and, and_true, and_self, if_true, if_false, reduceIte, ite_self]; rw [fitE]
          · rw [if_neg (by omega), la, if_pos rfl]; simp only [s_S, s_B, s_F, b_S, b_B, b_F, f_S, f_B, Nat.reduceEqDiff, false_and, and_false, true_and, and_true, and_self, if_true, if_false, reduceIte, ite_self]
          · rw [if_pos rfl]; simp only [s_S, s_B, s_F, b_S, b_B, b_F, f_S, f_B, Nat.reduceEqDiff, false_and, and_false, true_and, and_true, and_self, if_true, if_false, reduceIte, ite_self]
          · rw [if_pos rfl]; simp only [s_S, s_B, s_F, b_S, b_B, b_F, f_S, f_B, Nat.reduceEqDiff, false_and, and_false, true_and, and_true, and_self, if_true, if_false, reduceIte, ite_self]; rw [fitE]
        · rw [if_neg m3, tk1] at e0
          have la : lastN (s_ Q 210 t) (b_ Q 36 t).length (b_ Q 7 j).length (s_ Q 202 t) 1 = 0 := by
            unfold lastN; rw [if_neg (fun c => m3 (by rw [fitE]; exact c.2.2))]
          refine fin _ e0 (fun f j hf hn => ?_) (by simp only [s_S, s_B, s_F, b_S, b_B, b_F, f_S, f_B, Nat.reduceEqDiff, false_and, and_false, true_and, and_true, and_self, if_true, if_false, reduceIte, ite_self]) (fun c j _ hn => ?_) (by simp only [s_S, s_B, s_F, b_S, b_B, b_F, f_S, f_B, Nat.reduceEqDiff, false_and, and_false, true_and, and_true, and_self, if_true, if_false, reduceIte, ite_self]) ?_ ?_ ?_ ?_
          · unfold chP at hn; rw [s_S, if_neg (by omega), s_B, s_S, if_neg (by omega), s_S, if_neg (by omega)]
          · rw [b_S, b_B, if_neg hn]; rfl
          · rw [if_pos rfl]; simp only [s_S, s_B, s_F, b_S, b_B, b_F, f_S, f_B, Nat.reduceEqDiff, false_and, and_false, true_and, and_true, and_self, if_true, if_false, reduceIte, ite_self]; rw [fitE]
          · rw [if_neg (by omega), la, if_neg (by decide)]; simp only [s_S, s_B, s_F, b_S, b_B, b_F, f_S, f_B, Nat.reduceEqDiff, false_and, and_false, true_and, and_true, and_self, if_true, if_false, reduceIte, ite_self]; exact p2
          · rw [if_pos rfl]; simp only [s_S, s_B, s_F, b_S, b_B, b_F, f_S, f_B, Nat.reduceEqDiff, false_and, and_false, true_and, and_true, and_self, if_true, if_false, reduceIte, ite_self]
          · rw [if_pos rfl]; simp only [s_S, s_B, s_F, b_S, b_B, b_F, f_S, f_B, Nat.reduceEqDiff, false_and, and_false, true_and, and_true, and_self, if_true, if_false, reduceIte, ite_self]; rw [fitE]
    · have em : mnN (s_ Q 141 j) (s_ Q 185 (pid Q d k)) = 0 := by unfold mnN; rw [if_neg m1]
      rw [if_pos m1] at e0
      rw [em] at fin
      have la : lastN (s_ Q 210 t) (b_ Q 36 t).length (b_ Q 7 j).length (s_ Q 202 t) 0 = 0 := by unfold lastN; rw [if_neg (by omega)]
      refine fin _ e0 (fun f j hf hn => ?_) (by simp only [s_S, s_B, s_F, b_S, b_B, b_F, f_S, f_B, Nat.reduceEqDiff, false_and, and_false, true_and, and_true, and_self, if_true, if_false, reduceIte, ite_self]) (fun c j _ hn => rfl) (by simp only [s_S, s_B, s_F, b_S, b_B, b_F, f_S, f_B, Nat.reduceEqDiff, false_and, and_false, true_and, and_true, and_self, if_true, if_false, reduceIte, ite_self]) ?_ ?_ ?_ ?_
      · unfold chP at hn; rw [s_S, if_neg (by omega)]
      · rw [if_neg (by decide)]; simp only [s_S, s_B, s_F, b_S, b_B, b_F, f_S, f_B, Nat.reduceEqDiff, false_and, and_false, true_and, and_true, and_self, if_true, if_false, reduceIte, ite_self]
      · rw [if_neg (by omega), la, if_neg (by decide)]; simp only [s_S, s_B, s_F, b_S, b_B, b_F, f_S, f_B, Nat.reduceEqDiff, false_and, and_false, true_and, and_true, and_self, if_true, if_false, reduceIte, ite_self]; exact p2
      · rw [if_neg (by decide)]; simp only [s_S, s_B, s_F, b_S, b_B, b_F, f_S, f_B, Nat.reduceEqDiff, false_and, and_false, true_and, and_true, and_self, if_true, if_false, reduceIte, ite_self]
      · rw [if_neg (by decide)]; rfl
  · -- bytes went out
    have ca : ¬ asks Q t := fun c => by rw [if_pos c] at e5; omega
    obtain ⟨j, ej, ek⟩ := hrd_ex (by omega) (rfl : hrd (Q, r) = hrd (Q, r))
    rw [if_neg ca] at e6
    have h203 : s_ Q 203 t = 0 := by
      refine Decidable.byContradiction (fun n => ca (aE.mpr n))
    have ck : chk (pS Q 212 t 0) t = chk Q t := by unfold chk; simp only [s_S, s_B, s_F, b_S, b_B, b_F, f_S, f_B, Nat.reduceEqDiff, false_and, and_false, true_and, and_true, and_self, if_true, if_false, reduceIte, ite_self]
    have eG : p_goOn (pS Q 212 t 0) t = if s_ Q 210 t + chk Q t = (b_ Q 36 t).length then pS (pS (pS (pS Q 212 t 0) 210 t (s_ Q 210 t + chk Q t)) 185 (pid Q d k) (1 - s_ Q 185 (pid Q d k))) 211 t 1 else pS (pS (pS Q 212 t 0) 210 t (s_ Q 210 t + chk Q t)) 185 (pid Q d k) (1 - s_ Q 185 (pid Q d k)) := by
      unfold p_goOn
      rw [ck]; simp only [s_S, s_B, s_F, b_S, b_B, b_F, f_S, f_B, Nat.reduceEqDiff, false_and, and_false, true_and, and_true, and_self, if_true, if_false, reduceIte, ite_self]
      rw [if_neg h9, if_neg (by omega), p6]
      unfold p_endD
      simp only [s_S, s_B, s_F, b_S, b_B, b_F, f_S, f_B, Nat.reduceEqDiff, false_and, and_false, true_and, and_true, and_self, if_true, if_false, reduceIte, ite_self]
      rw [p6, if_neg p15']
    have eA : p_hearA (sv6 Q t r) t r = (p_goOn (pS Q 212 t 0) t, false) := by rw [n6 (by omega)]; exact hA_ack ej (by omega) ca
    rw [eA] at exA
    have h1 := rm_wr (rm_wr (rm_wr h (f := 76) (j := t) (v := nI 0)) (f := 74) (j := t) (v := nI (s_ Q 210 t + x6))) (f := 66) (j := 10 * d + k) (v := nI (1 - s_ Q 185 (pid Q d k)))
    have r74 : sm_u2 (sm_u2 (sm_u2 R 76 t (nI 0)) 74 t (nI (s_ Q 210 t + x6))) 66 (10 * d + k) (nI (1 - s_ Q 185 (pid Q d k))) 74 t = nI (s_ Q 210 t + x6) := by simp only [u2_r, rowU_r, s_S, s_B, s_F, b_S, b_B, b_F, f_S, f_B, nfl_S, nfl_B, Nat.reduceEqDiff, false_and, and_false, true_and, and_true, and_self, if_true, if_false, reduceIte, ite_self, or_self, or_false, false_or, or_true, true_or, false_implies, implies_true, true_implies, Nat.reduceLeDiff, not_true_eq_false, not_false_eq_true, ne_eq]
    have r75 : sm_u2 (sm_u2 (sm_u2 R 76 t (nI 0)) 74 t (nI (s_ Q 210 t + x6))) 66 (10 * d + k) (nI (1 - s_ Q 185 (pid Q d k))) 75 t = nI (b_ Q 36 t).length := by simp only [u2_r, rowU_r, s_S, s_B, s_F, b_S, b_B, b_F, f_S, f_B, nfl_S, nfl_B, Nat.reduceEqDiff, false_and, and_false, true_and, and_true, and_self, if_true, if_false, reduceIte, ite_self, or_self, or_false, false_or, or_true, true_or, false_implies, implies_true, true_implies, Nat.reduceLeDiff, not_true_eq_false, not_false_eq_true, ne_eq]; exact t5
    have ckl : chk Q t ≤ 64 := by unfold chk; split <;> omega
    rw [li_0]
    generalize sm_putI (sm_putI (sm_putI M (ra 76) t (nI 0)) (ra 74) t (nI (s_ Q 210 t + x6))) (ra 66) (10 * d + k) (nI (1 - s_ Q 185 (pid Q d k))) = M1 at *
    refine bb_185_386 ⟨h1.1, ra 74, rd_r74 h1, of_eq_true (rA_74 h1), of_eq_true (rN_74 h1 (by omega)), ra 75, rd_r75 h1, of_eq_true (rA_75 h1), of_eq_true (rN_75 h1 (by omega)), ?_⟩
    rw [et, rR_74 h1, rR_75 h1, r74, r75, nI_eq (by omega) (by omega)]
    have v0' : hrd (Q, r) ≠ 11 := by omega
    refine ⟨fun q => ⟨ra 73, rd_r73 h1, of_eq_true (rW_73 h1), of_eq_true (rN_73 h1 (by omega)), ?_⟩, fun q => ⟨ra 73, rd_r73 h1, of_eq_true (rW_73 h1), of_eq_true (rN_73 h1 (by omega)), ?_⟩⟩
    · rw [eG, if_neg (by omega)] at eA exA
      have hXR : XR (pS (pS (pS Q 212 t 0) 210 t (s_ Q 210 t + chk Q t)) 185 (pid Q d k) (1 - s_ Q 185 (pid Q d k))) (sm_u2 (sm_u2 (sm_u2 (sm_u2 R 76 t (nI 0)) 74 t (nI (s_ Q 210 t + x6))) 66 (10 * d + k) (nI (1 - s_ Q 185 (pid Q d k)))) 73 t 0) := by
        refine pip_fin hX hH hp (fho_S (fho_S (fho_S fho_rf (by decide)) (by decide)) (by decide)) exA (fun f j hf hn => ?_) (fun c j _ _ => rfl) rfl (fun f j hn => ?_) ?_ ?_ ?_ (fun i hi hq => ?_) ?_ ?_
        · unfold chP at hn; rw [s_S, if_neg (by omega), s_S, if_neg (by omega), s_S, if_neg (by omega)]
        · rw [u2_r, if_neg (by omega), u2_r, if_neg (by omega), u2_r, if_neg (by omega), u2_r, if_neg (by omega)]
        · simp only [u2_r, rowU_r, s_S, s_B, s_F, b_S, b_B, b_F, f_S, f_B, nfl_S, nfl_B, Nat.reduceEqDiff, false_and, and_false, true_and, and_true, and_self, if_true, if_false, reduceIte, ite_self, or_self, or_false, false_or, or_true, true_or, false_implies, implies_true, true_implies, Nat.reduceLeDiff, not_true_eq_false, not_false_eq_true, ne_eq]; rw [p2]; rfl
        · simp only [u2_r, rowU_r, s_S, s_B, s_F, b_S, b_B, b_F, f_S, f_B, nfl_S, nfl_B, Nat.reduceEqDiff, false_and, and_false, true_and, and_true, and_self, if_true, if_false, reduceIte, ite_self, or_self, or_false, false_or, or_true, true_or, false_implies, implies_true, true_implies, Nat.reduceLeDiff, not_true_eq_false, not_false_eq_true, ne_eq]; rw [e6]
        · simp only [u2_r, rowU_r, s_S, s_B, s_F, b_S, b_B, b_F, f_S, f_B, nfl_S, nfl_B, Nat.reduceEqDiff, false_and, and_false, true_and, and_true, and_self, if_true, if_false, reduceIte, ite_self, or_self, or_false, false_or, or_true, true_or, false_implies, implies_true, true_implies, Nat.reduceLeDiff, not_true_eq_false, not_false_eq_true, ne_eq]
        · simp only [u2_r, rowU_r, s_S, s_B, s_F, b_S, b_B, b_F, f_S, f_B, nfl_S, nfl_B, Nat.reduceEqDiff, false_and, and_false, true_and, and_true, and_self, if_true, if_false, reduceIte, ite_self, or_self, or_false, false_or, or_true, true_or, false_implies, implies_true, true_implies, Nat.reduceLeDiff, not_true_eq_false, not_false_eq_true, ne_eq]; exact t7 i hi (Or.inl h203)
        · simp only [u2_r, rowU_r, s_S, s_B, s_F, b_S, b_B, b_F, f_S, f_B, nfl_S, nfl_B, Nat.reduceEqDiff, false_and, and_false, true_and, and_true, and_self, if_true, if_false, reduceIte, ite_self, or_self, or_false, false_or, or_true, true_or, false_implies, implies_true, true_implies, Nat.reduceLeDiff, not_true_eq_false, not_false_eq_true, ne_eq]
        · simp only [u2_r, rowU_r, s_S, s_B, s_F, b_S, b_B, b_F, f_S, f_B, nfl_S, nfl_B, Nat.reduceEqDiff, false_and, and_false, true_and, and_true, and_self, if_true, if_false, reduceIte, ite_self, or_self, or_false, false_or, or_true, true_or, false_implies, implies_true, true_implies, Nat.reduceLeDiff, not_true_eq_false, not_false_eq_true, ne_eq]; exact g6
      refine ru_mono (pip_end (D := D + 6) (x7 := 0) (rm_wr h1) hp hXR (fun f j hf => by rw [s_S, if_neg (by omega), s_S, if_neg (by omega), s_S, if_neg (by omega)]) (by decide)) ?_
      rintro v M' ⟨rfl, R', y1, yk, y2⟩
      refine ⟨by rw [v0 v0'], R', y1, k60_tr (by (repeat' (first | exact k60_rf | (refine k60_u ?_ (by decide))))) yk, ?_⟩
      rw [eA]; exact y2
    · rw [eG, if_pos (by omega)] at eA exA
      have hXR : XR (pS (pS (pS (pS Q 212 t 0) 210 t (s_ Q 210 t + chk Q t)) 185 (pid Q d k) (1 - s_ Q 185 (pid Q d k))) 211 t 1) (sm_u2 (sm_u2 (sm_u2 (sm_u2 R 76 t (nI 0)) 74 t (nI (s_ Q 210 t + x6))) 66 (10 * d + k) (nI (1 - s_ Q 185 (pid Q d k)))) 73 t 1) := by
        refine pip_fin hX hH hp (fho_S (fho_S (fho_S (fho_S fho_rf (by decide)) (by decide)) (by decide)) (by decide)) exA (fun f j hf hn => ?_) (fun c j _ _ => rfl) rfl (fun f j hn => ?_) ?_ ?_ ?_ (fun i hi hq => ?_) ?_ ?_
        · unfold chP at hn; rw [s_S, if_neg (by omega), s_S, if_neg (by omega), s_S, if_neg (by omega), s_S, if_neg (by omega)]
        · rw [u2_r, if_neg (by omega), u2_r, if_neg (by omega), u2_r, if_neg (by omega), u2_r, if_neg (by omega)]
        · simp only [u2_r, rowU_r, s_S, s_B, s_F, b_S, b_B, b_F, f_S, f_B, nfl_S, nfl_B, Nat.reduceEqDiff, false_and, and_false, true_and, and_true, and_self, if_true, if_false, reduceIte, ite_self, or_self, or_false, false_or, or_true, true_or, false_implies, implies_true, true_implies, Nat.reduceLeDiff, not_true_eq_false, not_false_eq_true, ne_eq]; rfl
        · simp only [u2_r, rowU_r, s_S, s_B, s_F, b_S, b_B, b_F, f_S, f_B, nfl_S, nfl_B, Nat.reduceEqDiff, false_and, and_false, true_and, and_true, and_self, if_true, if_false, reduceIte, ite_self, or_self, or_false, false_or, or_true, true_or, false_implies, implies_true, true_implies, Nat.reduceLeDiff, not_true_eq_false, not_false_eq_true, ne_eq]; rw [e6]
        · simp only [u2_r, rowU_r, s_S, s_B, s_F, b_S, b_B, b_F, f_S, f_B, nfl_S, nfl_B, Nat.reduceEqDiff, false_and, and_false, true_and, and_true, and_self, if_true, if_false, reduceIte, ite_self, or_self, or_false, false_or, or_true, true_or, false_implies, implies_true, true_implies, Nat.reduceLeDiff, not_true_eq_false, not_false_eq_true, ne_eq]
        · simp only [u2_r, rowU_r, s_S, s_B, s_F, b_S, b_B, b_F, f_S, f_B, nfl_S, nfl_B, Nat.reduceEqDiff, false_and, and_false, true_and, and_true, and_self, if_true, if_false, reduceIte, ite_self, or_self, or_false, false_or, or_true, true_or, false_implies, implies_true, true_implies, Nat.reduceLeDiff, not_true_eq_false, not_false_eq_true, ne_eq]; exact t7 i hi (Or.inl h203)
        · simp only [u2_r, rowU_r, s_S, s_B, s_F, b_S, b_B, b_F, f_S, f_B, nfl_S, nfl_B, Nat.reduceEqDiff, false_and, and_false, true_and, and_true, and_self, if_true, if_false, reduceIte, ite_self, or_self, or_false, false_or, or_true, true_or, false_implies, implies_true, true_implies, Nat.reduceLeDiff, not_true_eq_false, not_false_eq_true, ne_eq]
        · simp only [u2_r, rowU_r, s_S, s_B, s_F, b_S, b_B, b_F, f_S, f_B, nfl_S, nfl_B, Nat.reduceEqDiff, false_and, and_false, true_and, and_true, and_self, if_true, if_false, reduceIte, ite_self, or_self, or_false, false_or, or_true, true_or, false_implies, implies_true, true_implies, Nat.reduceLeDiff, not_true_eq_false, not_false_eq_true, ne_eq]; exact g6
      refine ru_mono (pip_end (D := D + 6) (x7 := 0) (rm_wr h1) hp hXR (fun f j hf => by rw [s_S, if_neg (by omega), s_S, if_neg (by omega), s_S, if_neg (by omega), s_S, if_neg (by omega)]) (by decide)) ?_
      rintro v M' ⟨rfl, R', y1, yk, y2⟩
      refine ⟨by rw [v0 v0'], R', y1, k60_tr (by (repeat' (first | exact k60_rf | (refine k60_u ?_ (by decide))))) yk, ?_⟩
      rw [eA]; exact y2
/-- after the exchange, both sides -/
theorem ex_postP {Ri R1 : Nat → Nat → Int32} (hr : HR (sv3 P t) Ri R1) (hx : EX P) (hH : HREL P R) (hp : PT P t d k) (hS : s_ P 228 0 + 4 < 2 ^ 31) (hi : ∀ f i, f < 4 ∨ 55 ≤ f → f ≠ 83 → Ri f i = R f i) : XW (sv5 (sv3 P t)).1 R1 ∧ HREL (sv5 (sv3 P t)).1 R1 ∧ PT (sv5 (sv3 P t)).1 t d k ∧ s_ (sv5 (sv3 P t)).1 228 0 + 1 < 2 ^ 31 ∧ Fh P (sv5 (sv3 P t)).1 := by
  have h6 : ∀ d, d < 6 → s_ P 86 d ≤ 6 := fun d hd => ex_86 hx hd
  have k3 := (fh_sv3 (t := t) h6).2
  have h63 : ∀ d, d < 6 → s_ (sv3 P t) 86 d ≤ 6 := fun d hd => by rw [k3.2.2 d]; exact h6 d hd
  have k5 : Fh P (sv5 (sv3 P t)).1 := by
    refine fh_tr k3 ?_
    unfold sv5
    split
    · refine fh_tr (fh_hasAns fh_rf) (fh_carry fh_rf (fun d hd => ?_))
      rw [(fh_hasAns (P := sv3 P t) fh_rf).2.2 d]; exact h63 d hd
    · exact fh_hasAns fh_rf
  obtain ⟨g1, g2, g3, g4, g5, g6, g7⟩ := hr
  have b1 := sv3_228 (t := t) h6
  have b2 := sv5_228 h63
  exact ⟨⟨g1, g2, g3, g4⟩, hrel_cg hH k5 (fun f i hf => by rw [g7 f i hf.1 hf.2.1]; exact hi f i hf.1 hf.2.2.1), pt_fh hp k5, by omega, k5⟩
/-- WireBusModel.pipe -/
theorem r_pipe (h : RM a ra R M) (hX : XW P R) (hH : HREL P R) (hp : PT P t d k) (hS : s_ P 228 0 + 4 < 2 ^ 31) (h126 : s_ P 126 0 + 1 < 2 ^ 31) : sm_Run (D + 7) 185 0 (sm_ent 185 [.inr (some a), .inl (nI (10 * d + k)), .inl (nI t)]) [] M (fun v M' => v = some (.inl (nI (if hrd (sv5 (sv3 P t)) = 11 then 1 else 0))) ∧ ∃ R', RM a ra R' M' ∧ K60 R R' ∧ XR (p_serve P t) R') := by
  obtain ⟨p1, p2, p3, p4, p5, p6, p7, p8, p9, p10, p11, p12, p13, p14, p15, p15', p16, p17, p18, p19⟩ := id hp
  obtain ⟨t1, t2, t3, t4, t5, t6, t7, t8⟩ := hH.2.2.1 t p1
  obtain ⟨i1, i2, i3, i4, i5⟩ := id p8
  obtain ⟨f1, f2, f3, f4, f5⟩ := hH.2.1 d p4
  obtain ⟨g1, g2, g3, g4, g5, g6⟩ := f5 k p5
  rw [if_neg p14] at f3
  have hx := hX.1.1.1
  have h6 : ∀ d, d < 6 → s_ P 86 d ≤ 6 := fun d hd => ex_86 hx hd
  have l36 := ex_36 hx p1
  have lt := ex_122 hx
  have l164 := ex_164 hx p4
  have h9 : s_ P 209 t ≠ 0 := by omega
  rw [p6] at i2
  have aE : asks P t ↔ s_ P 203 t ≠ 0 := by unfold asks; omega
  have eN : tNum P t = (d + 1) + 128 * (s_ P 180 (pid P d k) % 16) := by unfold tNum; rw [p10, p3, p6, if_neg (by omega)]
  have eA1 : tNum P t % 128 = d + 1 := by omega
  have eA2 : tNum P t / 128 = s_ P 180 (pid P d k) % 16 := by omega
  have aB : asks P t ↔ ¬ s_ P 180 (pid P d k) < 128 := by
    rw [aE, p12]
    split <;> omega
  rw [← p13] at g3
  -- the end
  have done : ∀ M1 v (R2 : Nat → Nat → Int32), K60 R R2 → PPost a ra R2 (sv5 (sv3 P t)).1 t (sv5 (sv3 P t)).2 (hrd (sv5 (sv3 P t))) v M1 → v = some (.inl (nI (if hrd (sv5 (sv3 P t)) = 11 then 1 else 0))) ∧ ∃ R', RM a ra R' M1 ∧ K60 R R' ∧ XR (p_serve P t) R' := fun M1 v R2 yk y => by
    obtain ⟨y1, R', y2, y3, y4⟩ := y
    exact ⟨y1, R', y2, k60_tr yk y3, y4⟩
  refine r_pip0 (D := D + 6) (h' := 10 * d + k) (A := d + 1) (ad := s_ P 180 (pid P d k)) (len := (b_ P 36 t).length) (o := s_ P 210 t) (sz := s_ P 202 t) h (by omega) p4 (by omega) rfl g1 p15 g3 (by omega) t5 t4 i1 l36 f3 (fun ha => ?_) (fun hg => ?_)
  · -- asking
    have ca : asks P t := aB.mpr ha
    have g := r_exA (D := D) (t := t) h hX (by omega) ca h9 (by omega)
    rw [eA1, eA2] at g
    refine ru_mono g ?_
    rintro v M2 ⟨rfl, R2, h2, hr⟩
    obtain ⟨y1, y2, y3, y4, y5⟩ := ex_postP hr hx hH hp hS (fun f i _ _ => rfl)
    have k6 : K60 R R2 := fun f i hf => hr.2.2.2.2.2.2 f i (by omega) (by omega)
    have ca' : asks (sv5 (sv3 P t)).1 t := (asks_fh y5).mpr ca
    have := r_pipPost (D := D) (Q := (sv5 (sv3 P t)).1) (r := (sv5 (sv3 P t)).2) (x5 := 1) (x6 := 0) (x3 := nI d) (x4 := nI (s_ P 180 (pid P d k) % 16)) (z7 := none) h2 y1 y2 y3 hr.2.2.2.2.1 hr.2.2.2.2.2.1 y4 (by rw [fh_s y5 (by decide)]; exact h126) (by rw [if_pos ca']) (by rw [if_pos ca'])
    exact bb_185_55 (ru_mono this (fun v M' y => done M' v R2 k6 y))
  · -- giving
    have na : ¬ asks P t := fun c => aB.mp c hg
    have ec : chk P t = min (s_ P 202 t) ((b_ P 36 t).length - s_ P 210 t) := by unfold chk; rw [if_pos p11]
    rw [← ec]
    have ek : tKind P t = 1 := by unfold tKind; rw [if_neg h9, if_neg na]
    have ef : fillB P t = ((b_ P 36 t).drop (s_ P 210 t)).take (chk P t) := by unfold fillB; rw [if_neg h9]
    have nb : chk P t ≤ (b_ P 36 t).length - s_ P 210 t := by omega
    have fl : (fillB P t).length = chk P t := by rw [ef, List.length_take, List.length_drop]; omega
    have edt : ∀ dk, dk = (if s_ P 185 (pid P d k) = 1 then 11 else 3) → tDat P t = dk := fun dk edk => by
      rw [edk]; unfold tDat; rw [if_neg h9, if_neg (by omega), p6]
      unfold dkn
      by_cases g0 : s_ P 185 (pid P d k) = 0
      · rw [if_pos g0, if_neg (by omega)]
      · rw [if_neg g0, if_pos (by omega)]
    generalize hn : chk P t = n at *
    refine r_pip1 (D := D + 6) (R := R) (d := d) (h' := 10 * d + k) (A := d + 1) (n := n) (o := s_ P 210 t) (tg := s_ P 185 (pid P d k)) (by omega) p4 (by omega) (by omega) t4 f3 g5 i2 (fun M1 dk edk h1 => ?_) n 0 M (by omega) (by rw [rowU_0]; exact h)
    have fi : ∀ f i, f ≠ 83 → rowU R 83 0 n (fun i => R 81 (100 * t + s_ P 210 t + i)) f i = R f i := fun f i hf => by rw [rowU_r, if_neg (by omega)]
    have x1 : XW P (rowU R 83 0 n (fun i => R 81 (100 * t + s_ P 210 t + i))) := xw_ho hX hx fho_rf (fun f i hf => fi f i (by omega))
    have edt := edt dk edk
    have g := r_exG (D := D) (t := t) (n := n) h1 x1 (by omega) na p8 p17 p9 (by omega) fl (fun d hd p83 p89 q3 q8 q5 => ?_) (fun i hi => ?_)
    · rw [ek, edt, eA1, eA2] at g
      refine ru_mono g ?_
      rintro v M2 ⟨rfl, R2, h2, hr⟩
      obtain ⟨y1, y2, y3, y4, y5⟩ := ex_postP hr hx hH hp hS (fun f i _ hn => fi f i hn)
      have k6 : K60 R R2 := fun f i hf => (hr.2.2.2.2.2.2 f i (by omega) (by omega)).trans (fi f i (by omega))
      have na' : ¬ asks (sv5 (sv3 P t)).1 t := fun c => na ((asks_fh y5).mp c)
      have eck : chk (sv5 (sv3 P t)).1 t = n := by
        rw [← hn]; unfold chk
        simp (disch := decide) only [fh_s y5, fh_36 y5]
      have := r_pipPost (D := D) (Q := (sv5 (sv3 P t)).1) (r := (sv5 (sv3 P t)).2) (x5 := 0) (x6 := n) (x3 := nI d) (x4 := nI (s_ P 180 (pid P d k) % 16)) (z7 := some (.inl (nI n))) h2 y1 y2 y3 hr.2.2.2.2.1 hr.2.2.2.2.2.1 y4 (by rw [fh_s y5 (by decide)]; exact h126) (by rw [if_neg na']) (by rw [if_neg na', eck])
      exact ru_mono this (fun v M' y => done M' v R2 k6 y)
    · exfalso
      have e2 : sv2 P t = (p_carry (prT P 1 (tNum P t))).1 := by unfold sv2; rw [sv1_pr, ek]
      rw [e2] at p83 p89
      refine carry_out (fun d hd => by rw [prT_s (by omega)]; exact h6 d hd) ?_ ?_ hd p83 p89
      · rw [nk_prT]; unfold prT p_rst; simp only [s_S, s_B, s_F, b_S, b_B, b_F, f_S, f_B, Nat.reduceEqDiff, false_and, and_false, true_and, and_true, and_self, if_true, if_false, reduceIte, ite_self]
      · rw [nk_prT]; unfold prT p_rst; simp only [s_S, s_B, s_F, b_S, b_B, b_F, f_S, f_B, Nat.reduceEqDiff, false_and, and_false, true_and, and_true, and_self, if_true, if_false, reduceIte, ite_self]
    · rw [rowU_r, if_pos (by omega), Nat.sub_zero, ef]
      have e81 := t7 (s_ P 210 t + i) (by omega) (Or.inl (by rw [p12, if_pos hg]))
      rw [show 100 * t + s_ P 210 t + i = 100 * t + (s_ P 210 t + i) by omega, e81]
      congr 1
      rw [tk_gd hi, dr_gd]
end HL
