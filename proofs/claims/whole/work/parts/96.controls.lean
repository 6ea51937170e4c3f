/-! The reference's controls: the transfer's step. -/
section HG
variable {a : Nat} {ra : Nat → Nat} {R R' : Nat → Nat → Int32} {M : sm_M} {D : Nat} {P P' Q : pP} {d t : Nat} {r : Option Nat}
theorem hrel_f (h : HREL P R) (hs : ∀ f i, f ≠ 123 ∧ f ≠ 126 ∧ f ≠ 127 ∧ f ≠ 186 ∧ f ≠ 187 → s_ P' f i = s_ P f i) (hb : ∀ c i, b_ P' c i = b_ P c i) : HREL P' R := by
  unfold HREL RelP RelQ RelT RelC su pid at *
  simp (disch := decide) only [hs, hb]
  exact h
theorem fho_hearA : FHo P (p_hearA P t r).1 := by
  unfold p_hearA p_hearB p_takeD p_goOn p_err p_endD p_tk1
  repeat' split
  all_goals (repeat' (first | exact fho_rf | refine fho_S ?_ (by decide) | refine fho_B ?_ (Or.inl rfl)))
theorem ex_hearA (hx : EX P) (ht : t < s_ P 122 0) (hI : TI P t) (ho : ∀ j, r = some j → j < 66 ∧ s_ P 141 j < 16) : EX (p_hearA P t r).1 := by
  obtain ⟨g, M, h⟩ := hx
  obtain ⟨v, M', -, h'⟩ := ru_ex (c_hearA (D := 0) h ht hI ho)
  exact ⟨g, M', h'⟩
theorem ex_186 {v : Nat} (hx : EX P) (hv : v < 2 ^ 31) : EX (pS P 186 0 v) := by
  obtain ⟨g, M, h⟩ := hx
  have l9 : g.2.1 9 0 = true := rc_st h (by decide)
  exact ⟨g, _, rc_w' (c := 9) (k := 6) h l9 hv⟩
/-- the end of a step -/
theorem ctl_fin (hX : XW Q R) (hH : HREL Q R) (hc : CT Q t) (hP : FHo Q P') (hx : EX P') (hs : ∀ f j, hoF f → ¬ chP t 0 f j → s_ P' f j = s_ Q f j) (hb : ∀ c j, hostB c j → ¬ (c = 36 ∧ j = t) → b_ P' c j = b_ Q c j) (hl : (b_ P' 36 t).length = (b_ Q 36 t).length) (hr : ∀ f j, ¬ (((f = 73 ∨ f = 74 ∨ f = 76 ∨ f = 77 ∨ f = 78) ∧ j = t) ∨ (f = 81 ∧ 100 * t ≤ j ∧ j < 100 * t + 100) ∨ f = 68 ∨ f = 82 ∨ f = 83 ∨ f = 84 ∨ f = 87) → R' f j = R f j) (r73 : R' 73 t = nI (s_ P' 211 t)) (r74 : R' 74 t = nI (s_ P' 210 t)) (r76 : R' 76 t = nI (s_ P' 212 t)) (r81 : ∀ i, i < (b_ Q 36 t).length → (s_ Q 203 t = 0 ∨ i < s_ P' 210 t) → R' 81 (100 * t + i) = nI ((b_ P' 36 t).getD i 0)) (r77 : s_ P' 211 t = 0 → R' 77 t = nI (s_ P' 209 t)) (r78 : s_ P' 211 t = 0 → s_ P' 209 t ≠ 0 → R' 78 t = nI (s_ P' 185 0)) : XR P' R' :=
  xr_xw.mpr ⟨xw_ho hX hx hP (fun f i hf => hr f i (by omega)), hrel_ctl hH hX.1.1.1 hc hs hb hl (fun f j _ hn => hr f j hn) r73 r74 r76 r81 r77 r78⟩
/-- after the host's ACK -/
theorem ctl_ack {R3 R4 : Nat → Nat → Int32} (h : XR P' R) (x3 : XW (p_carry (p_rst P' (nk P') 0 2)).1 R3) (h3 : ∀ f i, 4 ≤ f ∧ f ≤ 55 ∧ ¬ (50 ≤ f ∧ f ≤ 54) → R4 f i = R3 f i) (h4 : ∀ f i, (f < 4 ∨ 55 ≤ f) ∧ f ≠ 82 ∧ f ≠ 83 ∧ f ≠ 84 ∧ f ≠ 87 ∧ f ≠ 68 → R4 f i = R f i) : XR (sv8 (P', true)) R4 := by
  obtain ⟨w, hH⟩ := xr_xw.mp h
  have e : sv8 (P', true) = (p_carry (p_rst P' (nk P') 0 2)).1 := rfl
  rw [e]
  refine xr_xw.mpr ⟨xw_ho x3 x3.1.1.1 fho_rf h3, hrel_cg hH (fh_tr fh_rs (fh_carry fh_rf (fun d hd => ?_))) h4⟩
  rw [rst_s (by omega)]; exact ex_86 w.1.1.1 hd
theorem hA_nak {j : Nat} (hr : r = some j) (hk : s_ P 141 j = 10) (h9 : s_ P 209 t ≠ 0) : p_hearA P t r = (pS P 212 t 0, false) := by
  subst hr
  unfold p_hearA p_hearB
  dsimp only
  rw [if_neg (by intro c; have := c.2; unfold isDat at this; omega), if_neg (by omega), if_pos (by omega), if_neg (by omega)]
theorem hA_stall {j : Nat} (hr : r = some j) (hk : s_ P 141 j = 14) (h9 : s_ P 209 t ≠ 0) : p_hearA P t r = (pS (pS P 212 t 0) 211 t 2, false) := by
  subst hr
  unfold p_hearA p_hearB
  dsimp only
  rw [if_neg (by intro c; have := c.2; unfold isDat at this; omega), if_neg (by omega), if_pos (by omega), if_pos (by omega)]
theorem hA_ack {j : Nat} (hr : r = some j) (hk : s_ P 141 j = 2) (ha : ¬ asks P t) : p_hearA P t r = (p_goOn (pS P 212 t 0) t, false) := by
  subst hr
  unfold p_hearA p_hearB
  dsimp only
  rw [if_neg (fun c => ha c.1), if_pos ⟨ha, by omega⟩]
theorem hA_dat {j : Nat} (hr : r = some j) (hk : isDat (s_ P 141 j)) (ha : asks P t) : p_hearA P t r = p_takeD P t j := by
  subst hr
  unfold p_hearA
  dsimp only
  rw [if_pos ⟨ha, hk⟩]
theorem hA_err (hk : ∀ j, r = some j → ¬ (asks P t ∧ isDat (s_ P 141 j)) ∧ ¬ (¬ asks P t ∧ s_ P 141 j = 2) ∧ ¬ (s_ P 209 t ≠ 0 ∧ (s_ P 141 j = 10 ∨ s_ P 141 j = 14))) : p_hearA P t r = (p_err P t, false) := by
  cases r with
  | none =>
    unfold p_hearA p_hearB
    dsimp only
    rw [if_neg (by omega), if_neg (by omega)]
  | some j =>
    obtain ⟨h1, h2, h3⟩ := hk j rfl
    unfold p_hearA p_hearB
    dsimp only
    rw [if_neg h1, if_neg (fun c => h2 ⟨c.1, by omega⟩), if_neg (fun c => h3 ⟨c.1, by omega⟩)]
theorem sv6_n (hk : ∀ j, r = some j → ¬ (s_ Q 141 j = 10 ∧ s_ Q 209 t ≠ 0)) : sv6 Q t r = Q := by
  cases r with
  | none => rfl
  | some j =>
    unfold sv6; dsimp only
    rw [if_neg (hk j rfl)]
/-- rows of FINDING, which a transaction leaves -/
def K60 (R R' : Nat → Nat → Int32) : Prop := ∀ f i, f = 60 ∨ f = 68 ∨ f = 69 ∨ f = 85 ∨ f = 86 ∨ f = 87 → R' f i = R f i
theorem k60_rf : K60 R R := fun _ _ _ => rfl
theorem k60_u {f i : Nat} {v : Int32} (h : K60 R R') (hf : f ≠ 60 ∧ f ≠ 68 ∧ f ≠ 69 ∧ f ≠ 85 ∧ f ≠ 86 ∧ f ≠ 87) : K60 R (sm_u2 R' f i v) := fun f' i' hf' => by rw [u2_r, if_neg (by omega)]; exact h f' i' hf'
theorem k60_tr {R'' : Nat → Nat → Int32} (h : K60 R R') (k : K60 R' R'') : K60 R R'' := fun f i hf => (k f i hf).trans (h f i hf)
/-- an error -/
theorem ctl_err {M' : sm_M} (hX : XW Q R) (hH : HREL Q R) (hc : CT Q t) (hx : EX (p_err Q t)) (h : RM a ra (if s_ Q 212 t + 1 = 3 then sm_u2 (sm_u2 R 76 t (nI (s_ Q 212 t + 1))) 73 t (nI 3) else sm_u2 R 76 t (nI (s_ Q 212 t + 1))) M') : ∃ R', RM a ra R' M' ∧ K60 R R' ∧ XR (p_err Q t) R' := by
  obtain ⟨c1, c2, c3, c4, c5, -⟩ := id hc
  obtain ⟨t1, t2, t3, t4, t5, t6, t7, t8⟩ := hH.2.2.1 t c1
  obtain ⟨d1, d2, d3⟩ := t8 c2
  obtain ⟨f1, f2, -⟩ := d3 c3
  refine ⟨_, h, by split <;> exact (by (repeat' (first | exact k60_rf | (refine k60_u ?_ (by decide))))), ?_⟩
  have hP : FHo Q (p_err Q t) := by
    unfold p_err
    split
    · exact fho_S fho_rf (by decide)
    · exact fho_S (fho_S fho_rf (by decide)) (by decide)
  have h3 := c5.2.2.1
  by_cases q : s_ Q 212 t + 1 = 3
  · have e : p_err Q t = pS (pS Q 212 t (s_ Q 212 t + 1)) 211 t 3 := by unfold p_err; rw [if_neg (by omega)]
    rw [if_pos q]
    rw [e] at hP hx ⊢
    refine ctl_fin hX hH hc hP hx (fun f j hf hn => ?_) (fun c j _ _ => rfl) rfl (fun f j hn => ?_) ?_ ?_ ?_ (fun i hi hq => ?_) (fun q => ?_) (fun q => ?_)
    · unfold chP at hn; rw [s_S, if_neg (by omega), s_S, if_neg (by omega)]
    · rw [u2_r, if_neg (by omega), u2_r, if_neg (by omega)]
    · simp only [u2_r, rowU_r, s_S, s_B, s_F, b_S, b_B, b_F, f_S, f_B, nfl_S, nfl_B, Nat.reduceEqDiff, false_and, and_false, true_and, and_true, and_self, if_true, if_false, reduceIte, ite_self, or_self, or_false, false_or, or_true, true_or, false_implies, implies_true, true_implies, Nat.reduceLeDiff, not_true_eq_false, not_false_eq_true, ne_eq]
    · simp only [u2_r, rowU_r, s_S, s_B, s_F, b_S, b_B, b_F, f_S, f_B, nfl_S, nfl_B, Nat.reduceEqDiff, false_and, and_false, true_and, and_true, and_self, if_true, if_false, reduceIte, ite_self, or_self, or_false, false_or, or_true, true_or, false_implies, implies_true, true_implies, Nat.reduceLeDiff, not_true_eq_false, not_false_eq_true, ne_eq]; exact t4
    · simp only [u2_r, rowU_r, s_S, s_B, s_F, b_S, b_B, b_F, f_S, f_B, nfl_S, nfl_B, Nat.reduceEqDiff, false_and, and_false, true_and, and_true, and_self, if_true, if_false, reduceIte, ite_self, or_self, or_false, false_or, or_true, true_or, false_implies, implies_true, true_implies, Nat.reduceLeDiff, not_true_eq_false, not_false_eq_true, ne_eq]
    · simp only [u2_r, rowU_r, s_S, s_B, s_F, b_S, b_B, b_F, f_S, f_B, nfl_S, nfl_B, Nat.reduceEqDiff, false_and, and_false, true_and, and_true, and_self, if_true, if_false, reduceIte, ite_self, or_self, or_false, false_or, or_true, true_or, false_implies, implies_true, true_implies, Nat.reduceLeDiff, not_true_eq_false, not_false_eq_true, ne_eq]; refine t7 i hi ?_; revert hq; simp only [u2_r, rowU_r, s_S, s_B, s_F, b_S, b_B, b_F, f_S, f_B, nfl_S, nfl_B, Nat.reduceEqDiff, false_and, and_false, true_and, and_true, and_self, if_true, if_false, reduceIte, ite_self, or_self, or_false, false_or, or_true, true_or, false_implies, implies_true, true_implies, Nat.reduceLeDiff, not_true_eq_false, not_false_eq_true, ne_eq]; exact id
    · exfalso; revert q; simp only [u2_r, rowU_r, s_S, s_B, s_F, b_S, b_B, b_F, f_S, f_B, nfl_S, nfl_B, Nat.reduceEqDiff, false_and, and_false, true_and, and_true, and_self, if_true, if_false, reduceIte, ite_self, or_self, or_false, false_or, or_true, true_or, false_implies, implies_true, true_implies, Nat.reduceLeDiff, not_true_eq_false, not_false_eq_true, ne_eq] <;> (intro q; omega)
    · exfalso; revert q; simp only [u2_r, rowU_r, s_S, s_B, s_F, b_S, b_B, b_F, f_S, f_B, nfl_S, nfl_B, Nat.reduceEqDiff, false_and, and_false, true_and, and_true, and_self, if_true, if_false, reduceIte, ite_self, or_self, or_false, false_or, or_true, true_or, false_implies, implies_true, true_implies, Nat.reduceLeDiff, not_true_eq_false, not_false_eq_true, ne_eq] <;> (intro q; omega)
  · have e : p_err Q t = pS Q 212 t (s_ Q 212 t + 1) := by unfold p_err; rw [if_pos (by omega)]
    rw [if_neg q]
    rw [e] at hP hx ⊢
    refine ctl_fin hX hH hc hP hx (fun f j hf hn => ?_) (fun c j _ _ => rfl) rfl (fun f j hn => ?_) ?_ ?_ ?_ (fun i hi hq => ?_) (fun q => ?_) (fun q q' => ?_)
    · unfold chP at hn; rw [s_S, if_neg (by omega)]
    · rw [u2_r, if_neg (by omega)]
    · simp only [u2_r, rowU_r, s_S, s_B, s_F, b_S, b_B, b_F, f_S, f_B, nfl_S, nfl_B, Nat.reduceEqDiff, false_and, and_false, true_and, and_true, and_self, if_true, if_false, reduceIte, ite_self, or_self, or_false, false_or, or_true, true_or, false_implies, implies_true, true_implies, Nat.reduceLeDiff, not_true_eq_false, not_false_eq_true, ne_eq]; exact t3
    · simp only [u2_r, rowU_r, s_S, s_B, s_F, b_S, b_B, b_F, f_S, f_B, nfl_S, nfl_B, Nat.reduceEqDiff, false_and, and_false, true_and, and_true, and_self, if_true, if_false, reduceIte, ite_self, or_self, or_false, false_or, or_true, true_or, false_implies, implies_true, true_implies, Nat.reduceLeDiff, not_true_eq_false, not_false_eq_true, ne_eq]; exact t4
    · simp only [u2_r, rowU_r, s_S, s_B, s_F, b_S, b_B, b_F, f_S, f_B, nfl_S, nfl_B, Nat.reduceEqDiff, false_and, and_false, true_and, and_true, and_self, if_true, if_false, reduceIte, ite_self, or_self, or_false, false_or, or_true, true_or, false_implies, implies_true, true_implies, Nat.reduceLeDiff, not_true_eq_false, not_false_eq_true, ne_eq]
    · simp only [u2_r, rowU_r, s_S, s_B, s_F, b_S, b_B, b_F, f_S, f_B, nfl_S, nfl_B, Nat.reduceEqDiff, false_and, and_false, true_and, and_true, and_self, if_true, if_false, reduceIte, ite_self, or_self, or_false, false_or, or_true, true_or, false_implies, implies_true, true_implies, Nat.reduceLeDiff, not_true_eq_false, not_false_eq_true, ne_eq]; refine t7 i hi ?_; revert hq; simp only [u2_r, rowU_r, s_S, s_B, s_F, b_S, b_B, b_F, f_S, f_B, nfl_S, nfl_B, Nat.reduceEqDiff, false_and, and_false, true_and, and_true, and_self, if_true, if_false, reduceIte, ite_self, or_self, or_false, false_or, or_true, true_or, false_implies, implies_true, true_implies, Nat.reduceLeDiff, not_true_eq_false, not_false_eq_true, ne_eq]; exact id
    · simp only [u2_r, rowU_r, s_S, s_B, s_F, b_S, b_B, b_F, f_S, f_B, nfl_S, nfl_B, Nat.reduceEqDiff, false_and, and_false, true_and, and_true, and_self, if_true, if_false, reduceIte, ite_self, or_self, or_false, false_or, or_true, true_or, false_implies, implies_true, true_implies, Nat.reduceLeDiff, not_true_eq_false, not_false_eq_true, ne_eq]; exact f1
    · simp only [u2_r, rowU_r, s_S, s_B, s_F, b_S, b_B, b_F, f_S, f_B, nfl_S, nfl_B, Nat.reduceEqDiff, false_and, and_false, true_and, and_true, and_self, if_true, if_false, reduceIte, ite_self, or_self, or_false, false_or, or_true, true_or, false_implies, implies_true, true_implies, Nat.reduceLeDiff, not_true_eq_false, not_false_eq_true, ne_eq]; refine f2 ?_; revert q'; simp only [u2_r, rowU_r, s_S, s_B, s_F, b_S, b_B, b_F, f_S, f_B, nfl_S, nfl_B, Nat.reduceEqDiff, false_and, and_false, true_and, and_true, and_self, if_true, if_false, reduceIte, ite_self, or_self, or_false, false_or, or_true, true_or, false_implies, implies_true, true_implies, Nat.reduceLeDiff, not_true_eq_false, not_false_eq_true, ne_eq]; exact id
end HG
