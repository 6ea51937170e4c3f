/-! The reference's controls: the whole. -/
section HI_
variable {a : Nat} {ra : Nat → Nat} {R R' : Nat → Nat → Int32} {M : sm_M} {D : Nat} {P P' Q : pP} {d t : Nat} {r : Option Nat}
theorem fh_sv3 (h6 : ∀ d, d < 6 → s_ P 86 d ≤ 6) : Fh P (sv2 P t) ∧ Fh P (sv3 P t) := by
  have k1 : Fh P (sv1 P t) := by rw [sv1_pr]; exact fh_prT
  have k2 : Fh P (sv2 P t) := fh_tr k1 (fh_carry fh_rf (fun d hd => by rw [k1.2.2 d]; exact h6 d hd))
  refine ⟨k2, ?_⟩
  unfold sv3
  split
  · exact k2
  · have k3 : Fh P (svB (sv2 P t) t) := by rw [svB_pr k2]; exact fh_tr k2 fh_prD
    exact fh_tr k3 (fh_carry fh_rf (fun d hd => by rw [k3.2.2 d]; exact h6 d hd))
theorem sv3_228 (h6 : ∀ d, d < 6 → s_ P 86 d ≤ 6) : s_ (sv3 P t) 228 0 ≤ s_ P 228 0 + 2 := by
  have k1 : Fh P (sv1 P t) := by rw [sv1_pr]; exact fh_prT
  have e1 : s_ (sv2 P t) 228 0 = s_ P 228 0 + 1 := by
    unfold sv2
    rw [carry_228' _ (fun d hd => by rw [k1.2.2 d]; exact h6 d hd), sv1_pr, prT_s (by omega)]
  unfold sv3
  split
  · omega
  · have k2 := (fh_sv3 (t := t) h6).1
    rw [svB_pr k2, carry_228' _ (fun d hd => by rw [fh_prD.2.2 d, k2.2.2 d]; exact h6 d hd), prD_s (by omega)]
    omega
theorem sv5_228 (h6 : ∀ d, d < 6 → s_ P 86 d ≤ 6) : s_ (sv5 P).1 228 0 ≤ s_ P 228 0 + 1 := by
  unfold sv5 p_hasAns
  cases ansD P with
  | none => show s_ P 228 0 ≤ _; omega
  | some d =>
    show s_ (p_carry (p_bring P d)).1 228 0 ≤ _
    have b : ∀ d', s_ (p_bring P d) 86 d' = s_ P 86 d' := fun d' => br_s (by omega)
    rw [carry_228' _ (fun d' hd => by rw [b]; exact h6 d' hd), br_s (by omega)]
    omega
theorem hear_out {j : Nat} (hk : s_ P 141 j = 1) : s_ (p_hear P d (some j)) 89 d = 0 ∨ s_ (p_hear P d (some j)) 89 d = 2 := by
  unfold p_hear
  dsimp only
  split
  · rw [if_neg (by omega)]
    right
    simp only [s_S, s_B, s_F, b_S, b_B, b_F, f_S, f_B, Nat.reduceEqDiff, false_and, and_false, true_and, and_true, and_self, if_true, if_false, reduceIte, ite_self]; rw [hk]
  · rw [if_neg (by omega), if_neg (by unfold isDat; omega), if_neg (by omega)]
    exact Or.inl h0_89
theorem carry_out (h6 : ∀ d, d < 6 → s_ P 86 d ≤ 6) (h0 : s_ P 140 (nk P) = 0) (hk : s_ P 141 (nk P) = 1) (hd : d < 6) (hp : s_ (p_carry P).1 83 d ≠ 0) : s_ (p_carry P).1 89 d ≠ 14 := by
  have h6' : ∀ d, d < 6 → s_ (c2 P) 86 d ≤ 6 := fun d hd => by rw [so_s (c2_so d) (by decide)]; exact h6 d hd
  rw [carry_c2] at *
  rw [h0] at *
  show s_ (p_hears (c2 P) 0 (p_carry1 P).2 6) 89 d ≠ 14
  have hp : s_ (p_hears (c2 P) 0 (p_carry1 P).2 6) 83 d ≠ 0 := hp
  obtain ⟨Q, q1, q2, q3⟩ := hears_at (s := 0) (r := (p_carry1 P).2) h6' hd
  rw [so_s q3 (by decide)] at hp ⊢
  by_cases c : (0 : Nat) = d + 1 ∨ s_ (c2 P) 83 d = 0
  · rw [if_pos c, so_s q1 (by decide)] at hp
    omega
  · rw [if_neg c]
    rcases c1_2 (P := P) with e | e
    · rw [e, hear_none, h0_89]; decide
    · rw [e]
      have k1 : s_ Q 141 (nk P) = 1 := by rw [(q2 _ nk_60).1 141 (by decide), c2_s (by omega)]; exact hk
      rcases hear_out (d := d) k1 with q | q <;> rw [q] <;> decide
/-- after the exchange, both sides -/
theorem ex_post {Ri R1 : Nat → Nat → Int32} (hr : HR (sv3 P t) Ri R1) (hx : EX P) (hH : HREL P R) (hc : CT P t) (hS : s_ P 228 0 + 4 < 2 ^ 31) (hi : ∀ f i, f < 4 ∨ 55 ≤ f → f ≠ 83 → Ri f i = R f i) : XW (sv5 (sv3 P t)).1 R1 ∧ HREL (sv5 (sv3 P t)).1 R1 ∧ CT (sv5 (sv3 P t)).1 t ∧ s_ (sv5 (sv3 P t)).1 228 0 + 1 < 2 ^ 31 ∧ Fh P (sv5 (sv3 P t)).1 := by
  have h6 : ∀ d, d < 6 → s_ P 86 d ≤ 6 := fun d hd => ex_86 hx hd
  have k3 := (fh_sv3 (t := t) h6).2
  have h63 : ∀ d, d < 6 → s_ (sv3 P t) 86 d ≤ 6 := fun d hd => by rw [k3.2.2 d]; exact h6 d hd
  have k5 : Fh P (sv5 (sv3 P t)).1 := by
    refine fh_tr k3 ?_
    unfold sv5
    split
    · refine fh_tr (fh_hasAns fh_rf) (fh_carry fh_rf (fun d hd => ?_))
      rw [(fh_hasAns (P := sv3 P t) fh_rf).2.2 d]; exact h63 d hd
    · exact fh_hasAns fh_rf
  obtain ⟨g1, g2, g3, g4, g5, g6, g7⟩ := hr
  have b1 := sv3_228 (t := t) h6
  have b2 := sv5_228 h63
  exact ⟨⟨g1, g2, g3, g4⟩, hrel_cg hH k5 (fun f i hf => by rw [g7 f i hf.1 hf.2.1]; exact hi f i hf.1 hf.2.2.1), ct_fh hc k5, by omega, k5⟩
/-- stage 0: the request went out -/
theorem r_ctl91 {x3 x4 : Int32} (h : RM a ra R M) (hX : XW Q R) (hH : HREL Q R) (hc : CT Q t) (h9 : s_ Q 209 t = 0) (h82 : R 82 0 = nE (hrd (Q, r))) (h50 : ∀ j, r = some j → R 50 0 = nI j ∧ j < 60 ∧ j < s_ Q 228 0) : sm_Run (D + 1) 184 91 [some (.inr (some a)), some (.inl (nI t)), some (.inl (nI (s_ Q 200 t))), some (.inl x3), some (.inl x4), some (.inl (nI 8)), none, none, none, none] [] M (CPost a ra R Q t r (hrd (Q, r))) := by
  obtain ⟨c1, c2, c3, c4, c5, c6, c7, c8, c9, c10, c11, c12, c13, c14⟩ := id hc
  obtain ⟨t1, t2, t3, t4, t5, t6, t7, t8⟩ := hH.2.2.1 t c1
  obtain ⟨i1, i2, i3, i4, i5⟩ := id c5
  have l36 := ex_36 hX.1.1.1 c1
  have lt := ex_122 hX.1.1.1
  have kb : ∀ j, r = some j → s_ Q 141 j < 16 := fun j e => by
    obtain ⟨q1, q2, q3⟩ := h50 j e
    exact (hX.1.2.1 j q2 q3).1.1
  have hk20 : hrd (Q, r) < 20 := by
    unfold hrd
    cases r with
    | none => show 0 < 20; omega
    | some j => dsimp only; have := kb j rfl; omega
  have n6 : sv6 Q t r = Q := sv6_n (fun j ej c => c.2 h9)
  have na : ¬ asks Q t := by unfold asks; omega
  have exA : EX (p_hearA Q t r).1 := ex_hearA hX.1.1.1 c1 c5 (fun j' e' => ⟨by have := (h50 j' e').2.1; omega, kb j' e'⟩)
  have v0 : (if hrd (Q, r) = 11 ∧ s_ Q 209 t ≠ 0 then 1 else 0) = 0 := if_neg (fun c => c.2 h9)
  have c2' : (nE (hrd (Q, r)) = 2) = (hrd (Q, r) = 3) := propext (nE_I (a := hrd (Q, r)) (b := 2) (by omega) (by decide))
  unfold CPost
  rw [n6, v0]
  refine bb_184_91 ⟨h.1, ?_⟩
  rw [rS_82 h, h82, c2']
  refine ⟨fun q => ?_, fun q => ?_⟩
  · have eA : p_hearA Q t r = (p_err Q t, false) := hA_err (fun j ej => ⟨fun c => na c.1, fun c => by subst ej; exact q (by unfold hrd; dsimp only; omega), fun c => c.1 h9⟩)
    rw [eA] at exA
    refine ru_mono (r_failed h (by omega) t6 i3) ?_
    rintro v M1 ⟨rfl, h1⟩
    refine bb_184_141 ⟨rfl, ?_⟩
    rw [eA]
    exact ctl_err hX hH hc exA h1
  · have q : hrd (Q, r) = 3 := Decidable.not_not.mp q
    obtain ⟨j, ej, ek⟩ : ∃ j, r = some j ∧ s_ Q 141 j = 2 := by
      unfold hrd at q
      cases r with
      | none => dsimp only at q; omega
      | some j => exact ⟨j, rfl, by dsimp only at q; omega⟩
    have eA : p_hearA Q t r = (pS (pS (pS Q 212 t 0) 185 0 1) 209 t (if (b_ Q 36 t).length ≤ 0 then 2 else 1), false) := by
      rw [hA_ack ej ek na]
      unfold p_goOn
      simp only [s_S, s_B, s_F, b_S, b_B, b_F, f_S, f_B, Nat.reduceEqDiff, false_and, and_false, true_and, and_true, and_self, if_true, if_false, reduceIte, ite_self]
      rw [if_pos h9, c2]
      rfl
    rw [eA] at exA
    have et : (nI t).toNatClampNeg = t := nI_clamp (by omega)
    have el : (nI (b_ Q 36 t).length ≤ 0) = ((b_ Q 36 t).length ≤ 0) := propext (by rw [li_0, nI_leI (by omega) (by decide)])
    refine ⟨ra 76, rd_r76 h, of_eq_true (rW_76 h), of_eq_true (rN_76 h (by omega)), ra 78, by rw [Rp_j]; exact rd_r78 h, of_eq_true (rW_78 h), of_eq_true (rN_78 h (by omega)), ra 75, by rw [Rp_j, Rp_j]; exact rd_r75 h, of_eq_true (rA_75 h), of_eq_true (rN_75 h (by omega)), ?_⟩
    rw [et, Ip_r h (by decide) (by decide) (by decide) (by decide) (by decide), Ip_r h (by decide) (by decide) (by decide) (by decide) (by decide), rR_75 h, t5, el]
    have fin : ∀ (M1 : sm_M) (s' : Nat), s' = (if (b_ Q 36 t).length ≤ 0 then 2 else 1) → RM a ra (sm_u2 (sm_u2 (sm_u2 R 76 t (nI 0)) 78 t (nI 1)) 77 t (nI s')) M1 → ∃ R', RM a ra R' M1 ∧ K60 R R' ∧ XR (sv8 (p_hearA Q t r)) R' := by
      intro M1 s' es h1
      refine ⟨_, h1, (by (repeat' (first | exact k60_rf | (refine k60_u ?_ (by decide))))), ?_⟩
      rw [eA]
      rw [← es] at exA ⊢
      refine ctl_fin (P' := pS (pS (pS Q 212 t 0) 185 0 1) 209 t s') hX hH hc (fho_S (fho_S (fho_S fho_rf (by decide)) (by decide)) (by decide)) exA (fun f j hf hn => ?_) (fun c j _ _ => rfl) rfl (fun f j hn => ?_) ?_ ?_ ?_ (fun i hi hq => ?_) (fun q => ?_) (fun q q' => ?_)
      · unfold chP at hn; rw [s_S, if_neg (by omega), s_S, if_neg (by omega), s_S, if_neg (by omega)]
      · rw [u2_r, if_neg (by omega), u2_r, if_neg (by omega), u2_r, if_neg (by omega)]
      · simp only [u2_r, rowU_r, s_S, s_B, s_F, b_S, b_B, b_F, f_S, f_B, nfl_S, nfl_B, Nat.reduceEqDiff, false_and, and_false, true_and, and_true, and_self, if_true, if_false, reduceIte, ite_self, or_self, or_false, false_or, or_true, true_or, false_implies, implies_true, true_implies, Nat.reduceLeDiff, not_true_eq_false, not_false_eq_true, ne_eq]; exact t3
      · simp only [u2_r, rowU_r, s_S, s_B, s_F, b_S, b_B, b_F, f_S, f_B, nfl_S, nfl_B, Nat.reduceEqDiff, false_and, and_false, true_and, and_true, and_self, if_true, if_false, reduceIte, ite_self, or_self, or_false, false_or, or_true, true_or, false_implies, implies_true, true_implies, Nat.reduceLeDiff, not_true_eq_false, not_false_eq_true, ne_eq]; exact t4
      · simp only [u2_r, rowU_r, s_S, s_B, s_F, b_S, b_B, b_F, f_S, f_B, nfl_S, nfl_B, Nat.reduceEqDiff, false_and, and_false, true_and, and_true, and_self, if_true, if_false, reduceIte, ite_self, or_self, or_false, false_or, or_true, true_or, false_implies, implies_true, true_implies, Nat.reduceLeDiff, not_true_eq_false, not_false_eq_true, ne_eq]
      · simp only [u2_r, rowU_r, s_S, s_B, s_F, b_S, b_B, b_F, f_S, f_B, nfl_S, nfl_B, Nat.reduceEqDiff, false_and, and_false, true_and, and_true, and_self, if_true, if_false, reduceIte, ite_self, or_self, or_false, false_or, or_true, true_or, false_implies, implies_true, true_implies, Nat.reduceLeDiff, not_true_eq_false, not_false_eq_true, ne_eq]; refine t7 i hi ?_; revert hq; simp only [u2_r, rowU_r, s_S, s_B, s_F, b_S, b_B, b_F, f_S, f_B, nfl_S, nfl_B, Nat.reduceEqDiff, false_and, and_false, true_and, and_true, and_self, if_true, if_false, reduceIte, ite_self, or_self, or_false, false_or, or_true, true_or, false_implies, implies_true, true_implies, Nat.reduceLeDiff, not_true_eq_false, not_false_eq_true, ne_eq]; exact id
      · simp only [u2_r, rowU_r, s_S, s_B, s_F, b_S, b_B, b_F, f_S, f_B, nfl_S, nfl_B, Nat.reduceEqDiff, false_and, and_false, true_and, and_true, and_self, if_true, if_false, reduceIte, ite_self, or_self, or_false, false_or, or_true, true_or, false_implies, implies_true, true_implies, Nat.reduceLeDiff, not_true_eq_false, not_false_eq_true, ne_eq]
      · simp only [u2_r, rowU_r, s_S, s_B, s_F, b_S, b_B, b_F, f_S, f_B, nfl_S, nfl_B, Nat.reduceEqDiff, false_and, and_false, true_and, and_true, and_self, if_true, if_false, reduceIte, ite_self, or_self, or_false, false_or, or_true, true_or, false_implies, implies_true, true_implies, Nat.reduceLeDiff, not_true_eq_false, not_false_eq_true, ne_eq]
    refine ⟨fun q1 => ⟨ra 77, by rw [Rp_j, Rp_j]; exact rd_r77 h, of_eq_true (rW_77 h), of_eq_true (rN_77 h (by omega)), rfl, fin _ 2 (by rw [if_pos q1]) (rm_wr (rm_wr (rm_wr h)))⟩, fun q1 => ⟨ra 77, by rw [Rp_j, Rp_j]; exact rd_r77 h, of_eq_true (rW_77 h), of_eq_true (rN_77 h (by omega)), rfl, fin _ 1 (by rw [if_neg q1]) (rm_wr (rm_wr (rm_wr h)))⟩⟩
/-- WireBusModel.controls -/
theorem r_controls (h : RM a ra R M) (hX : XW P R) (hH : HREL P R) (hc : CT P t) (hS : s_ P 228 0 + 4 < 2 ^ 31) (h126 : s_ P 126 0 + 1 < 2 ^ 31) (sa : s_ P 209 t = 0 → ∀ d, d < 6 → s_ (sv2 P t) 83 d ≠ 0 → s_ (sv2 P t) 89 d = 14 → lwh (su P t) = 5 → 1 ≤ l16 (su P t) 2 → l16 (su P t) 2 ≤ 127 → l16 (su P t) 2 = d + 1 ∧ s_ (sv2 P t) 83 d = 1) : sm_Run (D + 7) 184 0 (sm_ent 184 [.inr (some a), .inl (nI t)]) [] M (fun v M' => v = some (.inl (nI (if hrd (sv5 (sv3 P t)) = 11 ∧ s_ P 209 t ≠ 0 then 1 else 0))) ∧ ∃ R', RM a ra R' M' ∧ K60 R R' ∧ XR (sv8 (sv7 P t)) R') := by
  obtain ⟨c1, c2, c3, c4, c5, c6, c7, c8, c9, c10, c11, c12, c13, c14⟩ := id hc
  obtain ⟨t1, t2, t3, t4, t5, t6, t7, t8⟩ := hH.2.2.1 t c1
  obtain ⟨d1, d2, d3⟩ := t8 c2
  obtain ⟨f1, f2, -⟩ := d3 c3
  obtain ⟨i1, i2, i3, i4, i5⟩ := id c5
  have hx := hX.1.1.1
  have h6 : ∀ d, d < 6 → s_ P 86 d ≤ 6 := fun d hd => ex_86 hx hd
  have l36 := ex_36 hx c1
  have lt := ex_122 hx
  have eN := tNum_ct hc
  have A7 : tNum P t < 7 := by rw [eN]; split <;> omega
  have eA1 : tNum P t % 128 = tNum P t := by omega
  have eA2 : tNum P t / 128 = 0 := by omega
  obtain ⟨-, p58, p59, -, -⟩ := hH.2.1 _ c4
  rw [← eN] at p59
  rw [← c9] at p58
  have e80 : R 80 (8 * t) = nI (s_ P 205 t / 256) := d2 0 (by decide)
  -- the end
  have done : ∀ M1 v (R2 : Nat → Nat → Int32), K60 R R2 → CPost a ra R2 (sv5 (sv3 P t)).1 t (sv5 (sv3 P t)).2 (hrd (sv5 (sv3 P t))) v M1 → Fh P (sv5 (sv3 P t)).1 → v = some (.inl (nI (if hrd (sv5 (sv3 P t)) = 11 ∧ s_ P 209 t ≠ 0 then 1 else 0))) ∧ ∃ R', RM a ra R' M1 ∧ K60 R R' ∧ XR (sv8 (sv7 P t)) R' := by
    rintro M1 v R2 yk ⟨y1, R', y2, y3, y4⟩ k
    rw [fh_s k (by decide)] at y1
    exact ⟨y1, R', y2, k60_tr yk y3, y4⟩
  refine r_ctl0 (D := D + 6) (d := s_ P 200 t) (A := tNum P t) (b0 := s_ P 205 t / 256) (st := s_ P 209 t) (len := (b_ P 36 t).length) (o := s_ P 210 t) (sz := s_ P 202 t) h (by omega) c4 t1 p59 e80 (by omega) f1 i4 t5 t4 i1 l36 p58 (by omega) (fun s0 => ?_) (fun ha x5 e5 => ?_) (fun hg x5 n e5 en => ?_)
  · -- a request
    have na : ¬ asks P t := by unfold asks; omega
    have ef : fillB P t = su P t := by unfold fillB; rw [if_pos s0]; rfl
    have ek : tKind P t = 13 := by unfold tKind; rw [if_pos s0]
    have edt : tDat P t = 3 := by unfold tDat; rw [if_pos s0]
    refine r_ctl1 (D := D + 6) (R := R) (d := s_ P 200 t) (A := tNum P t) (l := su P t) (by omega) rfl d2 (fun M1 h1 => ?_) 8 0 M (by omega) (by rw [rowU_0]; exact h)
    have fi : ∀ f i, f ≠ 83 → rowU R 83 0 8 (fun i => R 80 (8 * t + i)) f i = R f i := fun f i hf => by rw [rowU_r, if_neg (by omega)]
    have x1 : XW P (rowU R 83 0 8 (fun i => R 80 (8 * t + i))) := xw_ho hX hx fho_rf (fun f i hf => fi f i (by omega))
    have g := r_exG (D := D) (t := t) (n := 8) h1 x1 (by omega) na c5 c11 c6 (by omega) (by rw [ef]; rfl) (fun d hd p83 p89 _ _ => by rw [ef]; exact sa s0 d hd p83 p89) (fun i hi => by rw [rowU_r, if_pos (by omega), ef, Nat.sub_zero]; exact d2 i hi)
    rw [ek, edt, eA1, eA2] at g
    refine ru_mono g ?_
    rintro v M2 ⟨rfl, R2, h2, hr⟩
    obtain ⟨y1, y2, y3, y4, y5⟩ := ex_post hr hx hH hc hS (fun f i _ hn => fi f i hn)
    have k6 : K60 R R2 := fun f i hf => (hr.2.2.2.2.2.2 f i (by omega) (by omega)).trans (fi f i (by omega))
    have e200 : s_ (sv5 (sv3 P t)).1 200 t = s_ P 200 t := fh_s y5 (by decide)
    have := r_ctl91 (D := D + 6) (Q := (sv5 (sv3 P t)).1) (r := (sv5 (sv3 P t)).2) (x3 := nI (tNum P t)) (x4 := nI (if s_ P 205 t / 256 < 128 then 0 else 1)) h2 y1 y2 y3 (by rw [fh_s y5 (by decide)]; exact s0) hr.2.2.2.2.1 hr.2.2.2.2.2.1
    rw [e200] at this
    exact ru_mono this (fun v M' y => done M' v R2 k6 y y5)
  · -- asking
    have ca : asks P t := by unfold asks; rw [c8]; split <;> omega
    have h9 : s_ P 209 t ≠ 0 := by omega
    have g := r_exA (D := D) (t := t) h hX (by omega) ca h9 (by omega)
    rw [eA1, eA2] at g
    refine ru_mono g ?_
    rintro v M2 ⟨rfl, R2, h2, hr⟩
    obtain ⟨y1, y2, y3, y4, y5⟩ := ex_post hr hx hH hc hS (fun f i _ _ => rfl)
    have k6 : K60 R R2 := fun f i hf => hr.2.2.2.2.2.2 f i (by omega) (by omega)
    have e200 : s_ (sv5 (sv3 P t)).1 200 t = s_ P 200 t := fh_s y5 (by decide)
    have e209 : s_ (sv5 (sv3 P t)).1 209 t = s_ P 209 t := fh_s y5 (by decide)
    have ca' : asks (sv5 (sv3 P t)).1 t := (asks_fh y5).mpr ca
    have := r_ctlPost (D := D) (Q := (sv5 (sv3 P t)).1) (r := (sv5 (sv3 P t)).2) (x5 := x5) (x6 := 1) (x7 := 0) (x3 := nI (tNum P t)) (x4 := nI (if s_ P 205 t / 256 < 128 then 0 else 1)) (z8 := none) h2 y1 y2 y3 (by rw [e209]; exact h9) hr.2.2.2.2.1 hr.2.2.2.2.2.1 y4 (by rw [fh_s y5 (by decide)]; exact h126) (by rw [e209]; exact e5) (by rw [if_pos ca']) (by rw [if_pos ca'])
    rw [e200] at this
    exact bb_184_205 (ru_mono this (fun v M' y => done M' v R2 k6 y y5))
  · -- giving
    have na : ¬ asks P t := by unfold asks; rw [c8]; split <;> omega
    have h9 : s_ P 209 t ≠ 0 := by omega
    have ec : chk P t = n := by
      rw [en]; rfl
    have ek : tKind P t = 1 := by unfold tKind; rw [if_neg h9, if_neg na]
    have ef : fillB P t = ((b_ P 36 t).drop (s_ P 210 t)).take n := by unfold fillB; rw [if_neg h9, ec]
    have nb : n ≤ (b_ P 36 t).length - s_ P 210 t := by rw [en]; split <;> omega
    have fl : (fillB P t).length = n := by rw [ef, List.length_take, List.length_drop]; omega
    refine r_ctl2 (D := D + 6) (R := R) (d := s_ P 200 t) (A := tNum P t) (n := n) (o := s_ P 210 t) (x5 := x5) (tg := s_ P 185 0) (by omega) (by omega) t4 (fun _ => f2 h9) (by rw [c2] at i2; exact i2) (by rw [e5]; split <;> omega) (fun M1 dk edk h1 => ?_) n 0 M (by omega) (by rw [rowU_0]; exact h)
    have fi : ∀ f i, f ≠ 83 → rowU R 83 0 n (fun i => R 81 (100 * t + s_ P 210 t + i)) f i = R f i := fun f i hf => by rw [rowU_r, if_neg (by omega)]
    have x1 : XW P (rowU R 83 0 n (fun i => R 81 (100 * t + s_ P 210 t + i))) := xw_ho hX hx fho_rf (fun f i hf => fi f i (by omega))
    have edt : tDat P t = dk := by
      rw [edk]; unfold tDat; rw [if_neg h9, c2]
      by_cases s2 : s_ P 209 t = 2
      · rw [if_pos s2, if_pos (Or.inl (by rw [e5, if_neg (by omega)]))]
      · rw [if_neg s2]
        unfold dkn
        rw [c2] at i2
        have x1' : x5 = 1 := by rw [e5, if_pos (by omega)]
        by_cases g0 : s_ P 185 0 = 0
        · rw [if_pos g0, if_neg (by omega)]
        · rw [if_neg g0, if_pos (by omega)]
    have g := r_exG (D := D) (t := t) (n := n) h1 x1 (by omega) na c5 c11 c6 (by omega) fl (fun d hd p83 p89 q3 q8 q5 => ?_) (fun i hi => ?_)
    · rw [ek, edt, eA1, eA2] at g
      refine ru_mono g ?_
      rintro v M2 ⟨rfl, R2, h2, hr⟩
      obtain ⟨y1, y2, y3, y4, y5⟩ := ex_post hr hx hH hc hS (fun f i _ hn => fi f i hn)
      have k6 : K60 R R2 := fun f i hf => (hr.2.2.2.2.2.2 f i (by omega) (by omega)).trans (fi f i (by omega))
      have e200 : s_ (sv5 (sv3 P t)).1 200 t = s_ P 200 t := fh_s y5 (by decide)
      have e209 : s_ (sv5 (sv3 P t)).1 209 t = s_ P 209 t := fh_s y5 (by decide)
      have na' : ¬ asks (sv5 (sv3 P t)).1 t := fun c => na ((asks_fh y5).mp c)
      have eck : chk (sv5 (sv3 P t)).1 t = n := by
        rw [← ec]; unfold chk
        simp (disch := decide) only [fh_s y5, fh_36 y5]
      have := r_ctlPost (D := D) (Q := (sv5 (sv3 P t)).1) (r := (sv5 (sv3 P t)).2) (x5 := x5) (x6 := 0) (x7 := n) (x3 := nI (tNum P t)) (x4 := nI (if s_ P 205 t / 256 < 128 then 0 else 1)) (z8 := some (.inl (nI n))) h2 y1 y2 y3 (by rw [e209]; exact h9) hr.2.2.2.2.1 hr.2.2.2.2.2.1 y4 (by rw [fh_s y5 (by decide)]; exact h126) (by rw [e209]; exact e5) (by rw [if_neg na']) (by rw [if_neg na', eck])
      rw [e200] at this
      exact ru_mono this (fun v M' y => done M' v R2 k6 y y5)
    · exfalso
      have e2 : sv2 P t = (p_carry (prT P 1 (tNum P t))).1 := by unfold sv2; rw [sv1_pr, ek]
      rw [e2] at p83 p89
      refine carry_out (fun d hd => by rw [prT_s (by omega)]; exact h6 d hd) ?_ ?_ hd p83 p89
      · rw [nk_prT]; unfold prT p_rst; simp only [s_S, s_B, s_F, b_S, b_B, b_F, f_S, f_B, Nat.reduceEqDiff, false_and, and_false, true_and, and_true, and_self, if_true, if_false, reduceIte, ite_self]
      · rw [nk_prT]; unfold prT p_rst; simp only [s_S, s_B, s_F, b_S, b_B, b_F, f_S, f_B, Nat.reduceEqDiff, false_and, and_false, true_and, and_true, and_self, if_true, if_false, reduceIte, ite_self]
    · rw [rowU_r, if_pos (by omega), Nat.sub_zero, ef]
      have e81 := t7 (s_ P 210 t + i) (by omega) (Or.inl (by rw [c8]; rcases hg with q | q; rw [if_pos (by omega)]; rw [en, if_neg (by omega)] at hi; omega))
      rw [show 100 * t + s_ P 210 t + i = 100 * t + (s_ P 210 t + i) by omega, e81]
      congr 1
      rw [tk_gd hi, dr_gd]
end HI_
