/-! The exchange of a transaction: who answers, and what it is to one device. -/
section HN
variable {P P' Q : pP} {d t : Nat} {r : Option Nat}
theorem prT_140 {k n : Nat} : s_ (prT P k n) 140 (nk P) = 0 := by unfold prT p_rst; simp only [s_S, s_B, s_F, b_S, b_B, b_F, f_S, f_B, Nat.reduceEqDiff, false_and, and_false, true_and, and_true, and_self, if_true, if_false, reduceIte, ite_self]
theorem prT_141 {k n : Nat} : s_ (prT P k n) 141 (nk P) = k := by unfold prT p_rst; simp only [s_S, s_B, s_F, b_S, b_B, b_F, f_S, f_B, Nat.reduceEqDiff, false_and, and_false, true_and, and_true, and_self, if_true, if_false, reduceIte, ite_self]
theorem prT_142 {k n : Nat} : s_ (prT P k n) 142 (nk P) = n := by unfold prT p_rst; simp only [s_S, s_B, s_F, b_S, b_B, b_F, f_S, f_B, Nat.reduceEqDiff, false_and, and_false, true_and, and_true, and_self, if_true, if_false, reduceIte, ite_self]
theorem prT_7 {k n : Nat} : b_ (prT P k n) 7 (nk P) = [] := by unfold prT p_rst; simp only [s_S, s_B, s_F, b_S, b_B, b_F, f_S, f_B, Nat.reduceEqDiff, false_and, and_false, true_and, and_true, and_self, if_true, if_false, reduceIte, ite_self]
theorem prD_140 {k : Nat} {l : List Nat} : s_ (prD P k l) 140 (nk P) = 0 := by unfold prD p_rst; simp only [s_S, s_B, s_F, b_S, b_B, b_F, f_S, f_B, Nat.reduceEqDiff, false_and, and_false, true_and, and_true, and_self, if_true, if_false, reduceIte, ite_self]
theorem prD_141 {k : Nat} {l : List Nat} : s_ (prD P k l) 141 (nk P) = k := by unfold prD p_rst; simp only [s_S, s_B, s_F, b_S, b_B, b_F, f_S, f_B, Nat.reduceEqDiff, false_and, and_false, true_and, and_true, and_self, if_true, if_false, reduceIte, ite_self]
theorem prD_7 {k : Nat} {l : List Nat} : b_ (prD P k l) 7 (nk P) = l := by unfold prD p_rst; simp only [s_S, s_B, s_F, b_S, b_B, b_F, f_S, f_B, Nat.reduceEqDiff, false_and, and_false, true_and, and_true, and_self, if_true, if_false, reduceIte, ite_self]
theorem prT_so {k n : Nat} (d : Nat) : SO d P (prT P k n) := pr_so (fun f i hf => prT_s hf) (fun c i hc => prT_b hc) d
theorem prD_so {k : Nat} {l : List Nat} (d : Nat) : SO d P (prD P k l) := pr_so (fun f i hf => prD_s hf) (fun c i hc => prD_b hc) d
theorem ansD_spec (h : ansD P = some d) : d < 6 ∧ s_ P 83 d ≠ 0 ∧ s_ P 91 d ≠ 0 := by
  unfold ansD at h
  have h1 := List.find?_some h
  have h2 := List.mem_range.mp (List.mem_of_find?_eq_some h)
  simp only [Bool.and_eq_true, bne_iff_ne, ne_eq] at h1
  exact ⟨h2, h1.1, h1.2⟩
theorem sv5_none (h : ansD Q = none) : sv5 Q = (Q, none) := by unfold sv5 p_hasAns; rw [h]; rfl
theorem sv5_some (h : ansD Q = some d) : sv5 Q = p_carry (p_bring Q d) := by unfold sv5 p_hasAns; rw [h]; rfl
theorem tKind_c : tKind P t = 13 ∨ tKind P t = 9 ∨ tKind P t = 1 := by
  unfold tKind
  split
  · exact Or.inl rfl
  · split
    · exact Or.inr (Or.inl rfl)
    · exact Or.inr (Or.inr rfl)
theorem tDat_c : tDat P t = 3 ∨ tDat P t = 11 := by
  unfold tDat dkn
  split
  · exact Or.inl rfl
  · split
    · exact Or.inr rfl
    · split
      · exact Or.inl rfl
      · exact Or.inr rfl
/-- a request to take an address goes to the one device that has none -/
def SA (P : pP) (t : Nat) : Prop := s_ P 209 t = 0 → ∀ d, d < 6 → s_ (sv2 P t) 83 d ≠ 0 → s_ (sv2 P t) 89 d = 14 → lwh (su P t) = 5 → 1 ≤ l16 (su P t) 2 → l16 (su P t) 2 ≤ 127 → l16 (su P t) 2 = d + 1 ∧ s_ (sv2 P t) 83 d = 1
/-- what is known of a transfer that is served -/
def XT (P : pP) (t : Nat) : Prop := TI P t ∧ s_ P 205 t < 65536 ∧ B8 (b_ P 36 t) ∧ t < s_ P 122 0 ∧ tNum P t < 2048 ∧ SA P t
theorem sa_all (hW : WX P) (hT : XT P t) (ha : ¬ asks P t) : ∀ d, d < 6 → s_ (sv2 P t) 83 d ≠ 0 → s_ (sv2 P t) 89 d = 14 → tDat P t = 3 → (fillB P t).length = 8 → lwh (fillB P t) = 5 → 1 ≤ l16 (fillB P t) 2 → l16 (fillB P t) 2 ≤ 127 → l16 (fillB P t) 2 = d + 1 ∧ s_ (sv2 P t) 83 d = 1 := by
  intro d hd h83 h89 e3 e8 e5 e1 e127
  by_cases h9 : s_ P 209 t = 0
  · have ef : fillB P t = su P t := by unfold fillB; rw [if_pos h9]; rfl
    rw [ef] at e5 e1 e127 ⊢
    exact hT.2.2.2.2.2 h9 d hd h83 h89 e5 e1 e127
  · exfalso
    have ek : tKind P t = 1 := by unfold tKind; rw [if_neg h9, if_neg ha]
    have e2 : sv2 P t = (p_carry (prT P 1 (tNum P t))).1 := by unfold sv2; rw [sv1_pr, ek]
    rw [e2] at h83 h89
    exact carry_out (fun d hd => by rw [prT_s (by omega)]; exact ex_86 hW.1.1 hd) (by rw [nk_prT]; exact prT_140) (by rw [nk_prT]; exact prT_141) hd h83 h89
theorem exch (hW : WX P) (hT : XT P t) (hS : s_ P 228 0 + 4 < 2 ^ 31) : CK (sv1 P t) ∧ WX (sv2 P t) ∧ (¬ asks P t → CK (svB (sv2 P t) t)) ∧ WX (sv3 P t) ∧ ((p_hasAns (sv3 P t)).2 = true → CK (p_hasAns (sv3 P t)).1) ∧ WX (sv5 (sv3 P t)).1 ∧ ∀ j, (sv5 (sv3 P t)).2 = some j → j < 60 ∧ j < s_ (sv5 (sv3 P t)).1 228 0 := by
  obtain ⟨hI, hw, hB, ht, hn, hsa⟩ := id hT
  have h6 : ∀ d, d < 6 → s_ P 86 d ≤ 6 := fun d hd => ex_86 hW.1.1 hd
  have kc := tKind_c (P := P) (t := t)
  have kk : okK (tKind P t) := by unfold okK isTok; omega
  have w1 : WX (sv1 P t) := by rw [sv1_pr]; exact wx_prT hW (by omega) kk (by omega) hn
  have r1 : Rdy (sv1 P t) (nk P) 0 := by rw [sv1_pr]; exact rdy_prT (by omega) kk (by omega) hn
  have s1 : s_ (sv1 P t) 228 0 = s_ P 228 0 := by rw [sv1_pr, prT_s (by omega)]
  have w2 : WX (sv2 P t) := wx_carry w1 (by omega) r1
  have k2 := (fh_sv3 (t := t) h6).1
  have s2 : s_ (sv2 P t) 228 0 = s_ P 228 0 + 1 := by
    unfold sv2
    rw [carry_228' _ (fun d hd => ex_86 w1.1.1 hd), s1]
  have fl := fill_len hI
  have fb := fill_b8 (P := P) (t := t) hB hw
  have dc := tDat_c (P := P) (t := t)
  have hB3 : ¬ asks P t → CK (svB (sv2 P t) t) ∧ WX (p_carry (svB (sv2 P t) t)).1 := by
    intro ha
    have rd : Rdy (svB (sv2 P t) t) (nk (sv2 P t)) 0 := by rw [svB_pr k2]; exact rdy_prD (by omega) fb (sa_all hW hT ha)
    have wd : WX (svB (sv2 P t) t) := by rw [svB_pr k2]; exact wx_prD w2 (by omega) fb fl (sa_all hW hT ha)
    have s3 : s_ (svB (sv2 P t) t) 228 0 = s_ (sv2 P t) 228 0 := by rw [svB_pr k2, prD_s (by omega)]
    exact ⟨ck_rdy wd (by omega) rd, wx_carry wd (by omega) rd⟩
  have w3 : WX (sv3 P t) := by
    unfold sv3
    by_cases ha : asks P t
    · rw [if_pos ha]; exact w2
    · rw [if_neg ha]; exact (hB3 ha).2
  have b3 := sv3_228 (t := t) h6
  have h5 : ((p_hasAns (sv3 P t)).2 = true → CK (p_hasAns (sv3 P t)).1) ∧ WX (sv5 (sv3 P t)).1 ∧ ∀ j, (sv5 (sv3 P t)).2 = some j → j < 60 ∧ j < s_ (sv5 (sv3 P t)).1 228 0 := by
    cases e : ansD (sv3 P t) with
    | none =>
      have eh : p_hasAns (sv3 P t) = (sv3 P t, false) := by unfold p_hasAns; rw [e]
      rw [sv5_none e, eh]
      exact ⟨fun q => (by cases q), w3, fun j q => (by cases q)⟩
    | some d =>
      obtain ⟨hd, h83, h91⟩ := ansD_spec e
      have eh : p_hasAns (sv3 P t) = (p_bring (sv3 P t) d, true) := by unfold p_hasAns; rw [e]
      have wb := wx_bring w3 hd e h83 h91
      have rb := rdy_bring w3 hd h83 h91
      have sb : s_ (p_bring (sv3 P t) d) 228 0 = s_ (sv3 P t) 228 0 := br_s (by omega)
      rw [sv5_some e, eh]
      have ckb : CK (p_bring (sv3 P t) d) := ck_rdy wb (by omega) rb
      refine ⟨fun _ => ckb, wx_carry wb (by omega) rb, fun j q => ?_⟩
      have q' : (p_carry1 (p_bring (sv3 P t) d)).2 = some j := q
      rw [carry_228' _ (fun d hd => ex_86 wb.1.1 hd)]
      rcases c1_2 (P := p_bring (sv3 P t) d) with c | c
      · rw [c] at q'; cases q'
      · rw [c] at q'
        obtain rfl : nk (p_bring (sv3 P t) d) = j := Option.some.inj q'
        refine ⟨nk_60, ?_⟩
        unfold nk
        omega
  exact ⟨ck_rdy w1 (by omega) r1, w2, fun ha => (hB3 ha).1, w3, h5.1, h5.2.1, h5.2.2⟩
/-- the answer's kind -/
theorem br_141c (hW : WX P) (e : ansD P = some d) : s_ P 141 (60 + d) = 2 ∨ s_ P 141 (60 + d) = 10 ∨ s_ P 141 (60 + d) = 14 ∨ isDat (s_ P 141 (60 + d)) := by
  obtain ⟨hd, h83, h91⟩ := ansD_spec e
  rcases ((hW.2.2 d hd).2 h91).1 with q | q | q | q
  · exact Or.inl q
  · exact Or.inr (Or.inl q)
  · exact Or.inr (Or.inr (Or.inl q))
  · exact Or.inr (Or.inr (Or.inr q.1))
/-- the statics of all devices -/
theorem sts_sv5 (hW : WX P) (hT : XT P t) (hS : s_ P 228 0 + 4 < 2 ^ 31) : STs P (sv5 (sv3 P t)).1 := by
  obtain ⟨-, w2, -, w3, -, -, -⟩ := exch hW hT hS
  have h6 : ∀ d, d < 6 → s_ P 86 d ≤ 6 := fun d hd => ex_86 hW.1.1 hd
  have k2 := (fh_sv3 (t := t) h6).1
  have a1 : STs P (sv2 P t) := by
    unfold sv2
    rw [sv1_pr]
    exact sts_tr (sts_so (fun d _ => prT_so d)) (sts_carry (fun d hd => by rw [prT_s (by omega)]; exact h6 d hd))
  have a2 : STs P (sv3 P t) := by
    unfold sv3
    split
    · exact a1
    · rw [svB_pr k2]
      exact sts_tr a1 (sts_tr (sts_so (fun d _ => prD_so d)) (sts_carry (fun d hd => by rw [prD_s (by omega)]; exact ex_86 w2.1.1 hd)))
  refine sts_tr a2 ?_
  cases e : ansD (sv3 P t) with
  | none => rw [sv5_none e]; exact sts_rf
  | some d' =>
    rw [sv5_some e]
    refine sts_tr ?_ (sts_carry (fun d hd => by rw [br_s (by omega)]; exact ex_86 w3.1.1 hd))
    exact fun d _ => ⟨fun f hf => br_s (by omega), fun f k h1 h2 _ => br_s (by omega)⟩
/-- a device that the token does not mean -/
theorem exch_quiet (hW : WX P) (hT : XT P t) (hS : s_ P 228 0 + 4 < 2 ^ 31) (hd : d < 6) (hq : s_ P 83 d = 0 ∨ s_ P 84 d ≠ tNum P t % 128) : ZSa d P (sv5 (sv3 P t)).1 ∧ (s_ P 83 d ≠ 0 → s_ (sv5 (sv3 P t)).1 89 d = 0) ∧ s_ (sv3 P t) 83 d = s_ P 83 d ∧ (s_ P 83 d ≠ 0 → s_ (sv3 P t) 91 d = 0) := by
  obtain ⟨-, w2, -, w3, -, -, -⟩ := exch hW hT hS
  have h6 : ∀ d, d < 6 → s_ P 86 d ≤ 6 := fun d hd => ex_86 hW.1.1 hd
  have k2 := (fh_sv3 (t := t) h6).1
  have kc := tKind_c (P := P) (t := t)
  have dc := tDat_c (P := P) (t := t)
  by_cases h83 : s_ P 83 d = 0
  · have b1 : SO d P (sv2 P t) := by
      unfold sv2
      rw [sv1_pr]
      refine so_tr (prT_so d) (carry_gone (fun d hd => by rw [prT_s (by omega)]; exact h6 d hd) hd ?_)
      rw [prT_s (by omega)]; exact h83
    have b2 : SO d P (sv3 P t) := by
      unfold sv3
      split
      · exact b1
      · rw [svB_pr k2]
        refine so_tr b1 (so_tr (prD_so d) (carry_gone (fun d hd => by rw [prD_s (by omega)]; exact ex_86 w2.1.1 hd) hd ?_))
        rw [prD_s (by omega), so_s b1 (by decide)]; exact h83
    refine ⟨?_, fun q => absurd h83 q, so_s b2 (by decide), fun q => absurd h83 q⟩
    cases e : ansD (sv3 P t) with
    | none => rw [sv5_none e]; exact zs_so b2
    | some d' =>
      rw [sv5_some e]
      refine zs_tr (zs_so b2) (zs_tr ⟨fun f hf => br_s (by omega), br_b (by omega)⟩ (zs_so (carry_gone (fun d hd => by rw [br_s (by omega)]; exact ex_86 w3.1.1 hd) hd ?_)))
      rw [br_s (by omega), so_s b2 (by decide)]; exact h83
  · have hA : s_ P 84 d ≠ tNum P t % 128 := hq.elim (fun q => absurd q h83) id
    have b1 : ZSa d P (sv2 P t) ∧ s_ (sv2 P t) 91 d = 0 ∧ s_ (sv2 P t) 89 d = 0 := by
      unfold sv2
      rw [sv1_pr]
      have so := prT_so (P := P) (k := tKind P t) (n := tNum P t) d
      obtain ⟨z1, z2, z3⟩ := carry_quiet (P := prT P (tKind P t) (tNum P t)) (d := d) (fun d hd => by rw [prT_s (by omega)]; exact h6 d hd) hd (by rw [nk_prT, prT_140]; omega) (by rw [nk_prT, prT_142, prT_141, so_s so (by decide)]; exact fun q => hA q.2.symm) (Or.inr (by rw [nk_prT, prT_141]; unfold isTok; omega)) (by rw [so_s so (by decide)]; exact h83)
      refine ⟨zs_tr (zs_so so) z1, z2, Decidable.byContradiction (fun q => ?_)⟩
      have := (z3 q).2
      rw [nk_prT, prT_142, so_s so (by decide)] at this
      exact hA this.symm
    have b2 : ZSa d P (sv3 P t) ∧ s_ (sv3 P t) 91 d = 0 ∧ s_ (sv3 P t) 89 d = 0 := by
      unfold sv3
      split
      · exact b1
      · rw [svB_pr k2]
        have so := prD_so (P := sv2 P t) (k := tDat P t) (l := fillB P t) d
        obtain ⟨z1, z2, z3⟩ := carry_quiet (P := prD (sv2 P t) (tDat P t) (fillB P t)) (d := d) (fun d hd => by rw [prD_s (by omega)]; exact ex_86 w2.1.1 hd) hd (by rw [nk_prD, prD_140]; omega) (by rw [nk_prD, prD_141]; omega) (Or.inl (by rw [so_s so (by decide)]; exact b1.2.2)) (by rw [so_s so (by decide), b1.1.1 83 (by decide)]; exact h83)
        refine ⟨zs_tr b1.1 (zs_tr (zs_so so) z1), z2, Decidable.byContradiction (fun q => ?_)⟩
        have := (z3 q).1
        rw [nk_prD, prD_141] at this
        unfold isTok at this
        omega
    refine ⟨?_, fun _ => ?_, b2.1.1 83 (by decide), fun _ => b2.2.1⟩
    all_goals
      cases e : ansD (sv3 P t) with
      | none => rw [sv5_none e]; first | exact b2.1 | exact b2.2.2
      | some d' =>
        obtain ⟨hd', -, h91⟩ := ansD_spec e
        have nd : d ≠ d' := fun q => by subst q; exact h91 b2.2.1
        rw [sv5_some e]
        have kc' := br_141c w3 e
        have zb : ZSa d (sv3 P t) (p_bring (sv3 P t) d') := ⟨fun f hf => br_s (by omega), br_b (by omega)⟩
        obtain ⟨z1, z2, z3⟩ := carry_quiet (P := p_bring (sv3 P t) d') (d := d) (fun d hd => by rw [br_s (by omega)]; exact ex_86 w3.1.1 hd) hd (by rw [br_nk, br_140]; omega) (by rw [br_nk, br_141]; unfold isDat at kc'; omega) (Or.inl (by rw [br_s (by omega)]; exact b2.2.2)) (by rw [br_s (by omega), b2.1.1 83 (by decide)]; exact h83)
        first
        | exact zs_tr b2.1 (zs_tr zb z1)
        | (refine Decidable.byContradiction (fun q => ?_)
           have := (z3 q).1
           rw [br_nk, br_141] at this
           unfold isTok at this
           unfold isDat at kc'
           omega)
/-- who answers was meant -/
theorem who (hW : WX P) (hT : XT P t) (hS : s_ P 228 0 + 4 < 2 ^ 31) (e : ansD (sv3 P t) = some d) : d < 6 ∧ s_ P 83 d ≠ 0 ∧ s_ P 84 d = tNum P t % 128 := by
  obtain ⟨hd, h83, h91⟩ := ansD_spec e
  by_cases hq : s_ P 83 d = 0 ∨ s_ P 84 d ≠ tNum P t % 128
  · obtain ⟨-, -, z3, z4⟩ := exch_quiet hW hT hS hd hq
    rw [z3] at h83
    exact absurd (z4 h83) h91
  · exact ⟨hd, fun q => hq (Or.inl q), Decidable.byContradiction (fun q => hq (Or.inr q))⟩
theorem who_r {j : Nat} (hW : WX P) (hT : XT P t) (hS : s_ P 228 0 + 4 < 2 ^ 31) (e : (sv5 (sv3 P t)).2 = some j) : ∃ d, ansD (sv3 P t) = some d ∧ d < 6 ∧ s_ P 83 d ≠ 0 ∧ s_ P 84 d = tNum P t % 128 := by
  cases c : ansD (sv3 P t) with
  | none => rw [sv5_none c] at e; cases e
  | some d => exact ⟨d, rfl, who hW hT hS c⟩
/-- addresses are a device's own -/
theorem own_ad (hW : WX P) (hd : d < 6) {n : Nat} (h83 : s_ P 83 d ≠ 0) (e : s_ P 84 d = n + 1) : d = n := by
  obtain ⟨a1, a2, a3, -⟩ := hW.1.2.2.1 d hd
  by_cases q : s_ P 83 d ≤ 1
  · have := a2 q; omega
  · have := a3 (by omega); omega
end HN
