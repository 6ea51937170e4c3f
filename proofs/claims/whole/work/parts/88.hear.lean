/-! The reference's host listens. -/
section WF
variable {a : Nat} {ra : Nat → Nat} {R R' : Nat → Nat → Int32} {M : sm_M} {D : Nat} {P P' : pP} {d : Nat}
theorem ex_91 {v : Nat} (hx : EX P) (hd : d < 6) (hv : v < 2 ^ 31) : EX (pS P 91 d v) := by
  obtain ⟨g, M, h⟩ := hx
  obtain ⟨l4, -⟩ := lq_s h hd
  exact ⟨g, _, rc_w' (c := 4) (k := 11) h l4 hv⟩
theorem id_91 {i v : Nat} (h : ID P d) : ID (pS P 91 i v) d := by
  obtain ⟨hE, hZ, hW⟩ := h
  refine ⟨ie_S hE (by decide), ?_, ?_⟩
  · unfold IZ at *; simp only [s_S, s_B, s_F, b_S, b_B, b_F, f_S, f_B, Nat.reduceEqDiff, false_and, and_false, true_and, and_true, and_self, if_true, if_false, reduceIte, ite_self]; exact hZ
  · have e : ∀ w, p_find (pS P 91 i v) d w = p_find P d w := fun w => fnd_ca (by simp only [s_S, s_B, s_F, b_S, b_B, b_F, f_S, f_B, Nat.reduceEqDiff, false_and, and_false, true_and, and_true, and_self, if_true, if_false, reduceIte, ite_self]) (fun k => by simp only [s_S, s_B, s_F, b_S, b_B, b_F, f_S, f_B, Nat.reduceEqDiff, false_and, and_false, true_and, and_true, and_self, if_true, if_false, reduceIte, ite_self])
    unfold IW nfl at *
    rw [e]; simp only [s_S, s_B, s_F, b_S, b_B, b_F, f_S, f_B, Nat.reduceEqDiff, false_and, and_false, true_and, and_true, and_self, if_true, if_false, reduceIte, ite_self]; exact hW
theorem sh_91 {i v : Nat} : sh (pS P 91 i v) d = pS (sh P d) 91 i v := by
  have e83 : s_ (pS P 91 i v) 83 d = s_ P 83 d := by simp only [s_S, s_B, s_F, b_S, b_B, b_F, f_S, f_B, Nat.reduceEqDiff, false_and, and_false, true_and, and_true, and_self, if_true, if_false, reduceIte, ite_self]
  by_cases q : s_ P 83 d = 0
  · rw [sh_a (by rw [e83]; exact q), sh_a q]
    refine Prod.ext ?_ rfl
    funext f j
    show s_ (pS (pS (pS P 91 i v) 60 d 0) 89 d 0) f j = s_ (pS (pS (pS P 60 d 0) 89 d 0) 91 i v) f j
    simp only [s_S]
    by_cases c1 : f = 91
    · rw [if_neg (by omega), if_neg (by omega), if_neg (c := f = 89 ∧ j = d) (by omega), if_neg (c := f = 60 ∧ j = d) (by omega)]
    · rw [if_neg (c := f = 91 ∧ j = i) (by omega), if_neg (c := f = 91 ∧ j = i) (by omega)]
  · rw [sh_p (by rw [e83]; exact q), sh_p q]
theorem wi_91 {v : Nat} (h : WI P) (hd : d < 6) (hv : v < 2 ^ 31) : WI (pS P 91 d v) := by
  obtain ⟨h1, h2, h3, h4, h5⟩ := h
  refine ⟨ex_91 h1 hd hv, fun k hk => by rw [sh_91]; exact id_91 (h2 k hk), fun k hk => ?_, ?_, ?_⟩
  · exact ia_cg (h3 k hk) (by simp only [s_S, s_B, s_F, b_S, b_B, b_F, f_S, f_B, Nat.reduceEqDiff, false_and, and_false, true_and, and_true, and_self, if_true, if_false, reduceIte, ite_self]) (by simp only [s_S, s_B, s_F, b_S, b_B, b_F, f_S, f_B, Nat.reduceEqDiff, false_and, and_false, true_and, and_true, and_self, if_true, if_false, reduceIte, ite_self]) (by simp only [s_S, s_B, s_F, b_S, b_B, b_F, f_S, f_B, Nat.reduceEqDiff, false_and, and_false, true_and, and_true, and_self, if_true, if_false, reduceIte, ite_self]) (Or.inl (by simp only [s_S, s_B, s_F, b_S, b_B, b_F, f_S, f_B, Nat.reduceEqDiff, false_and, and_false, true_and, and_true, and_self, if_true, if_false, reduceIte, ite_self]))
  · unfold UD at *; simp only [s_S, s_B, s_F, b_S, b_B, b_F, f_S, f_B, Nat.reduceEqDiff, false_and, and_false, true_and, and_true, and_self, if_true, if_false, reduceIte, ite_self]; exact h4
  · unfold WU at *; simp only [s_S, s_B, s_F, b_S, b_B, b_F, f_S, f_B, Nat.reduceEqDiff, false_and, and_false, true_and, and_true, and_self, if_true, if_false, reduceIte, ite_self]; exact h5
theorem relD_91 {i v : Nat} (h : RelD P R d) : RelD (pS P 91 i v) R d := by
  obtain ⟨hA, hz, he⟩ := h
  refine ⟨?_, ?_, fun k hk => ?_⟩
  · unfold RelA at *; simp only [u2_r, rowU_r, s_S, s_B, s_F, b_S, b_B, b_F, f_S, f_B, nfl_S, nfl_B, Nat.reduceEqDiff, false_and, and_false, true_and, and_true, and_self, if_true, if_false, reduceIte, ite_self, or_self, or_false, false_or, or_true, true_or, false_implies, implies_true, true_implies, Nat.reduceLeDiff, not_true_eq_false, not_false_eq_true, ne_eq]; exact hA
  · unfold RelZ RelZ2 at *; simp only [u2_r, rowU_r, s_S, s_B, s_F, b_S, b_B, b_F, f_S, f_B, nfl_S, nfl_B, Nat.reduceEqDiff, false_and, and_false, true_and, and_true, and_self, if_true, if_false, reduceIte, ite_self, or_self, or_false, false_or, or_true, true_or, false_implies, implies_true, true_implies, Nat.reduceLeDiff, not_true_eq_false, not_false_eq_true, ne_eq]; exact hz
  · have := he k (by revert hk; simp only [u2_r, rowU_r, s_S, s_B, s_F, b_S, b_B, b_F, f_S, f_B, nfl_S, nfl_B, Nat.reduceEqDiff, false_and, and_false, true_and, and_true, and_self, if_true, if_false, reduceIte, ite_self, or_self, or_false, false_or, or_true, true_or, false_implies, implies_true, true_implies, Nat.reduceLeDiff, not_true_eq_false, not_false_eq_true, ne_eq]; exact id)
    unfold RelE at *; simp only [u2_r, rowU_r, s_S, s_B, s_F, b_S, b_B, b_F, f_S, f_B, nfl_S, nfl_B, Nat.reduceEqDiff, false_and, and_false, true_and, and_true, and_self, if_true, if_false, reduceIte, ite_self, or_self, or_false, false_or, or_true, true_or, false_implies, implies_true, true_implies, Nat.reduceLeDiff, not_true_eq_false, not_false_eq_true, ne_eq]; exact this
theorem relX_91 {i v : Nat} (h : RelX P R d) : RelX (pS P 91 i v) R d := by
  have e83 : s_ (pS P 91 i v) 83 d = s_ P 83 d := by simp only [s_S, s_B, s_F, b_S, b_B, b_F, f_S, f_B, Nat.reduceEqDiff, false_and, and_false, true_and, and_true, and_self, if_true, if_false, reduceIte, ite_self]
  unfold RelX sdR at *
  rw [sh_91, e83]; exact relD_91 h
/-- what bringing the answer changes -/
theorem br_s {f i : Nat} (hf : ¬ (140 ≤ f ∧ f < 160 ∧ i = nk P) ∧ ¬ (f = 91 ∧ i = d)) : s_ (p_bring P d) f i = s_ P f i := by
  unfold p_bring p_rst
  rw [s_S, if_neg (by omega), s_B, s_S, if_neg (by omega), s_B, s_S, if_neg (by omega), s_S, if_neg (by omega), s_S, if_neg (by omega)]
theorem br_b {c i : Nat} (hc : ¬ (c = 7 ∧ i = nk P)) : b_ (p_bring P d) c i = b_ P c i := by
  unfold p_bring p_rst
  rw [b_S, b_B, if_neg (by omega), b_S, b_B, if_neg (by omega), b_S, b_S, b_S]
theorem br_nk : nk (p_bring P d) = nk P := by unfold nk; rw [br_s (by omega)]
theorem br_140 : s_ (p_bring P d) 140 (nk P) = d + 1 := by unfold p_bring p_rst; simp only [s_S, s_B, s_F, b_S, b_B, b_F, f_S, f_B, Nat.reduceEqDiff, false_and, and_false, true_and, and_true, and_self, if_true, if_false, reduceIte, ite_self]
theorem br_141 : s_ (p_bring P d) 141 (nk P) = s_ P 141 (60 + d) := by unfold p_bring p_rst; simp only [s_S, s_B, s_F, b_S, b_B, b_F, f_S, f_B, Nat.reduceEqDiff, false_and, and_false, true_and, and_true, and_self, if_true, if_false, reduceIte, ite_self]
theorem br_142 : s_ (p_bring P d) 142 (nk P) = 0 := by unfold p_bring p_rst; simp only [s_S, s_B, s_F, b_S, b_B, b_F, f_S, f_B, Nat.reduceEqDiff, false_and, and_false, true_and, and_true, and_self, if_true, if_false, reduceIte, ite_self]
theorem br_145 : s_ (p_bring P d) 145 (nk P) = 0 := by unfold p_bring p_rst; simp only [s_S, s_B, s_F, b_S, b_B, b_F, f_S, f_B, Nat.reduceEqDiff, false_and, and_false, true_and, and_true, and_self, if_true, if_false, reduceIte, ite_self]
theorem br_7 : b_ (p_bring P d) 7 (nk P) = b_ P 7 (60 + d) := by unfold p_bring p_rst; simp only [s_S, s_B, s_F, b_S, b_B, b_F, f_S, f_B, Nat.reduceEqDiff, false_and, and_false, true_and, and_true, and_self, if_true, if_false, reduceIte, ite_self]
theorem br_91 : s_ (p_bring P d) 91 d = 0 := by unfold p_bring p_rst; simp only [s_S, s_B, s_F, b_S, b_B, b_F, f_S, f_B, Nat.reduceEqDiff, false_and, and_false, true_and, and_true, and_self, if_true, if_false, reduceIte, ite_self]
theorem br_so (k : Nat) : SO k (pS P 91 d 0) (p_bring P d) := by
  have := nk_60 (P := P)
  refine so_all (fun f i hf => ?_) (fun f i hf hi => ?_) (fun i hi => ?_) (fun c i hc => ?_) k
  · rw [s_S]
    by_cases q : f = 91 ∧ i = d
    · rw [if_pos q, q.1, q.2]; exact br_91
    · rw [if_neg q]; exact br_s (by omega)
  · rw [s_S, if_neg (by omega)]; exact br_s (by omega)
  · exact br_b (by omega)
  · exact br_b (by omega)
theorem ansD_some (hd : d < 6) (h83 : s_ P 83 d ≠ 0) (h91 : s_ P 91 d ≠ 0) (hu : ∀ k, k < 6 → s_ P 91 k ≠ 0 → k = d) : ansD P = some d := by
  cases e : ansD P with
  | none =>
    have := List.find?_eq_none.mp e d (List.mem_range.mpr hd)
    simp [h83, h91] at this
  | some k =>
    have hk := List.mem_range.mp (List.mem_of_find?_eq_some e)
    have := List.find?_some e
    simp at this
    rw [hu k hk this.2]
theorem ansD_none (h : W0 P) : ansD P = none := by
  refine List.find?_eq_none.mpr (fun k hk => ?_)
  have := h k (List.mem_range.mp hk)
  simp [this]
/-- what the host heard -/
def hrd (r : pP × Option Nat) : Nat := match r.2 with
  | none => 0
  | some j => s_ r.1 141 j + 1
def HR (P : pP) (R R' : Nat → Nat → Int32) : Prop := WX (sv5 P).1 ∧ W0 (sv5 P).1 ∧ WR (sv5 P).1 R' ∧ RK (sv5 P).1 R' ∧ R' 82 0 = nE (hrd (sv5 P)) ∧ (∀ j, (sv5 P).2 = some j → R' 50 0 = nI j ∧ j < 60 ∧ j < s_ (sv5 P).1 228 0) ∧ ∀ f i, f < 4 ∨ 55 ≤ f → f ≠ 82 → R' f i = R f i
theorem carry_141 (hW : WX P) (hS : s_ P 228 0 + 1 < 2 ^ 31) {j s i : Nat} (hr : Rdy P j s) (hi : i < 60) : s_ (p_carry P).1 141 i = s_ P 141 i := by
  have hW2 := wx_c2 hW hS hr
  have h6 : ∀ d, d < 6 → s_ (c2 P) 86 d ≤ 6 := fun d hd => ex_86 hW2.1.1 hd
  rw [carry_c2]
  show s_ (p_hears (c2 P) (s_ P 140 (nk P)) (p_carry1 P).2 6) 141 i = _
  rw [hears_K h6 (own_j hi (by decide)) 6 (Nat.le_refl _), c2_s (by omega)]
theorem carry_228 (hW : WX P) (hS : s_ P 228 0 + 1 < 2 ^ 31) {j s : Nat} (hr : Rdy P j s) : s_ (p_carry P).1 228 0 = s_ P 228 0 + 1 := by
  have hW2 := wx_c2 hW hS hr
  have h6 : ∀ d, d < 6 → s_ (c2 P) 86 d ≤ 6 := fun d hd => ex_86 hW2.1.1 hd
  rw [carry_c2]
  show s_ (p_hears (c2 P) (s_ P 140 (nk P)) (p_carry1 P).2 6) 228 0 = _
  rw [hears_K h6 (fun d => by unfold own; omega) 6 (Nat.le_refl _), c2_228]
/-- the answer is ready -/
theorem rdy_bring (hW : WX P) (hd : d < 6) (h83 : s_ P 83 d ≠ 0) (h91 : s_ P 91 d ≠ 0) : Rdy (p_bring P d) (nk P) (d + 1) := by
  obtain ⟨w1, w2, w3⟩ := hW
  obtain ⟨k1, k2⟩ := (w3 d hd).2 h91
  refine ⟨br_nk, br_140, by omega, ⟨?_, ?_, ?_⟩, ?_, br_145, fun _ => Or.inr ?_, fun k hk p83 p89 p141 => ?_⟩
  · rw [br_141]; unfold isDat at k1; omega
  · rw [br_142]; decide
  · rw [br_7]; exact k2
  · rw [br_141]; unfold okK isTok; unfold isDat at *; omega
  · rw [br_141]; unfold isTok; unfold isDat at k1; omega
  · exfalso
    rw [br_141] at p141
    have e89 : s_ P 89 d = 3 := by unfold isDat at k1; omega
    rw [br_s (by omega)] at p83 p89
    have := w1.2.2.2.2 k d hk hd p83 h83 (by omega) (by omega)
    rw [this] at p89; omega
theorem ex_bring (hW : WX P) (hd : d < 6) (e : ansD P = some d) : EX (p_bring P d) := by
  obtain ⟨g, M, h⟩ := hW.1.1
  obtain ⟨v, M', -, h'⟩ := ru_ex (c_hasAns (D := 0) h)
  unfold p_hasAns at h'
  rw [e] at h'
  exact ⟨g, M', h'⟩
theorem wx_bring (hW : WX P) (hd : d < 6) (e : ansD P = some d) (h83 : s_ P 83 d ≠ 0) (h91 : s_ P 91 d ≠ 0) : WX (p_bring P d) := by
  have rd := rdy_bring hW hd h83 h91
  have xb := ex_bring hW hd e
  obtain ⟨w1, w2, w3⟩ := hW
  refine ⟨wi_so (wi_91 (v := 0) w1 hd (by decide)) xb (fun k _ => br_so k), fun j hj hS => ?_, fun k hk => ?_⟩
  · rw [br_s (by omega)] at hS
    by_cases qj : j = nk P
    · subst qj
      exact ⟨rd.pk, rd.kk, by rw [rd.sn]; omega, ex_7 xb (by omega)⟩
    · unfold PKo
      rw [br_s (by omega), br_s (by omega), br_s (by omega), br_b (by omega)]
      exact w2 j hj hS
  · refine so_IK (br_so k) ⟨ib_S (w3 k hk).1 (by decide), ?_⟩
    have := (w3 k hk).2
    unfold AK at *
    simp only [s_S, s_B, s_F, b_S, b_B, b_F, f_S, f_B, Nat.reduceEqDiff, false_and, and_false, true_and, and_true, and_self, if_true, if_false, reduceIte, ite_self]
    intro q
    refine this ?_
    revert q
    split
    · intro q; exact absurd rfl q
    · exact id
/-- WireBusModel.hear -/
theorem r_hearA (h : RM a ra R M) (hW : WX P) (hR : WR P R) (hK : RK P R) (hA : AnsI P R) (hS : s_ P 228 0 + 1 < 2 ^ 31) : sm_Run (D + 5) 179 0 (sm_ent 179 [.inr (some a)]) [] M (fun v M' => v = none ∧ ∃ R', RM a ra R' M' ∧ HR P R R') := by
  have h1 := rm_sr h (f := 82) (v := nE 0)
  by_cases h0 : W0 P
  · have r51 := hA.2 h0
    have e5 : sv5 P = (P, none) := by unfold sv5 p_hasAns; rw [ansD_none h0]; rfl
    refine bb_179_0 ?_
    simp (disch := first | assumption | omega | decide) only [rS_51 h, rk_39 h, r51, ↓li_m1, li_0, li_1, li_2, li_3, li_4, li_5, li_6, li_7, li_8, li_9, li_10, li_11, li_12, li_13, li_14, li_16, li_18, li_20, li_32, li_36, li_40, li_50, li_60, li_64, li_100, li_127, li_128, li_200, li_255, li_256, li_290, li_300, li_336, li_512, li_513, li_515, li_660, li_2048, li_16385, li_32768, li_32774, li_32776, li_33280, li_49153, nI_add, pk_mul, nI_eq, nI_leI, nI_ltI, pk_sub, nI_clamp, Decidable.not_not, Nat.reduceAdd, Nat.reduceMul, Option.some.injEq, exists_eq_left', exists_eq_left, forall_eq', reduceCtorEq, false_implies, forall_const, true_and, and_true, not_false_eq_true, not_true_eq_false, Nat.reduceEqDiff, Ip_r h, Ip_a h, Ip_b h, I_put_s, I_put_k, Rp_j, u2_r, rowU_r, false_and, and_false, if_false, if_true, reduceIte]
    refine ⟨_, h1, ?_⟩
    unfold HR
    rw [e5]
    exact ⟨hW, h0, wr_cg hR hW.1 (fun f i hf => by rw [u2_r, if_neg (by omega)]), fun k k1 k2 => relK_cg (hK k k1 k2) (fun _ _ => rfl) rfl (fun f i hf => by rw [u2_r, if_neg (by omega)]), by simp only [u2_r, rowU_r, s_S, s_B, s_F, b_S, b_B, b_F, f_S, f_B, nfl_S, nfl_B, Nat.reduceEqDiff, false_and, and_false, true_and, and_true, and_self, if_true, if_false, reduceIte, ite_self, or_self, or_false, false_or, or_true, true_or, false_implies, implies_true, true_implies, Nat.reduceLeDiff, not_true_eq_false, not_false_eq_true, ne_eq]; rfl, (fun j e => by cases e), fun f i hf hn => by rw [u2_r, if_neg (by omega)]⟩
  · obtain ⟨d, hd, h91⟩ : ∃ d, d < 6 ∧ s_ P 91 d ≠ 0 := by
      refine Decidable.byContradiction (fun q => h0 (fun d hd => ?_))
      exact Decidable.byContradiction (fun q' => q ⟨d, hd, q'⟩)
    obtain ⟨h83, r51, -, r54, r53, r52⟩ := hA.1 d hd h91
    have hu : ∀ k, k < 6 → s_ P 91 k ≠ 0 → k = d := fun k hk q => by
      have := (hA.1 k hk q).2.1
      rw [r51, nI_eq (by omega) (by omega)] at this; exact this.symm
    have eA := ansD_some hd h83 h91 hu
    have rd := rdy_bring hW hd h83 h91
    have wb := wx_bring hW hd eA h83 h91
    have e5 : sv5 P = p_carry (p_bring P d) := by unfold sv5 p_hasAns; rw [eA]; rfl
    have hS' : s_ (p_bring P d) 228 0 + 1 < 2 ^ 31 := by rw [br_s (by omega)]; exact hS
    have w0b : W0 (p_bring P d) := fun k hk => by
      by_cases q : k = d
      · rw [q]; exact br_91
      · rw [br_s (by have := nk_60 (P := P); omega)]
        exact Decidable.byContradiction (fun q' => q (hu k hk q'))
    have hC := wx_carry wb hS' rd
    have w0c : W0 (p_carry (p_bring P d)).1 := by
      refine w0_carry wb w0b hS' rd (fun k hk q c => ?_)
      obtain ⟨c1, c2⟩ := c
      obtain ⟨k1, k2⟩ := (hW.2.2 d hd).2 h91
      rw [br_141] at c2
      rw [br_s (by omega)] at c1
      rcases c2 with c2 | c2
      · unfold isDat at k1; omega
      · have e89 : s_ P 89 d = 3 := by unfold isDat at *; omega
        rw [br_s (by omega)] at c2
        have := hW.1.2.2.2.2 k d hk hd c1 h83 c2.2 (by omega)
        omega
    have b54 := ex_b hW.1.1 141 (60 + d)
    have l7 := ex_7 hW.1.1 (show 60 + d < 66 by omega)
    generalize hR1 : sm_u2 R 82 0 (nE 0) = R1 at h1
    have fR1 : ∀ f i, f ≠ 82 → R1 f i = R f i := fun f i hf => by rw [← hR1, u2_r, if_neg (by omega)]
    have r82 : R1 82 0 = nE 0 := by rw [← hR1]; simp only [u2_r, rowU_r, s_S, s_B, s_F, b_S, b_B, b_F, f_S, f_B, nfl_S, nfl_B, Nat.reduceEqDiff, false_and, and_false, true_and, and_true, and_self, if_true, if_false, reduceIte, ite_self, or_self, or_false, false_or, or_true, true_or, false_implies, implies_true, true_implies, Nat.reduceLeDiff, not_true_eq_false, not_false_eq_true, ne_eq]
    have WRb : WR (p_bring P d) R1 := by
      refine ⟨fun k hk => ?_, rf_cg hR.2.1 (br_s (by omega)) rfl (fun f i hf => fR1 f i (by omega)), ?_, fun i hi => ?_⟩
      · exact relX_cg (br_so k) (fun f i o n => fR1 f i (by unfold ownR at o; omega)) (ex_91 hW.1.1 hd (by decide)) hk (by rw [sh_91]; exact id_HD (id_91 (hW.1.2.1 k hk))) (relX_91 (hR.1 k hk))
      · rw [br_s (by omega), fR1 _ _ (by decide)]; exact hR.2.2.1
      · rw [fR1 _ _ (by decide)]; exact hR.2.2.2 i hi
    have RKb : RKw (p_bring P d) R1 := fun k k1 k2 k3 => by
      rw [br_s (by omega)] at k2
      rw [br_nk] at k3
      exact relK_cg (hK k k1 k2) (fun f hf => br_s (by omega)) (br_b (by omega)) (fun f i hf => fR1 f i (by omega))
    have n1 := nI_n1 (show d < 2 ^ 31 by omega)
    clear hR1
    refine bb_179_0 ⟨h.1, fun _ => ?_, fun q => ?_⟩
    rotate_left
    · exfalso; apply q
      rw [I_put_k (show (51 : Nat) ≠ 82 by decide), rS_51 h, r51]; exact n1
    rw [I_put_k (show (51 : Nat) ≠ 82 by decide), I_put_k (show (54 : Nat) ≠ 82 by decide), I_put_k (show (53 : Nat) ≠ 82 by decide), rS_51 h, r51, rS_54 h, r54, rS_53 h, r53]
    have gs := r_goes (D := D + 2) (j := nk P) (s := d + 1) (x3 := 0) (x4 := 0) h1 wb.1.1 WRb.2.2.1 hS' WRb.2.1 rd.nk rd.sn rd.s7 rd.pk rd.kk rd.st (fun t => absurd t ((rd.tk d).resolve_left (fun q => q rfl))) (fun q => by
      rw [br_141] at q
      obtain ⟨k1, -⟩ := (hW.2.2 d hd).2 h91
      unfold isDat at k1; omega) (fun i hi => by
      rw [br_7] at hi ⊢
      rw [fR1 _ _ (by decide)]; exact r52 i hi)
    rw [br_141, br_7, nE_s] at gs
    refine ru_mono gs ?_
    rintro v M1 ⟨rfl, R2, h2, hG⟩
    have pk : PKo (p_bring P d) (nk (p_bring P d)) := by rw [rd.nk]; exact rd.pk
    have ec0 := carry_c2 (P := p_bring P d)
    rw [br_nk, br_140] at ec0
    have gF := hG.2.2.2.2.2.1
    rcases c1_2 (P := p_bring P d) with e | e
    · obtain ⟨-, n2, n3, n4⟩ := c_none wb.1 w0b WRb RKb wb.2.1 hS' pk (by rw [rd.nk, rd.sn]; exact rd.s7) hG e
      rw [if_pos e]
      refine bb_179_34 ⟨fun _ => ⟨rfl, R2, h2, ?_⟩, fun q => absurd rfl q⟩
      unfold HR
      rw [e5]
      refine ⟨hC, w0c, n3, n4, ?_, fun j ej => ?_, fun f i hf hn => ?_⟩
      · rw [gF _ _ (by decide) (by decide), r82]
        unfold hrd; rw [ec0, e]
      · rw [ec0, e] at ej; cases ej
      · rw [gF f i (by omega) (by omega)]; exact fR1 f i hn
    · have e' : (p_carry1 (p_bring P d)).2 ≠ none := by rw [e]; simp
      obtain ⟨s1, s2⟩ := c_sound wb.1 WRb RKb wb.2.1 hG e
      have wc2 := wx_c2 wb hS' rd
      rw [br_nk] at e
      have r54' : R2 54 0 = nI (s_ P 141 (60 + d)) := by rw [gF _ _ (by decide) (by decide), fR1 _ _ (by decide)]; exact r54
      have r50' : R2 50 0 = nI (nk P) := by have := hG.2.2.2.1; rw [br_nk] at this; exact this
      rw [if_neg e']
      refine bb_179_34 ⟨fun q => absurd (show nI 1 = nI 0 from q) (by decide), fun _ => ⟨h2.1, ?_⟩⟩
      rw [rS_54 h2, r54', I_put_k (show (50 : Nat) ≠ 82 by decide), rS_50 h2, r50']
      have h3 := rm_sr h2 (f := 82) (v := nI (s_ P 141 (60 + d)))
      have hc := r_comesW (D := D) (j := nk P) (s := d + 1) h3 wc2 (w0_c2 w0b) (wr_cg s1 wc2.1 (fun f i hf => by rw [u2_r, if_neg (by omega)])) (fun k k1 k2 => relK_cg (s2 k k1 k2) (fun _ _ => rfl) rfl (fun f i hf => by rw [u2_r, if_neg (by omega)])) nk_60 (by rw [c2_228, br_s (by omega)]; unfold nk; omega) (by simp only [u2_r, rowU_r, s_S, s_B, s_F, b_S, b_B, b_F, f_S, f_B, nfl_S, nfl_B, Nat.reduceEqDiff, false_and, and_false, true_and, and_true, and_self, if_true, if_false, reduceIte, ite_self, or_self, or_false, false_or, or_true, true_or, false_implies, implies_true, true_implies, Nat.reduceLeDiff, not_true_eq_false, not_false_eq_true, ne_eq]; exact r50') (by omega)
      rw [nE_s] at hc
      refine ru_mono hc ?_
      rintro v M2 ⟨rfl, R3, h4, t1, t2, t3, t4⟩
      have ec : (p_carry (p_bring P d)).1 = p_hears (c2 (p_bring P d)) (d + 1) (some (nk P)) 6 := by rw [ec0, e]
      rw [← ec] at t1 t2
      have h5 := rm_sr (rm_sr h4 (f := 51) (v := nE 0)) (f := 50) (v := nI (nk P))
      refine bb_179_57 ⟨h4.1, rfl, _, h5, ?_⟩
      unfold HR
      rw [e5]
      refine ⟨hC, w0c, wr_cg t1 hC.1 (fun f i hf => by rw [u2_r, if_neg (by omega), u2_r, if_neg (by omega)]), fun k k1 k2 => relK_cg (t2 k k1 k2) (fun _ _ => rfl) rfl (fun f i hf => by rw [u2_r, if_neg (by omega), u2_r, if_neg (by omega)]), ?_, fun j ej => ?_, fun f i hf hn => ?_⟩
      · simp only [u2_r, rowU_r, s_S, s_B, s_F, b_S, b_B, b_F, f_S, f_B, nfl_S, nfl_B, Nat.reduceEqDiff, false_and, and_false, true_and, and_true, and_self, if_true, if_false, reduceIte, ite_self, or_self, or_false, false_or, or_true, true_or, false_implies, implies_true, true_implies, Nat.reduceLeDiff, not_true_eq_false, not_false_eq_true, ne_eq]
        rw [t4 _ _ (by decide)]; simp only [u2_r, rowU_r, s_S, s_B, s_F, b_S, b_B, b_F, f_S, f_B, nfl_S, nfl_B, Nat.reduceEqDiff, false_and, and_false, true_and, and_true, and_self, if_true, if_false, reduceIte, ite_self, or_self, or_false, false_or, or_true, true_or, false_implies, implies_true, true_implies, Nat.reduceLeDiff, not_true_eq_false, not_false_eq_true, ne_eq]
        have : (p_carry (p_bring P d)).2 = some (nk P) := by rw [ec0, e]
        unfold hrd; rw [this]; dsimp only
        rw [carry_141 wb hS' rd nk_60, br_141, nE_s]
      · have : (p_carry (p_bring P d)).2 = some (nk P) := by rw [ec0, e]
        rw [this] at ej; cases ej
        refine ⟨by simp only [u2_r, rowU_r, s_S, s_B, s_F, b_S, b_B, b_F, f_S, f_B, nfl_S, nfl_B, Nat.reduceEqDiff, false_and, and_false, true_and, and_true, and_self, if_true, if_false, reduceIte, ite_self, or_self, or_false, false_or, or_true, true_or, false_implies, implies_true, true_implies, Nat.reduceLeDiff, not_true_eq_false, not_false_eq_true, ne_eq], nk_60, ?_⟩
        rw [carry_228 wb hS' rd, br_s (by omega)]; unfold nk; omega
      · rw [u2_r, if_neg (by omega), u2_r, if_neg (by omega), t4 f i (by omega), u2_r, if_neg (by omega), gF f i (by omega) (by omega)]
        exact fR1 f i hn
end WF
