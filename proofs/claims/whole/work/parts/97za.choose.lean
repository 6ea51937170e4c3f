/-! A frame: which transfer is next. -/
section IE_
variable {P P' Pc Q X : pP} {d k t i : Nat}
def fw0 (P : pP) (i : Nat) : Option Nat := (List.range (s_ P 122 0)).find? (fwp P i)
theorem fwp_t : fwp P i t = true ↔ s_ P 213 t = i ∧ s_ P 211 t = 0 := by
  show (s_ P 213 t == i && s_ P 211 t == 0) = true ↔ _
  rw [Bool.and_eq_true, beq_iff_eq, beq_iff_eq]
theorem fwp_f : fwp P i t = false ↔ ¬ (s_ P 213 t = i ∧ s_ P 211 t = 0) := by rw [← fwp_t, Bool.not_eq_true]
theorem fwt_0 (hF : IFr P) : fwt P i = fw0 P i := by
  unfold fwt fw0
  rw [rf_r (i := s_ P 187 i) (hF.1 i) (fun t' ht' => fwp_f.mpr (fun c => hF.2 i t' ht' (by have := hF.1 i; omega) c.1 c.2))]
theorem fw0_some (h : fw0 P i = some t) : t < s_ P 122 0 ∧ s_ P 213 t = i ∧ s_ P 211 t = 0 ∧ ∀ t', t' < t → ¬ (s_ P 213 t' = i ∧ s_ P 211 t' = 0) := by
  unfold fw0 at h
  obtain ⟨h1, h2, h3⟩ := List.find?_range_eq_some.mp h
  have := fwp_t.mp h1
  refine ⟨List.mem_range.mp h2, this.1, this.2, fun t' ht' => ?_⟩
  have := h3 t' ht'
  rw [Bool.not_eq_true'] at this
  exact fwp_f.mp this
theorem fw0_none (h : fw0 P i = none) : ∀ t, t < s_ P 122 0 → ¬ (s_ P 213 t = i ∧ s_ P 211 t = 0) := fun t ht c => List.find?_eq_none.mp h t (List.mem_range.mpr ht) (fwp_t.mpr c)
theorem fw0_cg (h : ∀ f j, f = 122 ∨ f = 211 ∨ f = 213 → s_ P' f j = s_ P f j) : fw0 P' i = fw0 P i := by
  unfold fw0
  rw [h 122 0 (by decide)]
  refine congrArg (fun p => List.find? p _) (funext fun t => ?_)
  show (s_ P' 213 t == i && s_ P' 211 t == 0) = (s_ P 213 t == i && s_ P 211 t == 0)
  rw [h 213 t (by decide), h 211 t (by decide)]
/-- the same but for how far the search is -/
def AEc (P Pc : pP) : Prop := (∀ f j, f ≠ 127 → f ≠ 187 → s_ Pc f j = s_ P f j) ∧ (∀ c j, b_ Pc c j = b_ P c j) ∧ f_ Pc = f_ P ∧ IFr Pc
theorem ae_rf (h : IFr P) : AEc P P := ⟨fun _ _ _ _ => rfl, fun _ _ => rfl, rfl, h⟩
theorem ae_127 {v : Nat} (h : AEc P Pc) : AEc P (pS Pc 127 0 v) := by
  obtain ⟨h1, h2, h3, h4⟩ := h
  refine ⟨fun f j n1 n2 => by rw [s_n n1]; exact h1 f j n1 n2, h2, h3, ?_⟩
  unfold IFr at *
  simp (disch := decide) only [s_n]
  exact h4
theorem ae_fw0 (h : AEc P Pc) : fw0 Pc i = fw0 P i := fw0_cg (fun f j hf => h.1 f j (by omega) (by omega))
theorem fw_2 (h : AEc P Pc) : (p_fw Pc i).2 = fw0 P i := by
  unfold p_fw
  rw [fwt_0 h.2.2.2, ae_fw0 h]
  cases fw0 P i <;> rfl
theorem ae_fw (h : AEc P Pc) : AEc P (p_fw Pc i).1 := by
  obtain ⟨h1, h2, h3, h4⟩ := id h
  have e1 : (p_fw Pc i).1 = pS Pc 187 i (match fw0 P i with | some t => t | none => s_ Pc 122 0) := by
    unfold p_fw
    rw [fwt_0 h4, ae_fw0 h]
    cases fw0 P i <;> rfl
  rw [e1]
  refine ⟨fun f j n1 n2 => by rw [s_n n2]; exact h1 f j n1 n2, h2, h3, fun i' => ?_, fun i' t' k1 k2 k3 => ?_⟩
  · rw [s_n (f := 187) (f' := 122) (by decide), s_S]
    split
    · rename_i c
      cases e : fw0 P i with
      | none => exact Nat.le_refl _
      | some t => have := (fw0_some e).1; rw [h1 122 0 (by decide) (by decide)]; exact Nat.le_of_lt this
    · exact h4.1 i'
  · rw [s_n (by decide)] at k2 k3 ⊢
    rw [s_S] at k1
    by_cases c : i' = i
    · rw [if_pos ⟨rfl, c⟩] at k1
      cases e : fw0 P i with
      | none =>
        have := fw0_none e t' (by rw [← h1 122 0 (by decide) (by decide)]; exact k2)
        rw [h1 211 t' (by decide) (by decide)]
        rw [h1 213 t' (by decide) (by decide)] at k3
        exact fun q => this ⟨by rw [k3, c], q⟩
      | some t =>
        rw [e] at k1
        have := (fw0_some e).2.2.2 t' k1
        rw [h1 211 t' (by decide) (by decide)]
        rw [h1 213 t' (by decide) (by decide)] at k3
        exact fun q => this ⟨by rw [k3, c], q⟩
    · rw [if_neg (fun q => c q.2)] at k1
      exact h4.2 i' t' k1 k2 k3
theorem ae_rdy (h : AEc P Pc) : AEc P (p_rdy Pc i).1 ∧ (p_rdy Pc i).2 = (if s_ P 184 i = 0 ∨ s_ P 186 i = s_ P 126 0 + 1 then none else fw0 P i) := by
  unfold p_rdy
  rw [h.1 184 i (by decide) (by decide), h.1 186 i (by decide) (by decide), h.1 126 0 (by decide) (by decide)]
  split
  · exact ⟨h, rfl⟩
  · exact ⟨ae_fw h, fw_2 h⟩
theorem ae_pat {pl : Nat} (h : AEc P Pc) : p_pat Pc pl = p_pat P pl := by
  unfold p_pat pid
  rw [h.1 164 _ (by decide) (by decide), h.1 166 _ (by decide) (by decide)]
theorem ae_due {f : Nat} (h : AEc P Pc) : due Pc i f ↔ due P i f := by
  unfold due
  rw [h.1 181 i (by decide) (by decide), h.1 184 i (by decide) (by decide), h.1 183 i (by decide) (by decide)]
theorem pat_some {pl : Nat} (h : p_pat P pl = some i) (hp : pl < 36) : pl / 6 < 6 ∧ pl % 6 < s_ P 164 (pl / 6) ∧ i = pid P (pl / 6) (pl % 6) := by
  unfold p_pat at h
  split at h
  · exact ⟨by omega, by assumption, (Option.some.inj h).symm⟩
  · cases h
/-- a pipe whose turn may be -/
def PC (P : pP) (t : Nat) : Prop := ∃ d k, d < 6 ∧ k < s_ P 164 d ∧ fw0 P (pid P d k) = some t ∧ s_ P 184 (pid P d k) ≠ 0
theorem ci_spec : ∀ (n : Nat) (Pc : pP), AEc P Pc → s_ Pc 127 0 + n = 36 → AEc P (p_ci Pc n).1 ∧ s_ (p_ci Pc n).1 127 0 ≤ 36 ∧ ∀ t, (p_ci Pc n).2 = some t → PC P t
  | 0, Pc, h, hn => ⟨h, by show s_ Pc 127 0 ≤ 36; omega, fun t q => by cases q⟩
  | n + 1, Pc, h, hn => by
    have e127 : s_ (pS Pc 127 0 (s_ Pc 127 0 + 1)) 127 0 = s_ Pc 127 0 + 1 := by rw [s_S, if_pos ⟨rfl, rfl⟩]
    have r0 := ci_spec n (pS Pc 127 0 (s_ Pc 127 0 + 1)) (ae_127 h) (by rw [e127]; omega)
    unfold p_ci
    cases ep : p_pat Pc (s_ Pc 127 0) with
    | none => exact r0
    | some j =>
      dsimp only
      split
      · rename_i hd
        have hp : p_pat P (s_ Pc 127 0) = some j := by rw [← ae_pat h]; exact ep
        obtain ⟨q1, q2, q3⟩ := pat_some hp (by omega)
        have f2 := fw_2 (i := j) (ae_127 (v := s_ Pc 127 0 + 1) h)
        have f1 := ae_fw (i := j) (ae_127 (v := s_ Pc 127 0 + 1) h)
        have g127 : s_ (p_fw (pS Pc 127 0 (s_ Pc 127 0 + 1)) j).1 127 0 = s_ Pc 127 0 + 1 := by rw [fw_s (by decide)]; exact e127
        cases e2 : (p_fw (pS Pc 127 0 (s_ Pc 127 0 + 1)) j).2 with
        | none => exact ci_spec n _ f1 (by rw [g127]; omega)
        | some t =>
          refine ⟨f1, by dsimp only; rw [g127]; omega, fun t' q => ?_⟩
          obtain rfl : t = t' := Option.some.inj q
          refine ⟨_, _, q1, q2, ?_, ?_⟩
          · rw [← q3, ← f2]; exact e2
          · rw [← q3]
            exact ((ae_due (f := s_ Pc 125 0) h).mp hd).2.1
      · exact r0
theorem nxp_lt {pl : Nat} : nxp pl < 36 := by unfold nxp; split <;> omega
/-- but for the place that was served last -/
def AE8 (P Pc : pP) : Prop := (∀ f j, f ≠ 127 → f ≠ 187 → f ≠ 128 → s_ Pc f j = s_ P f j) ∧ (∀ c j, b_ Pc c j = b_ P c j) ∧ f_ Pc = f_ P ∧ IFr Pc
theorem ae_8 (h : AEc P Pc) : AE8 P Pc := ⟨fun f j n1 n2 _ => h.1 f j n1 n2, h.2⟩
theorem ae_128 {v : Nat} (h : AEc P Pc) : AE8 P (pS Pc 128 0 v) := by
  obtain ⟨h1, h2, h3, h4⟩ := h
  refine ⟨fun f j n1 n2 n3 => by rw [s_n n3]; exact h1 f j n1 n2, h2, h3, ?_⟩
  unfold IFr at *
  simp (disch := decide) only [s_n]
  exact h4
theorem cb_spec : ∀ (n pl : Nat) (Pc : pP), AEc P Pc → (((p_cb Pc pl n).2 = none → AEc P (p_cb Pc pl n).1) ∧ AE8 P (p_cb Pc pl n).1 ∧ s_ (p_cb Pc pl n).1 127 0 = s_ Pc 127 0 ∧ (s_ (p_cb Pc pl n).1 128 0 < 36 ∨ s_ (p_cb Pc pl n).1 128 0 = s_ P 128 0) ∧ ∀ t, (p_cb Pc pl n).2 = some t → PC P t)
  | 0, pl, Pc, h => ⟨fun _ => h, ae_8 h, rfl, Or.inr (h.1 128 0 (by decide) (by decide)), fun t q => by cases q⟩
  | n + 1, pl, Pc, h => by
    unfold p_cb
    cases ep : p_pat Pc (nxp pl) with
    | none => exact cb_spec n (nxp pl) Pc h
    | some j =>
      dsimp only
      split
      · exact cb_spec n (nxp pl) Pc h
      · obtain ⟨r1, r2⟩ := ae_rdy (i := j) h
        have g127 : s_ (p_rdy Pc j).1 127 0 = s_ Pc 127 0 := rdy_s (by decide)
        cases e2 : (p_rdy Pc j).2 with
        | none =>
          have := cb_spec n (nxp pl) (p_rdy Pc j).1 r1
          rw [g127] at this
          exact this
        | some t =>
          dsimp only
          refine ⟨(fun q => by cases q), ae_128 r1, by rw [s_n (by decide)]; exact g127, Or.inl (by rw [s_S, if_pos ⟨rfl, rfl⟩]; exact nxp_lt), fun t' q => ?_⟩
          obtain rfl : t = t' := Option.some.inj q
          have hp : p_pat P (nxp pl) = some j := by rw [← ae_pat h]; exact ep
          obtain ⟨q1, q2, q3⟩ := pat_some hp nxp_lt
          rw [e2] at r2
          split at r2
          · cases r2
          · rename_i c
            exact ⟨_, _, q1, q2, by rw [← q3]; exact r2.symm, by rw [← q3]; exact fun z => c (Or.inl z)⟩
/-- the choice -/
theorem ch_spec (hI : INV P) : AE8 P (p_choose P).1 ∧ ((p_choose P).2 = none → AEc P (p_choose P).1) ∧ s_ (p_choose P).1 127 0 ≤ 36 ∧ s_ (p_choose P).1 128 0 < 36 ∧ ∀ t, (p_choose P).2 = some t → fw0 P 0 = some t ∨ PC P t := by
  have iF := hI.2.2.2.2.1
  have g4 := hI.1.2.2.2.1
  have g5 := hI.1.2.2.2.2.1
  have a0 := ae_rf iF
  unfold p_choose
  split
  · exact ⟨ae_8 a0, fun _ => a0, g4, g5, fun t q => by cases q⟩
  · obtain ⟨c1, c2, c3⟩ := ci_spec (36 - s_ P 127 0) P a0 (by omega)
    unfold p_ch1
    cases e1 : (p_ci P (36 - s_ P 127 0)).2 with
    | some t =>
      dsimp only
      refine ⟨ae_8 c1, (fun q => by cases q), c2, by rw [c1.1 128 0 (by decide) (by decide)]; exact g5, fun t' q => ?_⟩
      obtain rfl : t = t' := Option.some.inj q
      exact Or.inr (c3 t e1)
    | none =>
      dsimp only
      obtain ⟨r1, r2⟩ := ae_rdy (i := 0) c1
      have g127 : s_ (p_rdy (p_ci P (36 - s_ P 127 0)).1 0).1 127 0 ≤ 36 := by rw [rdy_s (by decide)]; exact c2
      unfold p_ch2
      cases e2 : (p_rdy (p_ci P (36 - s_ P 127 0)).1 0).2 with
      | some t =>
        dsimp only
        refine ⟨ae_8 r1, (fun q => by cases q), g127, by rw [r1.1 128 0 (by decide) (by decide)]; exact g5, fun t' q => ?_⟩
        obtain rfl : t = t' := Option.some.inj q
        rw [e2] at r2
        split at r2
        · cases r2
        · exact Or.inl r2.symm
      | none =>
        dsimp only
        obtain ⟨b1, b2, b3, b4, b5⟩ := cb_spec 36 (s_ (p_rdy (p_ci P (36 - s_ P 127 0)).1 0).1 128 0) _ r1
        refine ⟨b2, b1, by rw [b3]; exact g127, ?_, fun t q => Or.inr (b5 t q)⟩
        rcases b4 with c | c
        · exact c
        · rw [c]; exact g5
theorem ae8_fho (h : AE8 P Pc) : FHo P Pc := ⟨fun f j n => h.1 f j (by omega) (by omega) (by omega), fun c j _ => h.2.1 c j, h.2.2.1⟩
theorem inv_ae8 (hI : INV P) (h6 : ∀ d, d < 6 → s_ P 86 d ≤ 6) (h : AE8 P Pc) (h7 : s_ Pc 127 0 ≤ 36) (h8 : s_ Pc 128 0 < 36) : INV Pc := by
  obtain ⟨g1, g2, g3, g4, g5, g6, g7, g8, g9, g10⟩ := hI.1
  have o : ∀ f j, f ≠ 127 → f ≠ 187 → f ≠ 128 → s_ Pc f j = s_ P f j := h.1
  refine inv_ho hI h6 (fun f j hf => o f j (by omega) (by omega) (by omega)) h.2.1 (by rw [o 125 0 (by decide) (by decide) (by decide)]; exact g3) h7 h8 (by rw [o 184 0 (by decide) (by decide) (by decide)]; exact g7) (o 185 0 (by decide) (by decide) (by decide)) (fun i => by rw [o 185 i (by decide) (by decide) (by decide)]; exact g9 i) (fun i => ?_) (fun i t k1 k2 k3 => ?_)
  · have := h.2.2.2.1 i
    rw [o 122 0 (by decide) (by decide) (by decide)] at this
    exact this
  · have := h.2.2.2.2 i t k1 (by rw [o 122 0 (by decide) (by decide) (by decide)]; exact k2) (by rw [o 213 t (by decide) (by decide) (by decide)]; exact k3)
    rw [o 211 t (by decide) (by decide) (by decide)] at this
    exact this
/-- a transfer that was chosen may be served -/
theorem ch_ok (hI : INV P) (hW : WX P) (hE : EXO P) (h126 : s_ P 126 0 + 1 < 2 ^ 31) (e : (p_choose P).2 = some t) : INV (p_choose P).1 ∧ EXO (p_choose P).1 ∧ WX (p_choose P).1 ∧ wtg (p_choose P).1 t ∧ XT (p_choose P).1 t ∧ (s_ (p_choose P).1 213 t = 0 → ∀ t', t' < t → ¬ wtc (p_choose P).1 t') := by
  obtain ⟨c1, c2, c3, c4, c5⟩ := ch_spec hI
  have i1 := inv_ae8 hI (fun d hd => ex_86 hW.1.1 hd) c1 c3 c4
  have x1 := exo_choose hE hI.1.2.2.2.1 hI.1.2.2.2.2.1 h126
  have w1 := wx_ho hW (exo_ex x1) (ae8_fho c1)
  have o : ∀ f j, f ≠ 127 → f ≠ 187 → f ≠ 128 → s_ (p_choose P).1 f j = s_ P f j := c1.1
  generalize (p_choose P).1 = P1 at *
  have wt : ∀ i, fw0 P i = some t → wtg P1 t ∧ s_ P1 213 t = i ∧ ∀ t', t' < t → ¬ (s_ P1 213 t' = i ∧ s_ P1 211 t' = 0) := fun i h => by
    obtain ⟨f1, f2, f3, f4⟩ := fw0_some h
    unfold wtg
    rw [o 122 0 (by decide) (by decide) (by decide), o 211 t (by decide) (by decide) (by decide), o 213 t (by decide) (by decide) (by decide)]
    refine ⟨⟨f1, f3⟩, f2, fun t' ht' => ?_⟩
    rw [o 211 t' (by decide) (by decide) (by decide), o 213 t' (by decide) (by decide) (by decide)]
    exact f4 t' ht'
  rcases c5 t e with c | ⟨d, k, q1, q2, q3, q4⟩
  · obtain ⟨a1, a2, a3⟩ := wt 0 c
    have hl : ∀ t', t' < t → ¬ wtc P1 t' := fun t' ht' hw => a3 t' ht' ⟨hw.2.2, hw.2.1⟩
    obtain ⟨-, b2, -⟩ := inv_ct i1 w1 ⟨a1.1, a1.2, a2⟩ hl
    exact ⟨i1, x1, w1, a1, b2, fun _ => hl⟩
  · obtain ⟨a1, a2, a3⟩ := wt _ q3
    have ep : pid P1 d k = pid P d k := o 166 _ (by decide) (by decide) (by decide)
    have hk : k < s_ P1 164 d := by rw [o 164 d (by decide) (by decide) (by decide)]; exact q2
    obtain ⟨-, b2⟩ := inv_pt i1 w1 a1 q1 hk (by rw [ep]; exact a2) (by rw [ep, o 184 _ (by decide) (by decide) (by decide)]; exact q4)
    refine ⟨i1, x1, w1, a1, b2, fun z => ?_⟩
    have := ((i1.2.2.2.2.2.2.2.2.1 d q1).2.2.2.2.2.2.1 k hk).1
    rw [ep, ← a2] at this
    exact absurd z this
/-- inside a frame -/
theorem inner_ok : ∀ (n : Nat) (P : pP), INV P → WX P → EXO P → s_ P 228 0 + 4 * n + 4 < 2 ^ 31 → s_ P 126 0 + 1 < 2 ^ 31 → (∀ i, s_ P 186 i ≤ s_ P 126 0 + 1) → InOk n P ∧ INV (p_inner P n) ∧ WX (p_inner P n) ∧ EXO (p_inner P n) ∧ s_ (p_inner P n) 228 0 ≤ s_ P 228 0 + 4 * n ∧ s_ P 228 0 ≤ s_ (p_inner P n) 228 0 ∧ (∀ f j, f < 20 ∨ f = 125 ∨ f = 126 → s_ (p_inner P n) f j = s_ P f j) ∧ ∀ i, s_ (p_inner P n) 186 i ≤ s_ P 126 0 + 1
  | 0, P, hI, hW, hE, hS, h126, h186 => ⟨⟨by have := hI.1.2.2.1; omega, h126⟩, hI, hW, hE, Nat.le_refl _, Nat.le_refl _, fun _ _ _ => rfl, h186⟩
  | n + 1, P, hI, hW, hE, hS, h126, h186 => by
    obtain ⟨c1, c2, c3, c4, c5⟩ := ch_spec hI
    have o : ∀ f j, f ≠ 127 → f ≠ 187 → f ≠ 128 → s_ (p_choose P).1 f j = s_ P f j := c1.1
    have g := hI.1
    have e0 : p_inner P (n + 1) = match (p_choose P).2 with
      | none => (p_choose P).1
      | some t => p_inner (p_serve (p_choose P).1 t) n := rfl
    rw [e0]
    cases e : (p_choose P).2 with
    | none =>
      dsimp only
      have x1 := exo_choose hE g.2.2.2.1 g.2.2.2.2.1 h126
      refine ⟨⟨g.2.2.2.1, g.2.2.2.2.1, by have := g.2.2.1; omega, h126, fun t q => by rw [e] at q; cases q⟩, inv_ae8 hI (fun d hd => ex_86 hW.1.1 hd) c1 c3 c4, wx_ho hW (exo_ex x1) (ae8_fho c1), x1, ?_, ?_, fun f j hf => o f j (by omega) (by omega) (by omega), fun i => ?_⟩
      · rw [o 228 0 (by decide) (by decide) (by decide)]; omega
      · rw [o 228 0 (by decide) (by decide) (by decide)]; exact Nat.le_refl _
      · rw [o 186 i (by decide) (by decide) (by decide)]; exact h186 i
    | some t =>
      dsimp only
      obtain ⟨i1, x1, w1, wt, xt, hl⟩ := ch_ok hI hW hE h126 e
      have o228 := o 228 0 (by decide) (by decide) (by decide)
      have o126 := o 126 0 (by decide) (by decide) (by decide)
      obtain ⟨s1, s2, s3, s4, s5, s6, s7, s8, s9, s10⟩ := serve_all i1 w1 x1 xt (by omega) (by omega) wt hl (fun i => by rw [o 186 i (by decide) (by decide) (by decide), o126]; exact h186 i)
      have p126 := s6 126 0 (by decide)
      obtain ⟨r1, r2, r3, r4, r5, r6, r7, r8⟩ := inner_ok n (p_serve (p_choose P).1 t) s2 s4 s3 (by omega) (by omega) (fun i => by rw [p126]; exact s9 i)
      refine ⟨⟨g.2.2.2.1, g.2.2.2.2.1, by have := g.2.2.1; omega, h126, fun t' q => ?_⟩, r2, r3, r4, by omega, by omega, fun f j hf => ?_, fun i => ?_⟩
      · rw [e] at q
        obtain rfl : t = t' := Option.some.inj q
        exact ⟨by rw [← o 122 0 (by decide) (by decide) (by decide)]; exact wt.1, s1, r1⟩
      · rw [r7 f j hf, s6 f j (by omega), o f j (by omega) (by omega) (by omega)]
      · have := r8 i
        omega
end IE_
