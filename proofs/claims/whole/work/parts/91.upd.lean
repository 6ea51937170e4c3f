/-! The host: what one transfer's step changes. -/
section HB
variable {a : Nat} {ra : Nat → Nat} {R R' : Nat → Nat → Int32} {M : sm_M} {D : Nat} {P P' : pP} {d : Nat}
abbrev hoF (f : Nat) : Prop := f < 20 ∨ (120 ≤ f ∧ f < 140) ∨ (160 ≤ f ∧ f < 220)
/-- only the host's changes -/
def FHo (P P' : pP) : Prop := (∀ f i, ¬ hoF f → s_ P' f i = s_ P f i) ∧ (∀ c i, ¬ hostB c i → b_ P' c i = b_ P c i) ∧ f_ P' = f_ P
theorem fho_rf : FHo P P := ⟨fun _ _ _ => rfl, fun _ _ _ => rfl, rfl⟩
theorem fho_tr {P'' : pP} (h : FHo P P') (k : FHo P' P'') : FHo P P'' := ⟨fun f i n => (k.1 f i n).trans (h.1 f i n), fun c i n => (k.2.1 c i n).trans (h.2.1 c i n), k.2.2.trans h.2.2⟩
theorem fho_S {f i v : Nat} (h : FHo P P') (hf : hoF f) : FHo P (pS P' f i v) := ⟨fun f' i' n => by rw [s_S, if_neg (by rintro ⟨rfl, -⟩; exact n hf)]; exact h.1 f' i' n, fun c i n => h.2.1 c i n, h.2.2⟩
theorem fho_B {c i : Nat} {l : List Nat} (h : FHo P P') (hc : hostB c i) : FHo P (pB P' c i l) := ⟨fun f i n => h.1 f i n, fun c' i' n => by rw [b_B, if_neg (by rintro ⟨rfl, rfl⟩; exact n hc)]; exact h.2.1 c' i' n, h.2.2⟩
theorem fho_so (h : FHo P P') (d : Nat) : SO d P P' := so_all (fun f i hf => h.1 f i (by omega)) (fun f i hf _ => h.1 f i (by omega)) (fun i _ => h.2.1 7 i (by unfold hostB; omega)) (fun c i hc => h.2.1 c i (by unfold hostB; omega)) d
/-- the wire's part of both sides -/
def XW (P : pP) (R : Nat → Nat → Int32) : Prop := WX P ∧ W0 P ∧ WR P R ∧ RK P R
theorem xr_xw : XR P R ↔ XW P R ∧ HREL P R := ⟨fun ⟨h1, h2, h3, h4, h5⟩ => ⟨⟨h1, h2, h3, h4⟩, h5⟩, fun ⟨⟨h1, h2, h3, h4⟩, h5⟩ => ⟨h1, h2, h3, h4, h5⟩⟩
theorem wx_ho (hW : WX P) (hx : EX P') (h : FHo P P') : WX P' := by
  obtain ⟨w1, w2, w3⟩ := hW
  refine ⟨wi_so w1 hx (fun d _ => fho_so h d), fun j hj hS => ?_, fun d hd => so_IK (fho_so h d) (w3 d hd)⟩
  rw [h.1 _ _ (by omega)] at hS
  unfold PKo
  rw [h.1 141 j (by omega), h.1 142 j (by omega), h.1 140 j (by omega), h.2.1 7 j (by unfold hostB; omega)]
  exact w2 j hj hS
theorem xw_ho (hX : XW P R) (hx : EX P') (h : FHo P P') (hr : ∀ f i, (4 ≤ f ∧ f ≤ 55 ∧ ¬ (50 ≤ f ∧ f ≤ 54)) → R' f i = R f i) : XW P' R' := by
  obtain ⟨x1, x2, x3, x4⟩ := hX
  refine ⟨wx_ho x1 hx h, fun d hd => by rw [h.1 _ _ (by omega)]; exact x2 d hd, ⟨fun d hd => ?_, ?_, ?_, fun i hi => ?_⟩, fun j hj hS => ?_⟩
  · exact relX_cg (fho_so h d) (fun f i o n => hr f i (by unfold ownR at o; omega)) x1.1.1 hd (wi_HD x1.1 hd) (x3.1 d hd)
  · exact rf_cg x3.2.1 (h.1 _ _ (by omega)) h.2.2 (fun f i hf => hr f i (by omega))
  · rw [hr _ _ (by omega), h.1 _ _ (by omega)]; exact x3.2.2.1
  · rw [hr _ _ (by omega)]; exact x3.2.2.2 i hi
  · rw [h.1 _ _ (by omega)] at hS
    exact relK_cg (x4 j hj hS) (fun f hf => h.1 f j (by omega)) (h.2.1 7 j (by unfold hostB; omega)) (fun f i hf => hr f i (by omega))
/-- R's rows that a step of transfer t on pipe i may change -/
def chR (P : pP) (t i f j : Nat) : Prop := ((f = 73 ∨ f = 74 ∨ f = 76 ∨ f = 77 ∨ f = 78) ∧ j = t) ∨ (f = 81 ∧ 100 * t ≤ j ∧ j < 100 * t + 100) ∨ ((f = 66 ∨ f = 67) ∧ ∃ d k, d < 6 ∧ k < s_ P 164 d ∧ pid P d k = i ∧ j = 10 * d + k) ∨ f = 68 ∨ f = 82 ∨ f = 83 ∨ f = 84 ∨ f = 87
def chP (t i f j : Nat) : Prop := (209 ≤ f ∧ f ≤ 212 ∧ j = t) ∨ (184 ≤ f ∧ f ≤ 187 ∧ j = i) ∨ f = 123 ∨ f = 127 ∨ f = 126
theorem hrel_up {t i : Nat} (h : HREL P R) (hx : EX P) (ht : t < s_ P 122 0) (hs : ∀ f j, hoF f → ¬ chP t i f j → s_ P' f j = s_ P f j) (hb : ∀ c j, hostB c j → ¬ (c = 36 ∧ j = t) → b_ P' c j = b_ P c j) (hr : ∀ f j, f < 4 ∨ 55 ≤ f → ¬ chR P t i f j → R' f j = R f j) (hT : RelT P' R' t) (hQ : ∀ d k, d < 6 → k < s_ P 164 d → pid P d k = i → RelQ P' R' (10 * d + k) i) (h0 : i = 0 → ∀ t', t' < s_ P 122 0 → t' ≠ t → s_ P 213 t' = 0 → s_ P 211 t' = 0 → s_ P 209 t' = 0) (hc : ∀ d, s_ P 165 d ≠ t + 1) : HREL P' R' := by
  have s1 : ∀ f j, hoF f → f < 184 ∨ (187 < f ∧ f < 209) ∨ 212 < f → f ≠ 123 → f ≠ 127 → f ≠ 126 → s_ P' f j = s_ P f j := fun f j hf hn n1 n2 n3 => hs f j hf (by unfold chP; omega)
  have r1 : ∀ f j, f < 4 ∨ 55 ≤ f → f ≠ 73 ∧ f ≠ 74 ∧ f ≠ 76 ∧ f ≠ 77 ∧ f ≠ 78 ∧ f ≠ 81 ∧ f ≠ 66 ∧ f ≠ 67 ∧ f ≠ 68 ∧ f ≠ 82 ∧ f ≠ 83 ∧ f ≠ 84 ∧ f ≠ 87 → R' f j = R f j := fun f j hf hn => hr f j hf (by unfold chR; omega)
  obtain ⟨⟨h1, h2, h3, h4⟩, h5, h6, h7, h8, h9⟩ := h
  refine ⟨⟨?_, ?_, ?_, ?_⟩, fun d hd => ?_, fun t' ht' => ?_, ?_, ?_, ?_⟩
  · rw [s1 _ _ (by decide) (by decide) (by decide) (by decide) (by decide), r1 _ _ (by decide) (by decide)]; exact h1
  · rw [s1 _ _ (by decide) (by decide) (by decide) (by decide) (by decide), r1 _ _ (by decide) (by decide)]; exact h2
  · rw [s1 _ _ (by decide) (by decide) (by decide) (by decide) (by decide), r1 _ _ (by decide) (by decide)]; exact h3
  · trivial
  · have h164 := ex_164 hx hd
    obtain ⟨p1, p2, p3, p4, p5⟩ := h5 d hd
    unfold RelP
    have e164 : s_ P' 164 d = s_ P 164 d := s1 _ _ (by decide) (by decide) (by decide) (by decide) (by decide)
    rw [r1 57 _ (by decide) (by decide), r1 58 _ (by decide) (by decide), r1 59 _ (by decide) (by decide), r1 61 _ (by decide) (by decide), e164, s1 160 _ (by decide) (by decide) (by decide) (by decide) (by decide), s1 161 _ (by decide) (by decide) (by decide) (by decide) (by decide), s1 162 _ (by decide) (by decide) (by decide) (by decide) (by decide)]
    refine ⟨p1, p2, p3, p4, fun k hk => ?_⟩
    have ep : pid P' d k = pid P d k := s1 _ _ (by decide) (by decide) (by decide) (by decide) (by decide)
    rw [ep]
    by_cases q : pid P d k = i
    · rw [q]; exact hQ d k hd hk q
    · have hn : ∀ f, (f = 66 ∨ f = 67) → R' f (10 * d + k) = R f (10 * d + k) := fun f hf => hr f _ (by omega) (by
        rintro (c | c | ⟨c, d', k', c1, c2, c3, c4⟩ | c)
        · omega
        · omega
        · have := ex_164 hx c1
          have e1 : d = d' := by omega
          have e2 : k = k' := by omega
          subst e1; subst e2; exact q c3
        · omega)
      have := p5 k hk
      unfold RelQ at *
      rw [hn 66 (Or.inl rfl), hn 67 (Or.inr rfl), r1 62 _ (by decide) (by decide), r1 63 _ (by decide) (by decide), r1 64 _ (by decide) (by decide), r1 65 _ (by decide) (by decide), s1 180 _ (by decide) (by decide) (by decide) (by decide) (by decide), s1 181 _ (by decide) (by decide) (by decide) (by decide) (by decide), s1 182 _ (by decide) (by decide) (by decide) (by decide) (by decide), s1 183 _ (by decide) (by decide) (by decide) (by decide) (by decide), hs 184 _ (by decide) (by unfold chP; omega), hs 185 _ (by decide) (by unfold chP; omega)]
      exact this
  · rw [s1 _ _ (by decide) (by decide) (by decide) (by decide) (by decide)] at ht'
    by_cases q : t' = t
    · rw [q]; exact hT
    · have l36 := ex_36 hx ht'
      have e36 : b_ P' 36 t' = b_ P 36 t' := hb 36 t' (Or.inl rfl) (by omega)
      have sT : ∀ f, 200 ≤ f ∧ f < 220 → s_ P' f t' = s_ P f t' := fun f hf => hs f t' (by omega) (by unfold chP; omega)
      have rT : ∀ f, 71 ≤ f ∧ f ≤ 79 → R' f t' = R f t' := fun f hf => hr f t' (by omega) (by unfold chR; omega)
      obtain ⟨t1, t2, t3, t4, t5, t6, t7, t8⟩ := h6 t' ht'
      have e180 : s_ P' 180 (s_ P 213 t') = s_ P 180 (s_ P 213 t') := s1 _ _ (by decide) (by decide) (by decide) (by decide) (by decide)
      unfold RelT
      rw [e36, sT 200 (by decide), sT 213 (by decide), sT 211 (by decide), sT 210 (by decide), sT 212 (by decide), sT 203 (by decide), rT 71 (by decide), rT 72 (by decide), rT 73 (by decide), rT 74 (by decide), rT 75 (by decide), rT 76 (by decide), e180]
      refine ⟨t1, t2, t3, t4, t5, t6, fun j hj hj2 => ?_, fun q0 => ?_⟩
      · rw [hr 81 _ (by decide) (by unfold chR; omega)]; exact t7 j hj hj2
      · obtain ⟨c1, c2, c3⟩ := t8 q0
        unfold RelC su
        have e165 : ∀ d, s_ P' 165 d = s_ P 165 d := fun d => s1 _ _ (by decide) (by decide) (by decide) (by decide) (by decide)
        have e36' : s_ P 165 (s_ P 200 t') ≠ 0 → b_ P' 36 (s_ P 165 (s_ P 200 t') - 1) = b_ P 36 (s_ P 165 (s_ P 200 t') - 1) := fun hz => hb 36 _ (Or.inl rfl) (by have := hc (s_ P 200 t'); omega)
        rw [e36, sT 200 (by decide), sT 205 (by decide), sT 206 (by decide), sT 207 (by decide), sT 208 (by decide), sT 209 (by decide), sT 211 (by decide), rT 77 (by decide), rT 78 (by decide), rT 79 (by decide), e165]
        refine ⟨c1, fun j hj => by rw [r1 80 _ (by decide) (by decide)]; exact c2 j hj, fun q1 => ?_⟩
        obtain ⟨d1, d2, d3, d4, d5⟩ := c3 q1
        refine ⟨d1, fun q2 => ?_, fun q2 => by rw [r1 60 _ (by decide) (by decide)]; exact d3 q2, fun q2 => by rw [r1 85 _ (by decide) (by decide)]; exact d4 q2, fun q2 => ?_⟩
        · by_cases qi : i = 0
          · exact absurd (h0 qi t' ht' q q0 q1) q2
          · rw [hs 185 0 (by decide) (by unfold chP; omega)]; exact d2 q2
        · obtain ⟨f1, f2, f3⟩ := d5 q2
          rw [e36' f1]
          exact ⟨f1, by rw [r1 85 _ (by decide) (by decide)]; exact f2, fun j hj => by rw [r1 86 _ (by decide) (by decide)]; exact f3 j hj⟩
  · rw [r1 _ _ (by decide) (by decide), hb 1 0 (Or.inr (Or.inr ⟨rfl, rfl⟩)) (by omega)]; exact h7
  · rw [hb 1 0 (Or.inr (Or.inr ⟨rfl, rfl⟩)) (by omega)]; intro i hi; rw [r1 _ _ (by decide) (by decide)]; exact h8 i hi
  · intro i hi; rw [r1 _ _ (by decide) (by decide), hb 20 0 (Or.inr (Or.inl rfl)) (by omega)]; exact h9 i hi
/-- WireBusModel.failed -/
theorem r_failed {t n : Nat} (h : RM a ra R M) (ht : t < 400) (h76 : R 76 t = nI n) (hn : n < 3) : sm_Run D 182 0 (sm_ent 182 [.inr (some a), .inl (nI t)]) [] M (fun v M' => v = none ∧ RM a ra (if n + 1 = 3 then sm_u2 (sm_u2 R 76 t (nI (n + 1))) 73 t (nI 3) else sm_u2 R 76 t (nI (n + 1))) M') := by
  refine bb_182_0 ?_
  simp (disch := first | assumption | omega | decide) only [rd_r76 h, rR_76 h, rN_76 h, rW_76 h, rA_76 h, rd_r73 h, rR_73 h, rN_73 h, rW_73 h, rA_73 h, rk_39 h, h76, ↓li_m1, li_0, li_1, li_2, li_3, li_4, li_5, li_6, li_7, li_8, li_9, li_10, li_11, li_12, li_13, li_14, li_16, li_18, li_20, li_32, li_36, li_40, li_50, li_60, li_64, li_100, li_127, li_128, li_200, li_255, li_256, li_290, li_300, li_336, li_512, li_513, li_515, li_660, li_2048, li_16385, li_32768, li_32774, li_32776, li_33280, li_49153, nI_add, pk_mul, nI_eq, nI_leI, nI_ltI, pk_sub, nI_clamp, Decidable.not_not, Nat.reduceAdd, Nat.reduceMul, Option.some.injEq, exists_eq_left', exists_eq_left, forall_eq', reduceCtorEq, false_implies, forall_const, true_and, and_true, not_false_eq_true, not_true_eq_false, Nat.reduceEqDiff, Ip_r h, Ip_a h, Ip_b h, I_put_s, I_put_k, Rp_j, u2_r, rowU_r, false_and, and_false, if_false, if_true, reduceIte]
  refine ⟨fun q => ?_, fun q => ?_⟩
  · rw [if_neg q]; exact rm_wr h
  · rw [if_pos q]; exact rm_wr (rm_wr h)
end HB
