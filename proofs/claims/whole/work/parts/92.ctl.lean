/-! A control transfer's step: the relation. -/
section HC
variable {a : Nat} {ra : Nat → Nat} {R R' : Nat → Nat → Int32} {M : sm_M} {D : Nat} {P P' : pP} {d t : Nat}
/-- what is known of a control transfer that is served -/
def CT (P : pP) (t : Nat) : Prop := t < s_ P 122 0 ∧ s_ P 213 t = 0 ∧ s_ P 211 t = 0 ∧ s_ P 200 t < 6 ∧ TI P t ∧ s_ P 205 t < 65536 ∧ s_ P 180 0 = 0 ∧ (s_ P 203 t = if s_ P 205 t < 32768 then 0 else 1) ∧ s_ P 202 t = s_ P 162 (s_ P 200 t) ∧ ((if s_ P 208 t = 1 ∨ s_ P 208 t = 2 then 0 else s_ P 200 t + 1) = if s_ P 161 (s_ P 200 t) = 0 then 0 else s_ P 200 t + 1) ∧ B8 (b_ P 36 t) ∧ (∀ t', t' < s_ P 122 0 → t' ≠ t → s_ P 213 t' = 0 → s_ P 211 t' = 0 → s_ P 209 t' = 0) ∧ (∀ d, s_ P 165 d ≠ t + 1) ∧ (∀ d k, d < 6 → k < s_ P 164 d → pid P d k ≠ 0)
theorem ct_fh {Q : pP} (h : CT P t) (k : Fh P Q) : CT Q t := by
  obtain ⟨c1, c2, c3, c4, c5, c6, c7, c8, c9, c10, c11, c12, c13, c14⟩ := h
  have c5' := TI_fh c5 k
  unfold CT pid
  simp (disch := decide) only [fh_s k, fh_36 k]
  exact ⟨c1, c2, c3, c4, c5', c6, c7, c8, c9, c10, c11, c12, c13, c14⟩
theorem hrel_ctl (h : HREL P R) (hx : EX P) (hc : CT P t) (hs : ∀ f j, hoF f → ¬ chP t 0 f j → s_ P' f j = s_ P f j) (hb : ∀ c j, hostB c j → ¬ (c = 36 ∧ j = t) → b_ P' c j = b_ P c j) (hl : (b_ P' 36 t).length = (b_ P 36 t).length) (hr : ∀ f j, f < 4 ∨ 55 ≤ f → ¬ (((f = 73 ∨ f = 74 ∨ f = 76 ∨ f = 77 ∨ f = 78) ∧ j = t) ∨ (f = 81 ∧ 100 * t ≤ j ∧ j < 100 * t + 100) ∨ f = 68 ∨ f = 82 ∨ f = 83 ∨ f = 84 ∨ f = 87) → R' f j = R f j) (r73 : R' 73 t = nI (s_ P' 211 t)) (r74 : R' 74 t = nI (s_ P' 210 t)) (r76 : R' 76 t = nI (s_ P' 212 t)) (r81 : ∀ i, i < (b_ P 36 t).length → (s_ P 203 t = 0 ∨ i < s_ P' 210 t) → R' 81 (100 * t + i) = nI ((b_ P' 36 t).getD i 0)) (r77 : s_ P' 211 t = 0 → R' 77 t = nI (s_ P' 209 t)) (r78 : s_ P' 211 t = 0 → s_ P' 209 t ≠ 0 → R' 78 t = nI (s_ P' 185 0)) : HREL P' R' := by
  obtain ⟨c1, c2, c3, c4, c5, c6, c7, c8, c9, c10, c11, c12, c13, c14⟩ := hc
  refine hrel_up (i := 0) h hx c1 hs hb (fun f j hf hn => hr f j hf (fun q => hn ?_)) ?_ (fun d k hd hk q => absurd q (c14 d k hd hk)) (fun _ => c12) c13
  · unfold chR
    rcases q with q | q | q
    · exact Or.inl q
    · exact Or.inr (Or.inl q)
    · exact Or.inr (Or.inr (Or.inr q))
  · obtain ⟨t1, t2, t3, t4, t5, t6, t7, t8⟩ := h.2.2.1 t c1
    obtain ⟨d1, d2, d3⟩ := t8 c2
    have sT : ∀ f, (200 ≤ f ∧ f < 209) ∨ f = 213 → s_ P' f t = s_ P f t := fun f hf => hs f t (by omega) (by unfold chP; omega)
    have rT : ∀ f, f = 71 ∨ f = 72 ∨ f = 75 ∨ f = 79 → R' f t = R f t := fun f hf => hr f t (by omega) (by omega)
    have e180 : s_ P' 180 0 = s_ P 180 0 := hs 180 0 (by decide) (by unfold chP; omega)
    have e165 : ∀ d, s_ P' 165 d = s_ P 165 d := fun d => hs _ _ (by decide) (by unfold chP; omega)
    have e36' : s_ P 165 (s_ P 200 t) ≠ 0 → b_ P' 36 (s_ P 165 (s_ P 200 t) - 1) = b_ P 36 (s_ P 165 (s_ P 200 t) - 1) := fun hz => hb 36 _ (Or.inl rfl) (by have := c13 (s_ P 200 t); omega)
    rw [c2] at t2
    unfold RelT
    rw [hl, sT 200 (by decide), sT 213 (by decide), sT 203 (by decide), c2, e180, rT 71 (by decide), rT 72 (by decide), rT 75 (by decide)]
    refine ⟨t1, t2, r73, r74, t5, r76, r81, fun _ => ?_⟩
    unfold RelC su
    rw [hl, sT 200 (by decide), sT 205 (by decide), sT 206 (by decide), sT 207 (by decide), sT 208 (by decide), rT 79 (by decide), e165]
    refine ⟨d1, fun j hj => by rw [hr 80 _ (by decide) (by omega)]; exact d2 j hj, fun q1 => ?_⟩
    obtain ⟨-, -, f3, f4, f5⟩ := d3 c3
    refine ⟨r77 q1, r78 q1, fun q2 => by rw [hr 60 _ (by decide) (by omega)]; exact f3 q2, fun q2 => by rw [hr 85 _ (by decide) (by omega)]; exact f4 q2, fun q2 => ?_⟩
    obtain ⟨g1, g2, g3⟩ := f5 q2
    rw [e36' g1]
    exact ⟨g1, by rw [hr 85 _ (by decide) (by omega)]; exact g2, fun j hj => by rw [hr 86 _ (by decide) (by omega)]; exact g3 j hj⟩
theorem tNum_ct (h : CT P t) : tNum P t = (if s_ P 161 (s_ P 200 t) = 0 then 0 else s_ P 200 t + 1) := by
  obtain ⟨c1, c2, c3, c4, c5, c6, c7, c8, c9, c10, -⟩ := h
  unfold tNum
  rw [c2, c7, c10]
  omega
theorem tNum_fh {Q : pP} (k : Fh P Q) : tNum Q t = tNum P t := by
  unfold tNum
  simp (disch := decide) only [fh_s k]
theorem tDat_fh {Q : pP} (k : Fh P Q) : tDat Q t = tDat P t := by
  unfold tDat
  simp (disch := decide) only [fh_s k]
theorem fill_fh {Q : pP} (k : Fh P Q) : fillB Q t = fillB P t := by
  unfold fillB chk
  simp (disch := decide) only [fh_s k, fh_36 k]
theorem fh_rs {s k : Nat} : Fh P (p_rst P (nk P) s k) := fh_rst fh_rf
theorem sv1_pr : sv1 P t = prT P (tKind P t) (tNum P t) := by
  unfold sv1 prT
  rw [tNum_fh fh_rs]
theorem svB_pr {Q : pP} (k : Fh P Q) : svB Q t = prD Q (tDat P t) (fillB P t) := by
  unfold svB prD
  rw [fill_fh (fh_tr k fh_rs), tDat_fh k]
theorem fill_b8 (hI : B8 (b_ P 36 t)) (hw : s_ P 205 t < 65536) : B8 (fillB P t) := by
  unfold fillB
  split
  · repeat' (refine b8_cons ?_ ?_)
    all_goals first | exact b8_nil | omega
  · exact b8_take (b8_drop hI)
theorem fill_len (hI : TI P t) : (fillB P t).length ≤ 64 := by
  obtain ⟨t1, t2, t3, t4, t5⟩ := hI
  unfold fillB
  split
  · show 8 ≤ 64; omega
  · rw [List.length_take, List.length_drop]
    unfold chk
    split <;> omega
/-- the exchange, asking -/
theorem r_exA (h : RM a ra R M) (hX : XW P R) (hS : s_ P 228 0 + 2 < 2 ^ 31) (ha : asks P t) (h9 : s_ P 209 t ≠ 0) (hn : tNum P t < 2048) : sm_Run (D + 6) 180 0 (sm_ent 180 [.inr (some a), .inl (nI (tNum P t % 128)), .inl (nI (tNum P t / 128))]) [] M (fun v M' => v = none ∧ ∃ R', RM a ra R' M' ∧ HR (sv3 P t) R R') := by
  obtain ⟨x1, x2, x3, x4⟩ := hX
  refine ru_mono (r_askIn (D := D) h x1 x2 x3 x4 hS hn) ?_
  rintro v M1 ⟨rfl, R1, h1, hr⟩
  refine ⟨rfl, R1, h1, ?_⟩
  have e : sv3 P t = (p_carry (prT P 9 (tNum P t))).1 := by
    unfold sv3 sv2
    rw [if_pos ha, sv1_pr]
    unfold tKind
    rw [if_neg h9, if_pos ha]
  rw [e]; exact hr
/-- the exchange, giving -/
theorem r_exG {n : Nat} (h : RM a ra R M) (hX : XW P R) (hS : s_ P 228 0 + 3 < 2 ^ 31) (ha : ¬ asks P t) (hI : TI P t) (hB : B8 (b_ P 36 t)) (hw : s_ P 205 t < 65536) (hn : tNum P t < 2048) (hl : (fillB P t).length = n) (sa : ∀ d, d < 6 → s_ (sv2 P t) 83 d ≠ 0 → s_ (sv2 P t) 89 d = 14 → tDat P t = 3 → (fillB P t).length = 8 → lwh (fillB P t) = 5 → 1 ≤ l16 (fillB P t) 2 → l16 (fillB P t) 2 ≤ 127 → l16 (fillB P t) 2 = d + 1 ∧ s_ (sv2 P t) 83 d = 1) (hb : ∀ i, i < n → R 83 i = nI ((fillB P t).getD i 0)) : sm_Run (D + 6) 181 0 (sm_ent 181 [.inr (some a), .inl (nI (tKind P t)), .inl (nI (tNum P t % 128)), .inl (nI (tNum P t / 128)), .inl (nI (tDat P t)), .inl (nI n)]) [] M (fun v M' => v = none ∧ ∃ R', RM a ra R' M' ∧ HR (sv3 P t) R R') := by
  obtain ⟨x1, x2, x3, x4⟩ := hX
  have e2 : sv2 P t = (p_carry (prT P (tKind P t) (tNum P t))).1 := by unfold sv2; rw [sv1_pr]
  have kk : tKind P t = 13 ∨ tKind P t = 1 := by
    unfold tKind
    split
    · exact Or.inl rfl
    · exact Or.inr rfl
  have dd : tDat P t = 3 ∨ tDat P t = 11 := by
    unfold tDat
    split
    · exact Or.inl rfl
    split
    · exact Or.inr rfl
    · exact dkn_d _
  have rdT := rdy_prT (P := P) (k := tKind P t) (n := tNum P t) (by omega) (Or.inl (by omega)) (by omega) hn
  have xT := ex_prT x1.1.1 (k := tKind P t) (n := tNum P t) (by omega) hn
  have wT : WX (prT P (tKind P t) (tNum P t)) := pr_wx x1 xT (fun f i hf => prT_s hf) (fun c i hc => prT_b hc) rdT.pk rdT.kk (by rw [rdT.sn]; decide)
  have wc := wx_carry wT (by rw [prT_s (by omega)]; omega) rdT
  have k2 : Fh P (sv2 P t) := by
    rw [e2]
    exact fh_tr fh_prT (fh_carry fh_rf (fun d hd => ex_86 xT hd))
  have e3 : sv3 P t = (p_carry (prD (sv2 P t) (tDat P t) (fillB P t))).1 := by
    unfold sv3; rw [if_neg ha, svB_pr k2]
  rw [e2] at sa
  rw [e3, e2]
  subst hl
  exact r_giveOut (D := D) h x1 x2 x3 x4 hS hn kk dd (fill_b8 hB hw) (fill_len hI) (ex_prD wc.1.1 (by omega) (fill_len hI)) sa hb
end HC
