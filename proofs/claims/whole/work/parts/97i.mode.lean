/-! A device without an address stays so; what an answer does to the host. -/
section HP
variable {P P' Q A : pP} {d t : Nat} {r : Option Nat}
theorem obey_m1 {w v ix : Nat} (h : s_ P 83 d = 1) : (p_obey P d w v ix).1 = P := by
  unfold p_obey
  split
  · rw [if_pos (Or.inl h)]
  · split
    · rfl
    · rw [if_pos (Or.inr (by omega))]
theorem zB1_83 {l : List Nat} : s_ (p_zB1 P d l) 83 d = s_ P 83 d := zB1_f (by decide)
theorem zB1_67 {l : List Nat} : s_ (p_zB1 P d l) 67 d = 0 := by unfold p_zB1; simp only [s_S, s_B, s_F, b_S, b_B, b_F, f_S, f_B, Nat.reduceEqDiff, false_and, and_false, true_and, and_true, and_self, if_true, if_false, reduceIte, ite_self]
theorem bfh_m1 {w ix : Nat} (h : s_ P 83 d = 1) : s_ (p_bfh P d w ix).1 83 d = 1 ∧ (w ≠ 5 → s_ (p_bfh P d w ix).1 67 d = s_ P 67 d) := by
  unfold p_bfh
  split
  · exact ⟨h, fun _ => rfl⟩
  · split
    · exact ⟨h, fun _ => rfl⟩
    · split
      · rename_i q
        split
        · exact ⟨h, fun _ => rfl⟩
        · exact ⟨by dsimp only; rw [s_n (by decide)]; exact h, fun c => absurd q c⟩
      · dsimp only
        rw [obey_m1 h]
        exact ⟨h, fun _ => rfl⟩
theorem zBeg_m1 {l : List Nat} (h : s_ P 83 d = 1) : s_ (p_zBeg P d l) 83 d = 1 ∧ (lwh l ≠ 5 → s_ (p_zBeg P d l) 67 d = 0) := by
  have e : s_ (pB (p_zB1 P d l) 29 d []) 83 d = 1 := by rw [s_B, zB1_83]; exact h
  unfold p_zBeg
  split
  · rw [s_n (by decide), s_n (by decide)]
    have := bfh_m1 (w := lwh l) (ix := l16 l 4) e
    refine ⟨this.1, fun q => ?_⟩
    rw [this.2 q, s_B]; exact zB1_67
  · split
    · rw [s_n (by decide), s_n (by decide), s_n (by decide), s_n (by decide), zB1_83]; exact ⟨h, fun _ => zB1_67⟩
    · rw [s_n (by decide), s_n (by decide), s_n (by decide), s_n (by decide), s_B, s_B, zB1_83]; exact ⟨h, fun _ => zB1_67⟩
theorem hear_m1 {o : Option Nat} (h83 : s_ P 83 d = 1) (ho : ∀ j, o = some j → s_ P 141 j ≠ 2 ∨ s_ P 89 d ≠ 3) : s_ (p_hear P d o) 83 d = 1 := by
  have h0 : s_ (p_h0 P d) 83 d = 1 := by rw [h0_83]; exact h83
  unfold p_hear
  split
  · exact h0
  · rename_i j
    split
    · split
      · rw [hIn_83]; exact h0
      · rw [s_n (by decide), s_n (by decide)]; exact h0
    · split
      · rw [ans_83 rfl]; exact (zBeg_m1 h0).1
      · split
        · rw [hOut_83]; exact h0
        · split
          · rename_i q
            have := ho j rfl
            omega
          · exact h0
/-- a device that has no address, and none is on its way -/
def MN (d : Nat) (P : pP) : Prop := s_ P 83 d = 1 ∧ (s_ P 60 d = 5 → s_ P 67 d = 0) ∧ (s_ P 60 d = 4 → s_ P 67 d = 0)
theorem mn_zs (h : MN d P) (k : ZSa d P P') : MN d P' := by
  unfold MN
  rw [k.1 83 (by decide), k.1 60 (by decide), k.1 67 (by decide)]
  exact h
theorem mn_so (h : MN d P) (k : SO d P P') : MN d P' := mn_zs h (zs_so k)
theorem ans_60 {k : Nat} : s_ (p_ans P d k) 60 d = s_ P 60 d ∧ s_ (p_ans P d k) 67 d = s_ P 67 d ∧ s_ (p_ans P d k) 83 d = s_ P 83 d := by unfold p_ans; simp only [s_S, s_B, s_F, b_S, b_B, b_F, f_S, f_B, Nat.reduceEqDiff, false_and, and_false, true_and, and_true, and_self, if_true, if_false, reduceIte, ite_self]
theorem hear_mn {o : Option Nat} (h : MN d P) (ho : ∀ j, o = some j → lwh (b_ P 7 j) ≠ 5) : MN d (p_hear P d o) := by
  have h0 : MN d (p_h0 P d) := mn_zs h zs_h0
  obtain ⟨g1, g2, g3⟩ := h0
  unfold p_hear
  split
  · exact ⟨g1, g2, g3⟩
  · rename_i j
    split
    · split
      · unfold MN
        rw [hIn_83, hIn_z (Or.inr rfl)]
        refine ⟨g1, fun q => ?_, fun q => ?_⟩
        · rcases hIn_60 (P := p_h0 P d) (d := d) (e := s_ P 142 j / 128 % 16) with c | c
          · rw [c] at q; exact g2 q
          · omega
        · rcases hIn_60 (P := p_h0 P d) (d := d) (e := s_ P 142 j / 128 % 16) with c | c
          · rw [c] at q; exact g3 q
          · omega
      · unfold MN
        rw [s_n (by decide), s_n (by decide), s_n (by decide), s_n (by decide), s_n (by decide), s_n (by decide)]
        exact ⟨g1, g2, g3⟩
    · split
      · unfold MN
        rw [ans_60.1, ans_60.2.1, ans_60.2.2]
        have := zBeg_m1 (l := b_ P 7 j) g1
        exact ⟨this.1, fun _ => this.2 (ho j rfl), fun _ => this.2 (ho j rfl)⟩
      · split
        · unfold MN
          rw [hOut_83, hOut_z (Or.inr rfl)]
          refine ⟨g1, fun q => ?_, fun q => ?_⟩
          · rcases hOut_60 (P := p_h0 P d) (d := d) (j := j) with c | c | c
            · rw [c] at q; exact g2 q
            · omega
            · exact g3 c.2
          · rcases hOut_60 (P := p_h0 P d) (d := d) (j := j) with c | c | c
            · rw [c] at q; exact g3 q
            · omega
            · omega
        · split
          · unfold p_hAck
            split
            · unfold p_zAck
              split
              · unfold MN; simp only [s_S, s_B, s_F, b_S, b_B, b_F, f_S, f_B, Nat.reduceEqDiff, false_and, and_false, true_and, and_true, and_self, if_true, if_false, reduceIte, ite_self]; exact ⟨g1, g2, g3⟩
              · split
                · rename_i q5
                  rw [if_pos (g2 q5)]
                  unfold MN; simp only [s_S, s_B, s_F, b_S, b_B, b_F, f_S, f_B, Nat.reduceEqDiff, false_and, and_false, true_and, and_true, and_self, if_true, if_false, reduceIte, ite_self]
                  exact ⟨g1, fun q => q.elim⟩
                · exact ⟨g1, g2, g3⟩
            · split
              · exact ⟨g1, g2, g3⟩
              · unfold MN p_eAck; simp only [s_S, s_B, s_F, b_S, b_B, b_F, f_S, f_B, Nat.reduceEqDiff, false_and, and_false, true_and, and_true, and_self, if_true, if_false, reduceIte, ite_self]; exact ⟨g1, g2, g3⟩
          · exact ⟨g1, g2, g3⟩
theorem carry_mn (h6 : ∀ d, d < 6 → s_ P 86 d ≤ 6) (hd : d < 6) (h : MN d P) (hl : lwh (b_ P 7 (nk P)) ≠ 5) : MN d (p_carry P).1 := by
  obtain ⟨Q, q1, q2, q3, q4⟩ := carry_at h6 hd
  refine mn_so ?_ q4
  have hQ := mn_so h q1
  split
  · exact hQ
  · refine hear_mn hQ (fun j ej => ?_)
    have ej' : (p_carry1 P).2 = some j := ej
    rcases c1_2 (P := P) with e | e
    · rw [e] at ej'; cases ej'
    · rw [e] at ej'
      obtain rfl : nk P = j := Option.some.inj ej'
      rw [q3]; exact hl
theorem carry_m1 (h6 : ∀ d, d < 6 → s_ P 86 d ≤ 6) (hd : d < 6) (h : s_ P 83 d = 1) (hk : s_ P 141 (nk P) ≠ 2) : s_ (p_carry P).1 83 d = 1 := by
  obtain ⟨Q, q1, q2, q3, q4⟩ := carry_at h6 hd
  rw [so_s q4 (by decide)]
  have hQ : s_ Q 83 d = 1 := by rw [so_s q1 (by decide)]; exact h
  split
  · exact hQ
  · refine hear_m1 hQ (fun j ej => ?_)
    have ej' : (p_carry1 P).2 = some j := ej
    rcases c1_2 (P := P) with e | e
    · rw [e] at ej'; cases ej'
    · rw [e] at ej'
      obtain rfl : nk P = j := Option.some.inj ej'
      left
      rw [q2 141 (by decide)]; exact hk
/-- through the exchange -/
theorem exch_mn (hW : WX P) (hT : XT P t) (hS : s_ P 228 0 + 4 < 2 ^ 31) (hd : d < 6) (h : MN d P) (h84 : s_ P 84 d = tNum P t % 128) (hl : ¬ asks P t → lwh (fillB P t) ≠ 5) : MN d (sv5 (sv3 P t)).1 := by
  obtain ⟨-, w2, -, w3, -, -, -⟩ := exch hW hT hS
  have h6 : ∀ d, d < 6 → s_ P 86 d ≤ 6 := fun d hd => ex_86 hW.1.1 hd
  have k2 := (fh_sv3 (t := t) h6).1
  have b3 := sv3_228 (t := t) h6
  have m2 : MN d (sv2 P t) := by
    unfold sv2
    rw [sv1_pr]
    refine carry_mn (fun d hd => by rw [prT_s (by omega)]; exact h6 d hd) hd (mn_so h (prT_so d)) ?_
    rw [nk_prT, prT_7]; decide
  have m3 : MN d (sv3 P t) := by
    unfold sv3
    split
    · exact m2
    · rename_i na
      rw [svB_pr k2]
      refine carry_mn (fun d hd => by rw [prD_s (by omega)]; exact ex_86 w2.1.1 hd) hd (mn_so m2 (prD_so d)) ?_
      rw [nk_prD, prD_7]; exact hl na
  cases c : ansD (sv3 P t) with
  | none => rw [sv5_none c]; exact m3
  | some d' =>
    obtain ⟨w1', w2', w3'⟩ := who hW hT hS c
    have : d = d' := so_un hW hd w1' (by rw [h.1]; decide) w2' (by rw [h84, w3'])
    subst this
    obtain ⟨y1, -⟩ := brought w3 (by omega) c
    refine mn_so (P := pS (sv3 P t) 91 d 0) ?_ y1
    unfold MN; simp only [s_S, s_B, s_F, b_S, b_B, b_F, f_S, f_B, Nat.reduceEqDiff, false_and, and_false, true_and, and_true, and_self, if_true, if_false, reduceIte, ite_self]; exact m3
theorem exch_m1 (hW : WX P) (hT : XT P t) (hS : s_ P 228 0 + 4 < 2 ^ 31) (hd : d < 6) (h : s_ P 83 d = 1) (h84 : s_ P 84 d = tNum P t % 128) : s_ (sv5 (sv3 P t)).1 83 d = 1 := by
  obtain ⟨-, w2, -, w3, -, -, -⟩ := exch hW hT hS
  have h6 : ∀ d, d < 6 → s_ P 86 d ≤ 6 := fun d hd => ex_86 hW.1.1 hd
  have k2 := (fh_sv3 (t := t) h6).1
  have b3 := sv3_228 (t := t) h6
  have kc := tKind_c (P := P) (t := t)
  have dc := tDat_c (P := P) (t := t)
  have m2 : s_ (sv2 P t) 83 d = 1 := by
    unfold sv2
    rw [sv1_pr]
    refine carry_m1 (fun d hd => by rw [prT_s (by omega)]; exact h6 d hd) hd (by rw [prT_s (by omega)]; exact h) ?_
    rw [nk_prT, prT_141]; omega
  have m3 : s_ (sv3 P t) 83 d = 1 := by
    unfold sv3
    split
    · exact m2
    · rw [svB_pr k2]
      refine carry_m1 (fun d hd => by rw [prD_s (by omega)]; exact ex_86 w2.1.1 hd) hd (by rw [prD_s (by omega)]; exact m2) ?_
      rw [nk_prD, prD_141]; omega
  cases c : ansD (sv3 P t) with
  | none => rw [sv5_none c]; exact m3
  | some d' =>
    obtain ⟨w1', w2', w3'⟩ := who hW hT hS c
    have : d = d' := so_un hW hd w1' (by rw [h]; decide) w2' (by rw [h84, w3'])
    subst this
    obtain ⟨y1, -⟩ := brought w3 (by omega) c
    rw [so_s y1 (by decide), s_n (by decide)]; exact m3
theorem ack_mn (h6 : ∀ d, d < 6 → s_ P 86 d ≤ 6) (hd : d < 6) (h : MN d P) : MN d (p_carry (p_rst P (nk P) 0 2)).1 := by
  have ep : p_rst P (nk P) 0 2 = prD P 2 [] := prD_ack.symm
  rw [ep]
  refine carry_mn (fun d hd => by rw [prD_s (by omega)]; exact h6 d hd) hd (mn_so h (prD_so d)) ?_
  rw [nk_prD, prD_7]; decide
/-- what an answer may change of the host -/
def HF (t : Nat) (Q A : pP) : Prop := (∀ f j, ¬ (209 ≤ f ∧ f ≤ 212 ∧ j = t) → ¬ (f = 185 ∧ j = s_ Q 213 t) → s_ A f j = s_ Q f j) ∧ (∀ c j, ¬ (c = 36 ∧ j = t) → b_ A c j = b_ Q c j) ∧ f_ A = f_ Q ∧ (b_ A 36 t).length = (b_ Q 36 t).length
theorem hf_rf : HF t Q Q := ⟨fun _ _ _ _ => rfl, fun _ _ _ => rfl, rfl, rfl⟩
theorem hf_S {f v : Nat} (h : HF t Q A) (hf : 209 ≤ f ∧ f ≤ 212) : HF t Q (pS A f t v) := ⟨fun f' j n1 n2 => by rw [s_S, if_neg (by rintro ⟨rfl, rfl⟩; exact n1 ⟨hf.1, hf.2, rfl⟩)]; exact h.1 f' j n1 n2, fun c j n => h.2.1 c j n, h.2.2.1, h.2.2.2⟩
theorem hf_5 {i v : Nat} (h : HF t Q A) (hi : i = s_ Q 213 t) : HF t Q (pS A 185 i v) := ⟨fun f' j n1 n2 => by rw [s_S, if_neg (by rintro ⟨rfl, rfl⟩; exact n2 ⟨rfl, hi⟩)]; exact h.1 f' j n1 n2, fun c j n => h.2.1 c j n, h.2.2.1, h.2.2.2⟩
theorem hf_B {l : List Nat} (h : HF t Q A) (hl : l.length = (b_ Q 36 t).length) : HF t Q (pB A 36 t l) := ⟨fun f' j n1 n2 => h.1 f' j n1 n2, fun c j n => by rw [b_B, if_neg n]; exact h.2.1 c j n, h.2.2.1, by rw [b_B, if_pos ⟨rfl, rfl⟩]; exact hl⟩
theorem hf_213 (h : HF t Q A) : s_ A 213 t = s_ Q 213 t := h.1 _ _ (by omega) (by omega)
theorem b8_kpl {l b : List Nat} {v n : Nat} (h : B8 l) (k : B8 b) : B8 (kpl l b v n) := by
  unfold kpl
  exact b8_app (b8_app (b8_take h) (b8_take k)) (b8_drop h)
theorem hf_err : HF t Q (p_err Q t) := by
  unfold p_err
  split
  · exact hf_S hf_rf (by decide)
  · exact hf_S (hf_S hf_rf (by decide)) (by decide)
theorem hf_endD (h : HF t Q A) : HF t Q (p_endD A t) := by
  unfold p_endD
  split
  · exact hf_S h (by decide)
  · exact hf_S h (by decide)
theorem hf_goOn (h : HF t Q A) : HF t Q (p_goOn A t) := by
  have e := hf_213 h
  unfold p_goOn
  split
  · exact hf_S (hf_5 h e) (by decide)
  · split
    · exact hf_S h (by decide)
    · split
      · exact hf_endD (hf_5 (hf_S h (by decide)) e)
      · exact hf_5 (hf_S h (by decide)) e
theorem hf_tk1 {j : Nat} (hI : TI Q t) : HF t Q (p_tk1 Q t j) := by
  unfold p_tk1
  refine hf_S (hf_B (hf_5 (hf_S hf_rf (by decide)) rfl) ?_) (by decide)
  have := hI.1
  exact kpl_len (by unfold tkf; omega) (by unfold tkf; omega)
theorem hf_takeD {j : Nat} (hI : TI Q t) : HF t Q (p_takeD Q t j).1 := by
  unfold p_takeD
  split
  · split
    · exact hf_S (hf_S hf_rf (by decide)) (by decide)
    · exact hf_err
  · split
    · exact hf_S hf_rf (by decide)
    · split
      · exact hf_S (hf_tk1 hI) (by decide)
      · split
        · exact hf_endD (hf_tk1 hI)
        · exact hf_tk1 hI
theorem hf_hearA (hI : TI Q t) : HF t Q (p_hearA Q t r).1 := by
  have hB : ∀ k1, HF t Q (p_hearB Q t k1) := by
    intro k1
    unfold p_hearB
    split
    · exact hf_goOn (hf_S hf_rf (by decide))
    · split
      · split
        · exact hf_S (hf_S hf_rf (by decide)) (by decide)
        · exact hf_S hf_rf (by decide)
      · exact hf_err
  unfold p_hearA
  split
  · exact hB 0
  · split
    · exact hf_takeD hI
    · exact hB _
end HP
