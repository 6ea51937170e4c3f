/-! The exchange at the device that is meant: endpoint 0. -/
section HO
variable {P P' Q : pP} {d t : Nat} {r : Option Nat}
theorem carry_7 (hW : WX P) (hS : s_ P 228 0 + 1 < 2 ^ 31) {j s i : Nat} (hr : Rdy P j s) (hi : i < 60) : b_ (p_carry P).1 7 i = b_ P 7 i := by
  have hW2 := wx_c2 hW hS hr
  have h6 : ∀ d, d < 6 → s_ (c2 P) 86 d ≤ 6 := fun d hd => ex_86 hW2.1.1 hd
  rw [carry_c2]
  show b_ (p_hears (c2 P) (s_ P 140 (nk P)) (p_carry1 P).2 6) 7 i = _
  rw [hears_KB h6 (ownB_j hi) 6 (Nat.le_refl _), c2_b (by decide)]
theorem ansD_ne (hd : d < 6) (h83 : s_ P 83 d ≠ 0) (h91 : s_ P 91 d ≠ 0) : ansD P ≠ none := by
  intro e
  have := List.find?_eq_none.mp e d (List.mem_range.mpr hd)
  simp only [Bool.and_eq_true, bne_iff_ne, ne_eq, not_and] at this
  exact this h83 h91
/-- all of endpoint 0 but how far it is and what is under way -/
def ZK (d : Nat) (P P' : pP) : Prop := (∀ f, (61 ≤ f ∧ f < 68) ∨ f = 69 ∨ f = 83 ∨ f = 84 → s_ P' f d = s_ P f d) ∧ b_ P' 29 d = b_ P 29 d
theorem zk_zs (h : ZSa d P P') : ZK d P P' := ⟨fun f hf => h.1 f (by omega), h.2⟩
theorem zk_tr {P'' : pP} (h : ZK d P P') (k : ZK d P' P'') : ZK d P P'' := ⟨fun f hf => (k.1 f hf).trans (h.1 f hf), k.2.trans h.2⟩
theorem zk_ans {k : Nat} : ZK d P (p_ans P d k) := ⟨fun f hf => by unfold p_ans; rw [s_n (by omega), s_B, s_n (by omega)], by unfold p_ans; simp only [s_S, s_B, s_F, b_S, b_B, b_F, f_S, f_B, Nat.reduceEqDiff, false_and, and_false, true_and, and_true, and_self, if_true, if_false, reduceIte, ite_self]⟩
theorem zk_ansD {k e : Nat} : ZK d P (p_ansD P d k e) := ⟨fun f hf => by unfold p_ansD; rw [s_n (by omega), s_n (by omega)]; exact zk_ans.1 f hf, by unfold p_ansD; rw [b_S, b_S]; exact zk_ans.2⟩
/-- what IN does at endpoint 0 -/
def ZI (P P' : pP) (d k : Nat) (l : List Nat) : Prop :=
  ((s_ P 60 d = 1 ∨ (s_ P 60 d = 2 ∧ s_ P 69 d ≠ 0)) ∧ s_ P' 60 d = 1 ∧ s_ P' 89 d = 0 ∧ k = 14)
  ∨ (s_ P 60 d = 2 ∧ s_ P 69 d = 0 ∧ s_ P' 60 d = 2 ∧ s_ P' 68 d = nfl P d ∧ s_ P' 89 d = 3 ∧ s_ P' 90 d = 0 ∧ k = dkn (s_ P 61 d) ∧ l = ((b_ P 29 d).drop (s_ P 64 d)).take (nfl P d))
  ∨ (s_ P 60 d = 5 ∧ s_ P' 60 d = 5 ∧ s_ P' 89 d = 3 ∧ s_ P' 90 d = 0 ∧ k = 11 ∧ l = [])
  ∨ (s_ P 60 d ≠ 1 ∧ s_ P 60 d ≠ 2 ∧ s_ P 60 d ≠ 5 ∧ s_ P' 60 d = s_ P 60 d ∧ s_ P' 89 d = 0 ∧ k = 10)
theorem zin_f (h89 : s_ P 89 d = 0) : ZK d P (p_zIn P d) ∧ s_ (p_zIn P d) 91 d = 1 ∧ ZI P (p_zIn P d) d (s_ (p_zIn P d) 141 (60 + d)) (b_ (p_zIn P d) 7 (60 + d)) := by
  unfold p_zIn p_zIn1
  by_cases q2 : s_ P 60 d = 2 ∧ s_ P 69 d ≠ 0
  · rw [if_pos q2]
    have e : p_zIn2 (pS P 60 d 1) d = p_ans (pS P 60 d 1) d 14 := by unfold p_zIn2; rw [if_pos (by simp only [s_S, s_B, s_F, b_S, b_B, b_F, f_S, f_B, Nat.reduceEqDiff, false_and, and_false, true_and, and_true, and_self, if_true, if_false, reduceIte, ite_self])]
    rw [e]
    refine ⟨zk_tr ⟨fun f hf => s_n (by omega), rfl⟩ zk_ans, by unfold p_ans; simp only [s_S, s_B, s_F, b_S, b_B, b_F, f_S, f_B, Nat.reduceEqDiff, false_and, and_false, true_and, and_true, and_self, if_true, if_false, reduceIte, ite_self], Or.inl ⟨Or.inr q2, ?_, ?_, ?_⟩⟩
    · unfold p_ans; simp only [s_S, s_B, s_F, b_S, b_B, b_F, f_S, f_B, Nat.reduceEqDiff, false_and, and_false, true_and, and_true, and_self, if_true, if_false, reduceIte, ite_self]
    · unfold p_ans; simp only [s_S, s_B, s_F, b_S, b_B, b_F, f_S, f_B, Nat.reduceEqDiff, false_and, and_false, true_and, and_true, and_self, if_true, if_false, reduceIte, ite_self]; exact h89
    · unfold p_ans; simp only [s_S, s_B, s_F, b_S, b_B, b_F, f_S, f_B, Nat.reduceEqDiff, false_and, and_false, true_and, and_true, and_self, if_true, if_false, reduceIte, ite_self]
  · rw [if_neg q2]
    unfold p_zIn2
    by_cases q1 : s_ P 60 d = 1
    · rw [if_pos q1]
      refine ⟨zk_ans, by unfold p_ans; simp only [s_S, s_B, s_F, b_S, b_B, b_F, f_S, f_B, Nat.reduceEqDiff, false_and, and_false, true_and, and_true, and_self, if_true, if_false, reduceIte, ite_self], Or.inl ⟨Or.inl q1, ?_, ?_, ?_⟩⟩
      · unfold p_ans; simp only [s_S, s_B, s_F, b_S, b_B, b_F, f_S, f_B, Nat.reduceEqDiff, false_and, and_false, true_and, and_true, and_self, if_true, if_false, reduceIte, ite_self]; exact q1
      · unfold p_ans; simp only [s_S, s_B, s_F, b_S, b_B, b_F, f_S, f_B, Nat.reduceEqDiff, false_and, and_false, true_and, and_true, and_self, if_true, if_false, reduceIte, ite_self]; exact h89
      · unfold p_ans; simp only [s_S, s_B, s_F, b_S, b_B, b_F, f_S, f_B, Nat.reduceEqDiff, false_and, and_false, true_and, and_true, and_self, if_true, if_false, reduceIte, ite_self]
    · rw [if_neg q1]
      by_cases q3 : s_ P 60 d = 2
      · rw [if_pos q3]
        refine ⟨⟨fun f hf => ?_, ?_⟩, by unfold p_ansD p_ans; simp only [s_S, s_B, s_F, b_S, b_B, b_F, f_S, f_B, Nat.reduceEqDiff, false_and, and_false, true_and, and_true, and_self, if_true, if_false, reduceIte, ite_self], Or.inr (Or.inl ⟨q3, by omega, ?_, ?_, ?_, ?_, ?_, ?_⟩)⟩
        · rw [s_B, zk_ansD.1 f hf, s_n (by omega)]
        · rw [b_B, if_neg (by omega), zk_ansD.2]; rfl
        · unfold p_ansD p_ans; simp only [s_S, s_B, s_F, b_S, b_B, b_F, f_S, f_B, Nat.reduceEqDiff, false_and, and_false, true_and, and_true, and_self, if_true, if_false, reduceIte, ite_self]; exact q3
        · unfold p_ansD p_ans; simp only [s_S, s_B, s_F, b_S, b_B, b_F, f_S, f_B, Nat.reduceEqDiff, false_and, and_false, true_and, and_true, and_self, if_true, if_false, reduceIte, ite_self]
        · unfold p_ansD p_ans; simp only [s_S, s_B, s_F, b_S, b_B, b_F, f_S, f_B, Nat.reduceEqDiff, false_and, and_false, true_and, and_true, and_self, if_true, if_false, reduceIte, ite_self]
        · unfold p_ansD p_ans; simp only [s_S, s_B, s_F, b_S, b_B, b_F, f_S, f_B, Nat.reduceEqDiff, false_and, and_false, true_and, and_true, and_self, if_true, if_false, reduceIte, ite_self]
        · unfold p_ansD p_ans; simp only [s_S, s_B, s_F, b_S, b_B, b_F, f_S, f_B, Nat.reduceEqDiff, false_and, and_false, true_and, and_true, and_self, if_true, if_false, reduceIte, ite_self]
        · unfold p_ansD p_ans; simp only [s_S, s_B, s_F, b_S, b_B, b_F, f_S, f_B, Nat.reduceEqDiff, false_and, and_false, true_and, and_true, and_self, if_true, if_false, reduceIte, ite_self]
      · rw [if_neg q3]
        by_cases q5 : s_ P 60 d = 5
        · rw [if_pos q5]
          refine ⟨zk_ansD, by unfold p_ansD p_ans; simp only [s_S, s_B, s_F, b_S, b_B, b_F, f_S, f_B, Nat.reduceEqDiff, false_and, and_false, true_and, and_true, and_self, if_true, if_false, reduceIte, ite_self], Or.inr (Or.inr (Or.inl ⟨q5, ?_, ?_, ?_, ?_, ?_⟩))⟩
          · unfold p_ansD p_ans; simp only [s_S, s_B, s_F, b_S, b_B, b_F, f_S, f_B, Nat.reduceEqDiff, false_and, and_false, true_and, and_true, and_self, if_true, if_false, reduceIte, ite_self]; exact q5
          · unfold p_ansD p_ans; simp only [s_S, s_B, s_F, b_S, b_B, b_F, f_S, f_B, Nat.reduceEqDiff, false_and, and_false, true_and, and_true, and_self, if_true, if_false, reduceIte, ite_self]
          · unfold p_ansD p_ans; simp only [s_S, s_B, s_F, b_S, b_B, b_F, f_S, f_B, Nat.reduceEqDiff, false_and, and_false, true_and, and_true, and_self, if_true, if_false, reduceIte, ite_self]
          · unfold p_ansD p_ans dkn; simp only [s_S, s_B, s_F, b_S, b_B, b_F, f_S, f_B, Nat.reduceEqDiff, false_and, and_false, true_and, and_true, and_self, if_true, if_false, reduceIte, ite_self]
          · unfold p_ansD p_ans; simp only [s_S, s_B, s_F, b_S, b_B, b_F, f_S, f_B, Nat.reduceEqDiff, false_and, and_false, true_and, and_true, and_self, if_true, if_false, reduceIte, ite_self]
        · rw [if_neg q5]
          refine ⟨zk_ans, by unfold p_ans; simp only [s_S, s_B, s_F, b_S, b_B, b_F, f_S, f_B, Nat.reduceEqDiff, false_and, and_false, true_and, and_true, and_self, if_true, if_false, reduceIte, ite_self], Or.inr (Or.inr (Or.inr ⟨q1, q3, q5, ?_, ?_, ?_⟩))⟩
          · unfold p_ans; simp only [s_S, s_B, s_F, b_S, b_B, b_F, f_S, f_B, Nat.reduceEqDiff, false_and, and_false, true_and, and_true, and_self, if_true, if_false, reduceIte, ite_self]
          · unfold p_ans; simp only [s_S, s_B, s_F, b_S, b_B, b_F, f_S, f_B, Nat.reduceEqDiff, false_and, and_false, true_and, and_true, and_self, if_true, if_false, reduceIte, ite_self]; exact h89
          · unfold p_ans; simp only [s_S, s_B, s_F, b_S, b_B, b_F, f_S, f_B, Nat.reduceEqDiff, false_and, and_false, true_and, and_true, and_self, if_true, if_false, reduceIte, ite_self]
theorem nfl_cg (h63 : s_ P' 63 d = s_ P 63 d) (h64 : s_ P' 64 d = s_ P 64 d) (h80 : s_ P' 80 d = s_ P 80 d) : nfl P' d = nfl P d := by unfold nfl; rw [h63, h64, h80]
theorem h0_90 : s_ (p_h0 P d) 90 d = s_ P 90 d := by unfold p_h0; simp only [s_S, s_B, s_F, b_S, b_B, b_F, f_S, f_B, Nat.reduceEqDiff, false_and, and_false, true_and, and_true, and_self, if_true, if_false, reduceIte, ite_self]
/-- the answer of the device that is meant goes over the wire -/
theorem brought (hW : WX (sv3 P t)) (hS : s_ (sv3 P t) 228 0 + 1 < 2 ^ 31) (e : ansD (sv3 P t) = some d) : SO d (pS (sv3 P t) 91 d 0) (sv5 (sv3 P t)).1 ∧ ∀ j, (sv5 (sv3 P t)).2 = some j → s_ (sv5 (sv3 P t)).1 141 j = s_ (sv3 P t) 141 (60 + d) ∧ b_ (sv5 (sv3 P t)).1 7 j = b_ (sv3 P t) 7 (60 + d) := by
  obtain ⟨hd, h83, h91⟩ := ansD_spec e
  have wb := wx_bring hW hd e h83 h91
  have rb := rdy_bring hW hd h83 h91
  have sb : s_ (p_bring (sv3 P t) d) 228 0 = s_ (sv3 P t) 228 0 := br_s (by omega)
  rw [sv5_some e]
  refine ⟨?_, fun j q => ?_⟩
  · obtain ⟨Q, q1, -, -, q4⟩ := carry_at (P := p_bring (sv3 P t) d) (fun d hd => ex_86 wb.1.1 hd) hd
    rw [if_pos (Or.inl (by rw [br_nk, br_140]))] at q4
    exact so_tr (br_so d) (so_tr q1 q4)
  · have q' : (p_carry1 (p_bring (sv3 P t) d)).2 = some j := q
    rcases c1_2 (P := p_bring (sv3 P t) d) with c | c
    · rw [c] at q'; cases q'
    · rw [c] at q'
      obtain rfl : nk (p_bring (sv3 P t) d) = j := Option.some.inj q'
      rw [carry_141 wb (by omega) rb nk_60, carry_7 wb (by omega) rb nk_60, br_nk, br_141, br_7]
      exact ⟨rfl, rfl⟩
theorem so_un (hW : WX P) (hd : d < 6) {d' : Nat} (hd' : d' < 6) (h83 : s_ P 83 d ≠ 0) (h83' : s_ P 83 d' ≠ 0) (e : s_ P 84 d = s_ P 84 d') : d = d' := wi_au hW.1 hd hd' h83 h83' e
/-- IN at endpoint 0 -/
theorem xin (hW : WX P) (hT : XT P t) (hS : s_ P 228 0 + 4 < 2 ^ 31) (hd : d < 6) (h83 : s_ P 83 d ≠ 0) (h84 : s_ P 84 d = tNum P t % 128) (h0 : tNum P t / 128 = 0) (ha : asks P t) (h9 : s_ P 209 t ≠ 0) :
    ((sv5 (sv3 P t)).2 = none ∧ ZSa d P (sv5 (sv3 P t)).1 ∧ s_ (sv5 (sv3 P t)).1 89 d = 0) ∨ (ZK d P (sv5 (sv3 P t)).1 ∧ ∃ k l, ZI P (sv5 (sv3 P t)).1 d k l ∧ ∀ j, (sv5 (sv3 P t)).2 = some j → s_ (sv5 (sv3 P t)).1 141 j = k ∧ b_ (sv5 (sv3 P t)).1 7 j = l) := by
  obtain ⟨-, w2, -, w3, -, -, -⟩ := exch hW hT hS
  have h6 : ∀ d, d < 6 → s_ P 86 d ≤ 6 := fun d hd => ex_86 hW.1.1 hd
  have b3 := sv3_228 (t := t) h6
  have ek : tKind P t = 9 := by unfold tKind; rw [if_neg h9, if_pos ha]
  have e3 : sv3 P t = (p_carry (prT P 9 (tNum P t))).1 := by unfold sv3; rw [if_pos ha]; unfold sv2; rw [sv1_pr, ek]
  obtain ⟨Q, q1, q2, q3, q4⟩ := carry_at (P := prT P 9 (tNum P t)) (d := d) (fun d hd => by rw [prT_s (by omega)]; exact h6 d hd) hd
  rw [nk_prT, prT_140, prT_s (by omega), if_neg (by omega), ← e3] at q4
  rw [nk_prT] at q2 q3
  have k1 := q2 141 (by decide)
  have k2 := q2 142 (by decide)
  rw [prT_141] at k1
  rw [prT_142] at k2
  have so := so_tr (prT_so (P := P) (k := 9) (n := tNum P t) d) q1
  have k4 : s_ Q 84 d = tNum P t % 128 := by rw [so_s so (by decide)]; exact h84
  have e : (p_carry (prT P 9 (tNum P t))).2 = none ∨ (p_carry (prT P 9 (tNum P t))).2 = some (nk P) := by
    have := c1_2 (P := prT P 9 (tNum P t))
    rw [nk_prT] at this
    exact this
  rcases e with e | e
  · left
    rw [e, hear_none] at q4
    have n91 : s_ (sv3 P t) 91 d = 0 := by rw [so_s q4 (by decide)]; exact h0_91
    cases c : ansD (sv3 P t) with
    | none =>
      rw [sv5_none c]
      exact ⟨rfl, zs_tr (zs_so so) (zs_tr zs_h0 (zs_so q4)), by rw [so_s q4 (by decide)]; exact h0_89⟩
    | some d' =>
      obtain ⟨w1', w2', w3'⟩ := who hW hT hS c
      have : d = d' := so_un hW hd w1' h83 w2' (by rw [h84, w3'])
      subst this
      exact absurd n91 (ansD_spec c).2.2
  · right
    have eh : p_hear Q d (some (nk P)) = p_zIn (p_h0 Q d) d := by
      unfold p_hear
      dsimp only
      rw [if_pos ⟨by rw [k1]; unfold isTok; omega, by rw [k2, k4]⟩, if_pos k1, k2, h0]
      unfold p_hIn
      rw [if_pos rfl]
    rw [e, eh] at q4
    obtain ⟨z1, z2, z3⟩ := zin_f (P := p_h0 Q d) (d := d) h0_89
    have n91 : s_ (sv3 P t) 91 d ≠ 0 := by rw [so_s q4 (by decide), z2]; decide
    have n83 : s_ (sv3 P t) 83 d ≠ 0 := by rw [so_s q4 (by decide), z1.1 83 (by decide), zs_h0.1 83 (by decide), so_s so (by decide)]; exact h83
    cases c : ansD (sv3 P t) with
    | none => exact absurd c (ansD_ne hd n83 n91)
    | some d' =>
      obtain ⟨w1', w2', w3'⟩ := who hW hT hS c
      have : d = d' := so_un hW hd w1' h83 w2' (by rw [h84, w3'])
      subst this
      obtain ⟨y1, y2⟩ := brought w3 (by omega) c
      have zs0 : ZSa d P (p_h0 Q d) := zs_tr (zs_so so) zs_h0
      have f5 : ∀ f, (60 ≤ f ∧ f < 91) → s_ (sv5 (sv3 P t)).1 f d = s_ (p_zIn (p_h0 Q d) d) f d := fun f hf => by
        rw [so_s y1 (by omega), s_n (by omega), so_s q4 (by omega)]
      have b5 : b_ (sv5 (sv3 P t)).1 29 d = b_ (p_zIn (p_h0 Q d) d) 29 d := by rw [so_29 y1, b_S, so_29 q4]
      have enf : nfl (p_h0 Q d) d = nfl P d := nfl_cg (zs0.1 63 (by decide)) (zs0.1 64 (by decide)) (by rw [st_h0 (by decide), so_s so (by decide)])
      refine ⟨zk_tr (zk_zs zs0) ⟨fun f hf => by rw [f5 f (by omega)]; exact z1.1 f hf, by rw [b5]; exact z1.2⟩, s_ (p_zIn (p_h0 Q d) d) 141 (60 + d), b_ (p_zIn (p_h0 Q d) d) 7 (60 + d), ?_, fun j hj => ?_⟩
      rotate_left
      · have := y2 j hj
        rw [so_p q4 (by decide), so_7 q4] at this
        exact this
      · unfold ZI at z3 ⊢
        rw [f5 60 (by decide), f5 68 (by decide), f5 89 (by decide), f5 90 (by decide)]
        rw [zs0.1 60 (by decide), zs0.1 69 (by decide), zs0.1 61 (by decide), zs0.1 64 (by decide), zs0.2, enf] at z3
        exact z3
theorem zs_up {A B : pP} {f v : Nat} (h : ZSa d A B) : ZSa d (pS A f d v) (pS B f d v) := by
  refine ⟨fun f' hf' => ?_, h.2⟩
  rw [s_S, s_S]
  by_cases q : f' = f ∧ d = d
  · rw [if_pos q, if_pos q]
  · rw [if_neg q, if_neg q]; exact h.1 f' hf'
/-- ACK at endpoint 0 -/
theorem xack (h6 : ∀ d, d < 6 → s_ P 86 d ≤ 6) (hd : d < 6) (h83 : s_ P 83 d ≠ 0) (h90 : s_ P 89 d = 3 → s_ P 90 d = 0) :
    ZSa d P (p_carry (p_rst P (nk P) 0 2)).1 ∨ (s_ P 89 d = 3 ∧ ZSa d (p_zAck P d) (p_carry (p_rst P (nk P) 0 2)).1) ∨ (s_ P 89 d ≠ 0 ∧ s_ P 89 d ≠ 3) := by
  have ep : p_rst P (nk P) 0 2 = prD P 2 [] := prD_ack.symm
  rw [ep]
  obtain ⟨Q, q1, q2, q3, q4⟩ := carry_at (P := prD P 2 []) (d := d) (fun d hd => by rw [prD_s (by omega)]; exact h6 d hd) hd
  rw [nk_prD, prD_140, prD_s (by omega), if_neg (by omega)] at q4
  rw [nk_prD] at q2 q3
  have k1 := q2 141 (by decide)
  rw [prD_141] at k1
  have so := so_tr (prD_so (P := P) (k := 2) (l := []) d) q1
  have k9 : s_ Q 89 d = s_ P 89 d := so_s so (by decide)
  have k90 : s_ Q 90 d = s_ P 90 d := so_s so (by decide)
  by_cases c0 : s_ P 89 d = 0
  · left
    have hq := hear_quiet (P := Q) (d := d) (o := (p_carry (prD P 2 [])).2) (fun j ej => by
      have e := c1_2 (P := prD P 2 [])
      rw [nk_prD] at e
      have ej' : (p_carry1 (prD P 2 [])).2 = some j := ej
      rcases e with e | e
      · rw [e] at ej'; cases ej'
      · rw [e] at ej'
        obtain rfl : nk P = j := Option.some.inj ej'
        exact ⟨by rw [k1]; omega, Or.inl (by rw [k9]; exact c0)⟩)
    exact zs_tr (zs_so so) (zs_tr hq.1 (zs_so q4))
  · by_cases c3 : s_ P 89 d = 3
    · have e : (p_carry (prD P 2 [])).2 = none ∨ (p_carry (prD P 2 [])).2 = some (nk P) := by
        have := c1_2 (P := prD P 2 [])
        rw [nk_prD] at this
        exact this
      rcases e with e | e
      · left
        rw [e, hear_none] at q4
        exact zs_tr (zs_so so) (zs_tr zs_h0 (zs_so q4))
      · right; left
        refine ⟨c3, ?_⟩
        have eh : p_hear Q d (some (nk P)) = p_zAck (p_h0 Q d) d := by
          unfold p_hear
          dsimp only
          rw [if_neg (by rw [k1]; unfold isTok; omega), if_neg (by omega), if_neg (by omega), if_pos ⟨by rw [k9]; exact c3, k1⟩]
          unfold p_hAck
          rw [if_pos (by rw [h0_90, k90]; exact h90 c3)]
        rw [e, eh] at q4
        refine zs_tr ?_ (zs_so q4)
        have z0 : ZSa d P (p_h0 Q d) := zs_tr (zs_so so) zs_h0
        have e80 : s_ (p_h0 Q d) 80 d = s_ P 80 d := by rw [st_h0 (by decide), so_s so (by decide)]
        unfold p_zAck
        rw [z0.1 60 (by decide), z0.1 64 (by decide), z0.1 68 (by decide), z0.1 61 (by decide), z0.1 65 (by decide), z0.1 67 (by decide), e80]
        split
        · exact zs_up (zs_up (zs_up z0))
        · split
          · split
            · exact zs_up z0
            · exact zs_up (zs_up (zs_up z0))
          · exact z0
    · exact Or.inr (Or.inr ⟨c0, c3⟩)
/-- SETUP at endpoint 0: an answer comes only behind the request -/
theorem xset (hW : WX P) (hT : XT P t) (hS : s_ P 228 0 + 4 < 2 ^ 31) (hd : d < 6) (h83 : s_ P 83 d ≠ 0) (h84 : s_ P 84 d = tNum P t % 128) (h0 : tNum P t / 128 = 0) (h9 : s_ P 209 t = 0) :
    (sv5 (sv3 P t)).2 = none ∨ ∃ Q, ZSa d P Q ∧ (∀ f i, stf f → (f < 100 → i = d) → (100 ≤ f → 6 * d ≤ i ∧ i < 6 * d + 6) → s_ Q f i = s_ P f i) ∧ ZSa d (p_zBeg Q d (su P t)) (sv5 (sv3 P t)).1 := by
  obtain ⟨-, w2, -, w3, -, -, -⟩ := exch hW hT hS
  have h6 : ∀ d, d < 6 → s_ P 86 d ≤ 6 := fun d hd => ex_86 hW.1.1 hd
  have k2 := (fh_sv3 (t := t) h6).1
  have b3 := sv3_228 (t := t) h6
  have na : ¬ asks P t := by unfold asks; omega
  have ek : tKind P t = 13 := by unfold tKind; rw [if_pos h9]
  have ed : tDat P t = 3 := by unfold tDat; rw [if_pos h9]
  have ef : fillB P t = su P t := by unfold fillB; rw [if_pos h9]; rfl
  have e2 : sv2 P t = (p_carry (prT P 13 (tNum P t))).1 := by unfold sv2; rw [sv1_pr, ek]
  have e3 : sv3 P t = (p_carry (prD (sv2 P t) 3 (su P t))).1 := by unfold sv3; rw [if_neg na, svB_pr k2, ed, ef]
  cases c : ansD (sv3 P t) with
  | none => left; rw [sv5_none c]
  | some d' =>
    right
    obtain ⟨w1', w2', w3'⟩ := who hW hT hS c
    have : d = d' := so_un hW hd w1' h83 w2' (by rw [h84, w3'])
    subst this
    obtain ⟨-, -, n91⟩ := ansD_spec c
    obtain ⟨y1, -⟩ := brought w3 (by omega) c
    -- the token
    obtain ⟨Q, q1, q2, q3, q4⟩ := carry_at (P := prT P 13 (tNum P t)) (d := d) (fun d hd => by rw [prT_s (by omega)]; exact h6 d hd) hd
    rw [nk_prT, prT_140, prT_s (by omega), if_neg (by omega), ← e2] at q4
    rw [nk_prT] at q2 q3
    have k1 := q2 141 (by decide)
    have k42 := q2 142 (by decide)
    rw [prT_141] at k1
    rw [prT_142] at k42
    have so := so_tr (prT_so (P := P) (k := 13) (n := tNum P t) d) q1
    have k4 : s_ Q 84 d = tNum P t % 128 := by rw [so_s so (by decide)]; exact h84
    have z2 : ZSa d P (sv2 P t) ∧ s_ (sv2 P t) 90 d = (if s_ (sv2 P t) 89 d = 14 then 0 else s_ (sv2 P t) 90 d) ∧ (s_ (sv2 P t) 89 d = 0 ∨ s_ (sv2 P t) 89 d = 14) := by
      have e : (p_carry (prT P 13 (tNum P t))).2 = none ∨ (p_carry (prT P 13 (tNum P t))).2 = some (nk P) := by
        have := c1_2 (P := prT P 13 (tNum P t))
        rw [nk_prT] at this
        exact this
      rcases e with e | e
      · rw [e, hear_none] at q4
        have e89 : s_ (sv2 P t) 89 d = 0 := by rw [so_s q4 (by decide)]; exact h0_89
        exact ⟨zs_tr (zs_so so) (zs_tr zs_h0 (zs_so q4)), by rw [e89, if_neg (by decide)], Or.inl e89⟩
      · have eh : p_hear Q d (some (nk P)) = pS (pS (p_h0 Q d) 89 d 14) 90 d 0 := by
          unfold p_hear
          dsimp only
          rw [if_pos ⟨by rw [k1]; unfold isTok; omega, by rw [k42, k4]⟩, if_neg (by omega), k1, k42, h0]
        rw [e, eh] at q4
        have e89 : s_ (sv2 P t) 89 d = 14 := by rw [so_s q4 (by decide)]; simp only [s_S, s_B, s_F, b_S, b_B, b_F, f_S, f_B, Nat.reduceEqDiff, false_and, and_false, true_and, and_true, and_self, if_true, if_false, reduceIte, ite_self]
        have e90 : s_ (sv2 P t) 90 d = 0 := by rw [so_s q4 (by decide)]; simp only [s_S, s_B, s_F, b_S, b_B, b_F, f_S, f_B, Nat.reduceEqDiff, false_and, and_false, true_and, and_true, and_self, if_true, if_false, reduceIte, ite_self]
        refine ⟨zs_tr (zs_so so) (zs_tr zs_h0 (zs_tr (P' := pS (pS (p_h0 Q d) 89 d 14) 90 d 0) ⟨fun f hf => by rw [s_n (by omega), s_n (by omega)], rfl⟩ (zs_so q4))), by rw [e89, if_pos rfl, e90], Or.inr e89⟩
    obtain ⟨z2, z90, z89⟩ := z2
    -- the data
    obtain ⟨Q', q1', q2', q3', q4'⟩ := carry_at (P := prD (sv2 P t) 3 (su P t)) (d := d) (fun d hd => by rw [prD_s (by omega)]; exact ex_86 w2.1.1 hd) hd
    rw [nk_prD, prD_140, prD_s (by omega), if_neg (by rw [z2.1 83 (by decide)]; omega), ← e3] at q4'
    rw [nk_prD] at q2' q3'
    have k1' := q2' 141 (by decide)
    rw [prD_141] at k1'
    rw [prD_7] at q3'
    have so' := so_tr (prD_so (P := sv2 P t) (k := 3) (l := su P t) d) q1'
    have k9 : s_ Q' 89 d = s_ (sv2 P t) 89 d := so_s so' (by decide)
    have k90 : s_ Q' 90 d = s_ (sv2 P t) 90 d := so_s so' (by decide)
    have e : (p_carry (prD (sv2 P t) 3 (su P t))).2 = none ∨ (p_carry (prD (sv2 P t) 3 (su P t))).2 = some (nk (sv2 P t)) := by
      have := c1_2 (P := prD (sv2 P t) 3 (su P t))
      rw [nk_prD] at this
      exact this
    rcases e with e | e
    · exfalso
      rw [e, hear_none] at q4'
      exact n91 (by rw [so_s q4' (by decide)]; exact h0_91)
    · rcases z89 with z89 | z89
      · exfalso
        have hq := hear_quiet (P := Q') (d := d) (o := some (nk (sv2 P t))) (fun j ej => by
          obtain rfl : nk (sv2 P t) = j := Option.some.inj ej
          exact ⟨by rw [k1']; omega, Or.inl (by rw [k9]; exact z89)⟩)
        rw [e] at q4'
        exact n91 (by rw [so_s q4' (by decide)]; exact hq.2)
      · rw [z89, if_pos rfl] at z90
        have eh : p_hear Q' d (some (nk (sv2 P t))) = p_ans (p_zBeg (p_h0 Q' d) d (su P t)) d 2 := by
          unfold p_hear
          dsimp only
          rw [if_neg (by rw [k1']; unfold isTok; omega), if_pos ⟨by rw [k9]; exact z89, by rw [k90]; exact z90, k1', by rw [q3']; rfl⟩, q3']
        rw [e, eh] at q4'
        have st := sts_sv5 hW hT hS
        refine ⟨p_h0 Q' d, zs_tr z2 (zs_tr (zs_so so') zs_h0), fun f i hf h1 h2 => ?_, ?_⟩
        · rw [st_h0 hf]
          have s1 : STs P (sv2 P t) := by
            rw [e2]
            exact sts_tr (sts_so (fun d _ => prT_so d)) (sts_carry (fun d hd => by rw [prT_s (by omega)]; exact h6 d hd))
          by_cases c : f < 100
          · obtain rfl := h1 c
            rw [so_s so' (by omega)]
            exact (s1 _ hd).1 f (by omega)
          · have := h2 (by omega)
            obtain ⟨k, rfl, hk⟩ : ∃ k, i = 6 * d + k ∧ k < 6 := ⟨i - 6 * d, by omega, by omega⟩
            rw [so_e so' (by omega) hk]
            exact (s1 d hd).2 f k (by omega) (by omega) hk
        · refine zs_tr ?_ (zs_so y1)
          have za : ZSa d (p_zBeg (p_h0 Q' d) d (su P t)) (sv3 P t) := by
            refine zs_tr ?_ (zs_so q4')
            exact ⟨fun f hf => by unfold p_ans; rw [s_n (by omega), s_B, s_n (by omega)], by unfold p_ans; simp only [s_S, s_B, s_F, b_S, b_B, b_F, f_S, f_B, Nat.reduceEqDiff, false_and, and_false, true_and, and_true, and_self, if_true, if_false, reduceIte, ite_self]⟩
          exact zs_tr za ⟨fun f hf => s_n (by omega), rfl⟩
end HO
