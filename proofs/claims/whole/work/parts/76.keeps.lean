/-! What a device keeps while it hears. -/
section KP
variable {P P' : pP} {d : Nat}
def IE (P : pP) (d : Nat) : Prop := ∀ k, k < s_ P 86 d → s_ P 103 (6 * d + k) ≤ 1 ∧ s_ P 105 (6 * d + k) ≤ (b_ P 1 (1 + (6 * d + k))).length ∧ s_ P 105 (6 * d + k) ≤ 64 ∧ s_ P 101 (6 * d + k) ≤ 64 ∧ 1 ≤ s_ P 101 (6 * d + k)
def IZ (P : pP) (d : Nat) : Prop := s_ P 61 d ≤ 1 ∧ s_ P 60 d ≤ 6 ∧ s_ P 64 d ≤ 64 ∧ s_ P 68 d ≤ 64 ∧ (b_ P 29 d).length ≤ 64 ∧ (s_ P 60 d = 2 → s_ P 63 d ≤ (b_ P 29 d).length + 1 ∧ (s_ P 69 d = 0 → s_ P 64 d + 1 ≤ s_ P 63 d)) ∧ (s_ P 60 d = 4 → (b_ P 29 d).length = s_ P 64 d ∧ s_ P 64 d ≤ s_ P 65 d ∧ s_ P 66 d + s_ P 65 d ≤ 64)
def IW (P : pP) (d : Nat) : Prop := (s_ P 89 d = 0 ∨ s_ P 89 d = 2 ∨ s_ P 89 d = 3 ∨ s_ P 89 d = 14) ∧ (s_ P 89 d = 3 → s_ P 90 d = 0 → s_ P 60 d = 2 → s_ P 68 d = nfl P d ∧ s_ P 69 d = 0) ∧ (s_ P 89 d = 3 → s_ P 90 d ≠ 0 → ∃ k, p_find P d (s_ P 90 d) = some k ∧ s_ P 105 (6 * d + k) ≠ 0)
def ID (P : pP) (d : Nat) : Prop := IE P d ∧ IZ P d ∧ IW P d
theorem id_HD (h : ID P d) : HD P d := by
  obtain ⟨hE, ⟨z1, z2, z3, z4, z5, z6, z7⟩, w1, w2, w3⟩ := h
  refine ⟨⟨z1, fun q1 q2 => ?_, z7, z3, z4, fun k hk => ?_⟩, fun k hk => ?_, by omega, fun q => (z6 q).1, w3⟩
  · have := z6 q1; exact ⟨this.2 q2, this.1⟩
  · have := hE k hk; exact ⟨this.1, this.2.1, this.2.2.1, this.2.2.2.1⟩
  · exact (hE k hk).2.2.2.2
theorem iw_0 (h : s_ P 89 d = 0) : IW P d := ⟨Or.inl h, fun q => by omega, fun q => by omega⟩
theorem id_h0 (h : ID P d) : ID (p_h0 P d) d := by
  obtain ⟨hE, hZ, hW⟩ := h
  refine ⟨?_, ?_, iw_0 (by unfold p_h0; simp only [s_S, s_B, s_F, b_S, b_B, b_F, f_S, f_B, Nat.reduceEqDiff, false_and, and_false, true_and, and_true, and_self, if_true, if_false, reduceIte, ite_self])⟩
  · unfold IE p_h0 at *; simp only [s_S, s_B, s_F, b_S, b_B, b_F, f_S, f_B, Nat.reduceEqDiff, false_and, and_false, true_and, and_true, and_self, if_true, if_false, reduceIte, ite_self]; exact hE
  · unfold IZ p_h0 at *; simp only [s_S, s_B, s_F, b_S, b_B, b_F, f_S, f_B, Nat.reduceEqDiff, false_and, and_false, true_and, and_true, and_self, if_true, if_false, reduceIte, ite_self]; exact hZ
theorem id_ans {k : Nat} (h : ID P d) (hd : d < 6) : ID (p_ans P d k) d := by
  obtain ⟨hE, hZ, hW⟩ := h
  refine ⟨?_, ?_, ?_⟩
  · unfold IE p_ans at *; simp only [s_S, s_B, s_F, b_S, b_B, b_F, f_S, f_B, Nat.reduceEqDiff, false_and, and_false, true_and, and_true, and_self, if_true, if_false, reduceIte, ite_self]; exact hE
  · unfold IZ p_ans at *; simp only [s_S, s_B, s_F, b_S, b_B, b_F, f_S, f_B, Nat.reduceEqDiff, false_and, and_false, true_and, and_true, and_self, if_true, if_false, reduceIte, ite_self]; exact hZ
  · unfold IW nfl p_ans at *; simp only [s_S, s_B, s_F, b_S, b_B, b_F, f_S, f_B, Nat.reduceEqDiff, false_and, and_false, true_and, and_true, and_self, if_true, if_false, reduceIte, ite_self]; exact hW
theorem id_zIn (h : ID P d) (h0 : s_ P 89 d = 0) (hd : d < 6) : ID (p_zIn P d) d := by
  obtain ⟨hE, hZ, hW⟩ := h
  have h1 : ID (p_zIn1 P d) d := by
    unfold p_zIn1
    split
    · refine ⟨?_, ?_, iw_0 (by simp only [s_S, s_B, s_F, b_S, b_B, b_F, f_S, f_B, Nat.reduceEqDiff, false_and, and_false, true_and, and_true, and_self, if_true, if_false, reduceIte, ite_self]; exact h0)⟩
      · unfold IE at *; simp only [s_S, s_B, s_F, b_S, b_B, b_F, f_S, f_B, Nat.reduceEqDiff, false_and, and_false, true_and, and_true, and_self, if_true, if_false, reduceIte, ite_self]; exact hE
      · unfold IZ at *; simp only [s_S, s_B, s_F, b_S, b_B, b_F, f_S, f_B, Nat.reduceEqDiff, false_and, and_false, true_and, and_true, and_self, if_true, if_false, reduceIte, ite_self]
        exact ⟨hZ.1, by omega, hZ.2.2.1, hZ.2.2.2.1, hZ.2.2.2.2.1, fun q => absurd q (by decide), fun q => absurd q (by decide)⟩
    · exact ⟨hE, hZ, hW⟩
  have h10 : s_ (p_zIn1 P d) 89 d = 0 := by unfold p_zIn1; split <;> (try simp only [s_S, s_B, s_F, b_S, b_B, b_F, f_S, f_B, Nat.reduceEqDiff, false_and, and_false, true_and, and_true, and_self, if_true, if_false, reduceIte, ite_self]) <;> exact h0
  have h12 : s_ (p_zIn1 P d) 60 d = 2 → s_ (p_zIn1 P d) 69 d = 0 := by
    unfold p_zIn1; split
    · simp only [s_S, s_B, s_F, b_S, b_B, b_F, f_S, f_B, Nat.reduceEqDiff, false_and, and_false, true_and, and_true, and_self, if_true, if_false, reduceIte, ite_self]; intro q; exact absurd q (by decide)
    · omega
  unfold p_zIn
  generalize p_zIn1 P d = P1 at *
  clear hE hZ hW
  obtain ⟨hE, hZ, hW⟩ := id h1
  unfold p_zIn2
  split
  · exact id_ans h1 hd
  split
  · rename_i q2
    have f0 := h12 q2
    have z := hZ.2.2.2.2.2.1 q2
    have z' := z.2 f0
    refine ⟨?_, ?_, ?_⟩
    · unfold IE p_ansD p_ans at *; simp only [s_S, s_B, s_F, b_S, b_B, b_F, f_S, f_B, Nat.reduceEqDiff, false_and, and_false, true_and, and_true, and_self, if_true, if_false, reduceIte, ite_self]; exact hE
    · unfold IZ p_ansD p_ans at *; simp only [s_S, s_B, s_F, b_S, b_B, b_F, f_S, f_B, Nat.reduceEqDiff, false_and, and_false, true_and, and_true, and_self, if_true, if_false, reduceIte, ite_self]
      refine ⟨hZ.1, hZ.2.1, hZ.2.2.1, ?_, hZ.2.2.2.2⟩
      unfold nfl; omega
    · unfold IW p_ansD p_ans
      have e : nfl (pB (pS (pS (pS (pB (pS (pS P1 68 d (nfl P1 d)) 141 (60 + d) (dkn (s_ P1 61 d))) 7 (60 + d) []) 91 d 1) 89 d 3) 90 d 0) 7 (60 + d) (((b_ P1 29 d).drop (s_ P1 64 d)).take (nfl P1 d))) d = nfl P1 d := by unfold nfl; simp only [s_S, s_B, s_F, b_S, b_B, b_F, f_S, f_B, Nat.reduceEqDiff, false_and, and_false, true_and, and_true, and_self, if_true, if_false, reduceIte, ite_self]
      rw [e]; simp only [s_S, s_B, s_F, b_S, b_B, b_F, f_S, f_B, Nat.reduceEqDiff, false_and, and_false, true_and, and_true, and_self, if_true, if_false, reduceIte, ite_self]
      exact ⟨Or.inr (Or.inr (Or.inl trivial)), fun _ _ _ => f0, fun _ q => absurd rfl q⟩
  split
  · rename_i q2 q5
    refine ⟨?_, ?_, ?_⟩
    · unfold IE p_ansD p_ans at *; simp only [s_S, s_B, s_F, b_S, b_B, b_F, f_S, f_B, Nat.reduceEqDiff, false_and, and_false, true_and, and_true, and_self, if_true, if_false, reduceIte, ite_self]; exact hE
    · unfold IZ p_ansD p_ans at *; simp only [s_S, s_B, s_F, b_S, b_B, b_F, f_S, f_B, Nat.reduceEqDiff, false_and, and_false, true_and, and_true, and_self, if_true, if_false, reduceIte, ite_self]
      exact hZ
    · unfold IW p_ansD p_ans; simp only [s_S, s_B, s_F, b_S, b_B, b_F, f_S, f_B, Nat.reduceEqDiff, false_and, and_false, true_and, and_true, and_self, if_true, if_false, reduceIte, ite_self]
      exact ⟨Or.inr (Or.inr (Or.inl trivial)), fun _ _ q => by omega, fun _ q => absurd rfl q⟩
  · exact id_ans h1 hd
theorem fnd_ca {w : Nat} (h86 : s_ P' 86 d = s_ P 86 d) (h100 : ∀ k, s_ P' 100 (6 * d + k) = s_ P 100 (6 * d + k)) : p_find P' d w = p_find P d w := by
  unfold p_find; rw [h86]; simp only [h100]
theorem id_eIn {k : Nat} (h : ID P d) (h0 : s_ P 89 d = 0) (hk : k < s_ P 86 d) (hf : p_find P d (s_ P 100 (6 * d + k)) = some k) (h100 : s_ P 100 (6 * d + k) ≠ 0) (hd : d < 6) : ID (p_eIn P d (6 * d + k)) d := by
  obtain ⟨hE, hZ, hW⟩ := id h
  have h1 : ID (p_eIn1 P (6 * d + k)) d := by
    unfold p_eIn1
    split
    · refine ⟨?_, ?_, iw_0 (by simp only [s_S, s_B, s_F, b_S, b_B, b_F, f_S, f_B, Nat.reduceEqDiff, false_and, and_false, true_and, and_true, and_self, if_true, if_false, reduceIte, ite_self]; exact h0)⟩
      · unfold IE at *; simp only [s_S, s_B, s_F, b_S, b_B, b_F, f_S, f_B, Nat.reduceEqDiff, false_and, and_false, true_and, and_true, and_self, if_true, if_false, reduceIte, ite_self]
        intro k' hk'
        have := hE k' hk'
        by_cases q : 6 * d + k' = 6 * d + k
        · rw [if_pos q]; have q' : k' = k := by omega
          subst q'; omega
        · rw [if_neg q]; exact this
      · unfold IZ at *; simp only [s_S, s_B, s_F, b_S, b_B, b_F, f_S, f_B, Nat.reduceEqDiff, false_and, and_false, true_and, and_true, and_self, if_true, if_false, reduceIte, ite_self]; exact hZ
    · exact h
  have h10 : s_ (p_eIn1 P (6 * d + k)) 89 d = 0 := by unfold p_eIn1; split <;> (try simp only [s_S, s_B, s_F, b_S, b_B, b_F, f_S, f_B, Nat.reduceEqDiff, false_and, and_false, true_and, and_true, and_self, if_true, if_false, reduceIte, ite_self]) <;> exact h0
  have hf1 : p_find (p_eIn1 P (6 * d + k)) d (s_ P 100 (6 * d + k)) = some k := by
    rw [← hf]
    unfold p_eIn1; split
    · exact fnd_ca (by simp only [s_S, s_B, s_F, b_S, b_B, b_F, f_S, f_B, Nat.reduceEqDiff, false_and, and_false, true_and, and_true, and_self, if_true, if_false, reduceIte, ite_self]) (fun k' => by simp only [s_S, s_B, s_F, b_S, b_B, b_F, f_S, f_B, Nat.reduceEqDiff, false_and, and_false, true_and, and_true, and_self, if_true, if_false, reduceIte, ite_self])
    · rfl
  unfold p_eIn
  split
  · exact id_ans h hd
  split
  · exact id_ans h1 hd
  · rename_i q1 q2
    generalize p_eIn1 P (6 * d + k) = P1 at *
    clear hE hZ hW
    obtain ⟨hE, hZ, hW⟩ := id h1
    refine ⟨?_, ?_, ?_⟩
    · unfold IE p_ansD p_ans at *; simp only [s_S, s_B, s_F, b_S, b_B, b_F, f_S, f_B, Nat.reduceEqDiff, false_and, and_false, true_and, and_true, and_self, if_true, if_false, reduceIte, ite_self]; exact hE
    · unfold IZ p_ansD p_ans at *; simp only [s_S, s_B, s_F, b_S, b_B, b_F, f_S, f_B, Nat.reduceEqDiff, false_and, and_false, true_and, and_true, and_self, if_true, if_false, reduceIte, ite_self]; exact hZ
    · have e0 : ∀ w l x y, p_find (pB (pS (pS (pS (pB (pS P1 141 (60 + d) w) 7 (60 + d) []) 91 d 1) 89 d 3) 90 d x) 7 (60 + d) l) d y = p_find P1 d y := fun w l x y => fnd_ca (by simp only [s_S, s_B, s_F, b_S, b_B, b_F, f_S, f_B, Nat.reduceEqDiff, false_and, and_false, true_and, and_true, and_self, if_true, if_false, reduceIte, ite_self]) (fun k' => by simp only [s_S, s_B, s_F, b_S, b_B, b_F, f_S, f_B, Nat.reduceEqDiff, false_and, and_false, true_and, and_true, and_self, if_true, if_false, reduceIte, ite_self])
      unfold IW p_ansD p_ans
      rw [e0]
      simp only [s_S, s_B, s_F, b_S, b_B, b_F, f_S, f_B, Nat.reduceEqDiff, false_and, and_false, true_and, and_true, and_self, if_true, if_false, reduceIte, ite_self]
      exact ⟨Or.inr (Or.inr (Or.inl trivial)), fun _ q => absurd q h100, fun _ _ => ⟨k, hf1, q2⟩⟩
theorem id_eOut {k j : Nat} (h : ID P d) (h0 : s_ P 89 d = 0) (hk : k < s_ P 86 d) (hd : d < 6) : ID (p_eOut P d (6 * d + k) j) d := by
  unfold p_eOut
  split
  · exact id_ans h hd
  split
  · exact id_ans h hd
  split
  · exact id_ans h hd
  · refine id_ans ?_ hd
    obtain ⟨hE, hZ, hW⟩ := h
    refine ⟨?_, ?_, iw_0 (by simp only [s_S, s_B, s_F, b_S, b_B, b_F, f_S, f_B, Nat.reduceEqDiff, false_and, and_false, true_and, and_true, and_self, if_true, if_false, reduceIte, ite_self]; exact h0)⟩
    · unfold IE at *; simp only [s_S, s_B, s_F, b_S, b_B, b_F, f_S, f_B, Nat.reduceEqDiff, false_and, and_false, true_and, and_true, and_self, if_true, if_false, reduceIte, ite_self]
      intro k' hk'
      have := hE k' hk'
      by_cases q : k' = k
      · subst q; rw [if_pos rfl, if_pos rfl, List.length_append]; omega
      · rw [if_neg (by omega), if_neg (by omega)]; exact this
    · unfold IZ at *; simp only [s_S, s_B, s_F, b_S, b_B, b_F, f_S, f_B, Nat.reduceEqDiff, false_and, and_false, true_and, and_true, and_self, if_true, if_false, reduceIte, ite_self]; exact hZ
theorem id_eAck {k : Nat} (h : ID P d) (h0 : s_ P 89 d = 0) (hk : k < s_ P 86 d) : ID (p_eAck P (6 * d + k)) d := by
  obtain ⟨hE, hZ, hW⟩ := h
  unfold p_eAck
  refine ⟨?_, ?_, iw_0 (by simp only [s_S, s_B, s_F, b_S, b_B, b_F, f_S, f_B, Nat.reduceEqDiff, false_and, and_false, true_and, and_true, and_self, if_true, if_false, reduceIte, ite_self]; exact h0)⟩
  · unfold IE at *; simp only [s_S, s_B, s_F, b_S, b_B, b_F, f_S, f_B, Nat.reduceEqDiff, false_and, and_false, true_and, and_true, and_self, if_true, if_false, reduceIte, ite_self]
    intro k' hk'
    have := hE k' hk'
    by_cases q : k' = k
    · subst q; rw [if_pos rfl, if_pos rfl, if_pos rfl]; omega
    · rw [if_neg (by omega), if_neg (by omega), if_neg (by omega)]; exact this
  · unfold IZ at *; simp only [s_S, s_B, s_F, b_S, b_B, b_F, f_S, f_B, Nat.reduceEqDiff, false_and, and_false, true_and, and_true, and_self, if_true, if_false, reduceIte, ite_self]; exact hZ
/-- what an awaited ACK at endpoint 0 finds -/
theorem id_zAck (h : ID P d) (h0 : s_ P 89 d = 0) (h2 : s_ P 60 d = 2 → s_ P 68 d = nfl P d ∧ s_ P 69 d = 0) : ID (p_zAck P d) d := by
  obtain ⟨hE, hZ, hW⟩ := h
  obtain ⟨z1, z2, z3, z4, z5, z6, z7⟩ := hZ
  unfold p_zAck
  split
  · rename_i q2
    obtain ⟨n1, n2⟩ := h2 q2
    obtain ⟨y1, y2⟩ := z6 q2
    have y3 := y2 n2
    unfold nfl at n1
    refine ⟨?_, ?_, iw_0 (by simp only [s_S, s_B, s_F, b_S, b_B, b_F, f_S, f_B, Nat.reduceEqDiff, false_and, and_false, true_and, and_true, and_self, if_true, if_false, reduceIte, ite_self]; exact h0)⟩
    · unfold IE at *; simp only [s_S, s_B, s_F, b_S, b_B, b_F, f_S, f_B, Nat.reduceEqDiff, false_and, and_false, true_and, and_true, and_self, if_true, if_false, reduceIte, ite_self]; exact hE
    · unfold IZ; simp only [s_S, s_B, s_F, b_S, b_B, b_F, f_S, f_B, Nat.reduceEqDiff, false_and, and_false, true_and, and_true, and_self, if_true, if_false, reduceIte, ite_self]
      refine ⟨by omega, by omega, by omega, by omega, by omega, fun _ => ⟨by omega, fun _ => by omega⟩, fun q => by omega⟩
  split
  · rename_i q2 q5
    split
    · refine ⟨?_, ?_, iw_0 (by simp only [s_S, s_B, s_F, b_S, b_B, b_F, f_S, f_B, Nat.reduceEqDiff, false_and, and_false, true_and, and_true, and_self, if_true, if_false, reduceIte, ite_self]; exact h0)⟩
      · unfold IE at *; simp only [s_S, s_B, s_F, b_S, b_B, b_F, f_S, f_B, Nat.reduceEqDiff, false_and, and_false, true_and, and_true, and_self, if_true, if_false, reduceIte, ite_self]; exact hE
      · unfold IZ; simp only [s_S, s_B, s_F, b_S, b_B, b_F, f_S, f_B, Nat.reduceEqDiff, false_and, and_false, true_and, and_true, and_self, if_true, if_false, reduceIte, ite_self]
        exact ⟨z1, by omega, z3, z4, z5, fun q => absurd q (by decide), fun q => absurd q (by decide)⟩
    · refine ⟨?_, ?_, iw_0 (by simp only [s_S, s_B, s_F, b_S, b_B, b_F, f_S, f_B, Nat.reduceEqDiff, false_and, and_false, true_and, and_true, and_self, if_true, if_false, reduceIte, ite_self]; exact h0)⟩
      · unfold IE at *; simp only [s_S, s_B, s_F, b_S, b_B, b_F, f_S, f_B, Nat.reduceEqDiff, false_and, and_false, true_and, and_true, and_self, if_true, if_false, reduceIte, ite_self]; exact hE
      · unfold IZ; simp only [s_S, s_B, s_F, b_S, b_B, b_F, f_S, f_B, Nat.reduceEqDiff, false_and, and_false, true_and, and_true, and_self, if_true, if_false, reduceIte, ite_self]
        exact ⟨z1, by omega, z3, z4, z5, fun q => absurd q (by decide), fun q => absurd q (by decide)⟩
  · exact ⟨hE, ⟨z1, z2, z3, z4, z5, z6, z7⟩, hW⟩
theorem id_60 {v : Nat} (h : ID P d) (h0 : s_ P 89 d = 0) (hv : v = 1 ∨ v = 3 ∨ v = 5) : ID (pS P 60 d v) d := by
  obtain ⟨hE, ⟨z1, z2, z3, z4, z5, z6, z7⟩, hW⟩ := h
  refine ⟨?_, ?_, iw_0 (by simp only [s_S, s_B, s_F, b_S, b_B, b_F, f_S, f_B, Nat.reduceEqDiff, false_and, and_false, true_and, and_true, and_self, if_true, if_false, reduceIte, ite_self]; exact h0)⟩
  · unfold IE at *; simp only [s_S, s_B, s_F, b_S, b_B, b_F, f_S, f_B, Nat.reduceEqDiff, false_and, and_false, true_and, and_true, and_self, if_true, if_false, reduceIte, ite_self]; exact hE
  · unfold IZ; simp only [s_S, s_B, s_F, b_S, b_B, b_F, f_S, f_B, Nat.reduceEqDiff, false_and, and_false, true_and, and_true, and_self, if_true, if_false, reduceIte, ite_self]
    exact ⟨z1, by omega, z3, z4, z5, fun q => by omega, fun q => by omega⟩
theorem id_zOut {j : Nat} (h : ID P d) (h0 : s_ P 89 d = 0) (hd : d < 6) : ID (p_zOut P d j) d := by
  have a1 : ID (pS P 60 d 1) d := id_60 h h0 (by decide)
  have a3 : ID (pS P 60 d 3) d := id_60 h h0 (by decide)
  unfold p_zOut
  split
  · exact id_ans h hd
  split
  · split
    · exact id_ans a3 hd
    · exact id_ans a1 hd
  split
  · rename_i q1 q2 q4
    obtain ⟨hE, ⟨z1, z2, z3, z4, z5, z6, z7⟩, hW⟩ := id h
    obtain ⟨y1, y2, y3⟩ := z7 q4
    unfold p_zTake
    split
    · exact id_ans h hd
    split
    · exact id_ans a1 hd
    have t1 : ID (p_zTk1 P d j) d := by
      unfold p_zTk1
      refine id_ans ⟨?_, ?_, iw_0 (by simp only [s_S, s_B, s_F, b_S, b_B, b_F, f_S, f_B, Nat.reduceEqDiff, false_and, and_false, true_and, and_true, and_self, if_true, if_false, reduceIte, ite_self]; exact h0)⟩ hd
      · unfold IE at *; simp only [s_S, s_B, s_F, b_S, b_B, b_F, f_S, f_B, Nat.reduceEqDiff, false_and, and_false, true_and, and_true, and_self, if_true, if_false, reduceIte, ite_self]; exact hE
      · unfold IZ; simp only [s_S, s_B, s_F, b_S, b_B, b_F, f_S, f_B, Nat.reduceEqDiff, false_and, and_false, true_and, and_true, and_self, if_true, if_false, reduceIte, ite_self]
        rw [List.length_append]
        refine ⟨by omega, z2, by omega, z4, by omega, fun q => by omega, fun _ => ⟨by omega, by omega, y3⟩⟩
    have t0 : s_ (p_zTk1 P d j) 89 d = 0 := by unfold p_zTk1 p_ans; simp only [s_S, s_B, s_F, b_S, b_B, b_F, f_S, f_B, Nat.reduceEqDiff, false_and, and_false, true_and, and_true, and_self, if_true, if_false, reduceIte, ite_self]; exact h0
    split
    · refine id_60 ?_ (by unfold p_keep; simp only [s_S, s_B, s_F, b_S, b_B, b_F, f_S, f_B, Nat.reduceEqDiff, false_and, and_false, true_and, and_true, and_self, if_true, if_false, reduceIte, ite_self]; exact t0) (by decide)
      generalize p_zTk1 P d j = P1 at *
      obtain ⟨hE, hZ, hW⟩ := t1
      refine ⟨?_, ?_, iw_0 (by unfold p_keep; simp only [s_S, s_B, s_F, b_S, b_B, b_F, f_S, f_B, Nat.reduceEqDiff, false_and, and_false, true_and, and_true, and_self, if_true, if_false, reduceIte, ite_self]; exact t0)⟩
      · unfold IE p_keep at *; simp only [s_S, s_B, s_F, b_S, b_B, b_F, f_S, f_B, Nat.reduceEqDiff, false_and, and_false, true_and, and_true, and_self, if_true, if_false, reduceIte, ite_self]; exact hE
      · unfold IZ p_keep at *; simp only [s_S, s_B, s_F, b_S, b_B, b_F, f_S, f_B, Nat.reduceEqDiff, false_and, and_false, true_and, and_true, and_self, if_true, if_false, reduceIte, ite_self]; exact hZ
    · exact t1
  split
  · split
    · exact id_ans h hd
    · exact id_ans a1 hd
  · exact id_ans h hd
theorem ie_eRs {k : Nat} (hE : IE P d) : IE (p_eRs P (6 * d + k)) d := by
  unfold p_eRs
  unfold IE at *; simp only [s_S, s_B, s_F, b_S, b_B, b_F, f_S, f_B, Nat.reduceEqDiff, false_and, and_false, true_and, and_true, and_self, if_true, if_false, reduceIte, ite_self]
  intro k' hk'
  have := hE k' hk'
  by_cases q : k' = k
  · subst q; rw [if_pos rfl, if_pos rfl]; omega
  · rw [if_neg (by omega), if_neg (by omega)]; exact this
theorem ie_rsAll (h : IE P d) : ∀ n, IE (p_rsAll P d n) d
  | 0 => h
  | n + 1 => ie_eRs (ie_rsAll h n)
theorem ie_S {f i v : Nat} (h : IE P d) (hf : f ≠ 86 ∧ f ≠ 101 ∧ f ≠ 103 ∧ f ≠ 105) : IE (pS P f i v) d := by
  intro k hk
  rw [s_S, if_neg (by omega)] at hk
  rw [s_S, s_S, s_S, b_S, if_neg (by omega), if_neg (by omega), if_neg (by omega)]
  exact h k hk
theorem ie_obey {w v ix : Nat} (h : IE P d) : IE (p_obey P d w v ix).1 d := by
  unfold p_obey
  repeat' split
  · exact h
  · exact ie_rsAll (ie_S h (by decide)) _
  · exact h
  · exact h
  · exact ie_eRs h
  · exact ie_S h (by decide)
  · exact h
theorem obey_z {w v ix f : Nat} (hf : f ≠ 83 ∧ f < 100) : s_ (p_obey P d w v ix).1 f d = s_ P f d := by
  unfold p_obey p_eRs
  repeat' split
  · rfl
  · rw [s_rsAll (by omega), s_S, if_neg (by omega)]
  · rfl
  · rfl
  · rw [s_S, s_S, s_S, if_neg (by omega), if_neg (by omega), if_neg (by omega)]
  · rw [s_S, if_neg (by omega)]
  · rfl
theorem obey_b {w v ix c i : Nat} : b_ (p_obey P d w v ix).1 c i = b_ P c i := by
  unfold p_obey p_eRs
  repeat' split
  all_goals first | rfl | (rw [b_rsAll]; rfl)
/-- an invariant at stage v, by its pieces -/
theorem id_mk {v : Nat} (hE : IE P d) (h61 : s_ P 61 d ≤ 1) (h64 : s_ P 64 d = 0) (h68 : s_ P 68 d ≤ 64) (l29 : (b_ P 29 d).length ≤ 64) (h89 : s_ P 89 d = 0) (hv : v = 1 ∨ v = 5 ∨ (v = 4 ∧ b_ P 29 d = [] ∧ s_ P 66 d + s_ P 65 d ≤ 64) ∨ (v = 2 ∧ s_ P 63 d ≤ (b_ P 29 d).length + 1 ∧ 1 ≤ s_ P 63 d)) : ID (pS P 60 d v) d := by
  refine ⟨ie_S hE (by decide), ?_, iw_0 (by simp only [s_S, s_B, s_F, b_S, b_B, b_F, f_S, f_B, Nat.reduceEqDiff, false_and, and_false, true_and, and_true, and_self, if_true, if_false, reduceIte, ite_self]; exact h89)⟩
  unfold IZ; simp only [s_S, s_B, s_F, b_S, b_B, b_F, f_S, f_B, Nat.reduceEqDiff, false_and, and_false, true_and, and_true, and_self, if_true, if_false, reduceIte, ite_self]
  refine ⟨h61, by omega, by omega, h68, l29, fun q => ⟨by omega, fun _ => by omega⟩, fun q => ?_⟩
  have : b_ P 29 d = [] := by
    rcases hv with h | h | h | h
    · omega
    · omega
    · exact h.2.1
    · omega
  rw [this, h64]
  exact ⟨rfl, by omega, by omega⟩
theorem id_zBeg {l : List Nat} (h : ID P d) (h0 : s_ P 89 d = 0) (hx : EX (p_zB1 P d l)) (hd : d < 6) : ID (p_zBeg P d l) d := by
  obtain ⟨hE, ⟨z1, z2, z3, z4, z5, z6, z7⟩, hW⟩ := id h
  have E1 : IE (p_zB1 P d l) d := by unfold p_zB1; exact ie_S (ie_S (ie_S (ie_S (ie_S (ie_S hE (by decide)) (by decide)) (by decide)) (by decide)) (by decide)) (by decide)
  have p61 : s_ (p_zB1 P d l) 61 d ≤ 1 := by unfold p_zB1; simp only [s_S, s_B, s_F, b_S, b_B, b_F, f_S, f_B, Nat.reduceEqDiff, false_and, and_false, true_and, and_true, and_self, if_true, if_false, reduceIte, ite_self]; omega
  have p64 : s_ (p_zB1 P d l) 64 d = 0 := by unfold p_zB1; simp only [s_S, s_B, s_F, b_S, b_B, b_F, f_S, f_B, Nat.reduceEqDiff, false_and, and_false, true_and, and_true, and_self, if_true, if_false, reduceIte, ite_self]
  have p65 : s_ (p_zB1 P d l) 65 d = l16 l 6 := by unfold p_zB1; simp only [s_S, s_B, s_F, b_S, b_B, b_F, f_S, f_B, Nat.reduceEqDiff, false_and, and_false, true_and, and_true, and_self, if_true, if_false, reduceIte, ite_self]
  have p68 : s_ (p_zB1 P d l) 68 d ≤ 64 := by unfold p_zB1; simp only [s_S, s_B, s_F, b_S, b_B, b_F, f_S, f_B, Nat.reduceEqDiff, false_and, and_false, true_and, and_true, and_self, if_true, if_false, reduceIte, ite_self]; exact z4
  have p89 : s_ (p_zB1 P d l) 89 d = 0 := by unfold p_zB1; simp only [s_S, s_B, s_F, b_S, b_B, b_F, f_S, f_B, Nat.reduceEqDiff, false_and, and_false, true_and, and_true, and_self, if_true, if_false, reduceIte, ite_self]; exact h0
  have p29 : (b_ (p_zB1 P d l) 29 d).length ≤ 64 := by unfold p_zB1; simp only [s_S, s_B, s_F, b_S, b_B, b_F, f_S, f_B, Nat.reduceEqDiff, false_and, and_false, true_and, and_true, and_self, if_true, if_false, reduceIte, ite_self]; exact z5
  have EB : ∀ t, IE (pB (p_zB1 P d l) 29 d t) d := by
    intro t
    unfold IE at *; simp only [s_S, s_B, s_F, b_S, b_B, b_F, f_S, f_B, Nat.reduceEqDiff, false_and, and_false, true_and, and_true, and_self, if_true, if_false, reduceIte, ite_self]; exact E1
  unfold p_zBeg
  generalize p_zB1 P d l = P1 at *
  split
  · have E2 := EB []
    have e61 : s_ (pB P1 29 d []) 61 d ≤ 1 := p61
    have e64 : s_ (pB P1 29 d []) 64 d = 0 := p64
    have e68 : s_ (pB P1 29 d []) 68 d ≤ 64 := p68
    have e89 : s_ (pB P1 29 d []) 89 d = 0 := p89
    have e29 : b_ (pB P1 29 d []) 29 d = [] := by simp only [s_S, s_B, s_F, b_S, b_B, b_F, f_S, f_B, Nat.reduceEqDiff, false_and, and_false, true_and, and_true, and_self, if_true, if_false, reduceIte, ite_self]
    generalize pB P1 29 d [] = P2 at *
    have l29 : (b_ P2 29 d).length ≤ 64 := by rw [e29]; decide
    unfold p_bfh
    split
    · refine id_mk E2 e61 e64 e68 l29 e89 ?_
      dsimp only
      split
      · exact Or.inl rfl
      split
      · exact Or.inr (Or.inl rfl)
      · exact Or.inr (Or.inr (Or.inl ⟨rfl, e29, by omega⟩))
    split
    · exact id_mk E2 e61 e64 e68 l29 e89 (Or.inl rfl)
    split
    · split
      · exact id_mk E2 e61 e64 e68 l29 e89 (Or.inl rfl)
      · refine id_mk (ie_S E2 (by decide)) ?_ ?_ ?_ l29 ?_ (Or.inr (Or.inl rfl)) <;> simp only [s_S, s_B, s_F, b_S, b_B, b_F, f_S, f_B, Nat.reduceEqDiff, false_and, and_false, true_and, and_true, and_self, if_true, if_false, reduceIte, ite_self] <;> assumption
    · refine id_mk (ie_obey E2) (by rw [obey_z (by decide)]; exact e61) (by rw [obey_z (by decide)]; exact e64) (by rw [obey_z (by decide)]; exact e68) (by rw [obey_b]; exact l29) (by rw [obey_z (by decide)]; exact e89) ?_
      dsimp only
      split
      · exact Or.inl rfl
      · exact Or.inr (Or.inl rfl)
  · split
    · refine id_mk (ie_S E1 (by decide)) ?_ ?_ ?_ p29 ?_ (Or.inl rfl) <;> simp only [s_S, s_B, s_F, b_S, b_B, b_F, f_S, f_B, Nat.reduceEqDiff, false_and, and_false, true_and, and_true, and_self, if_true, if_false, reduceIte, ite_self] <;> assumption
    · rename_i t ht
      have tl := tell_len hx hd ht
      refine id_mk (ie_S (EB t) (by decide)) ?_ ?_ ?_ ?_ ?_ ?_
      · simp only [s_S, s_B, s_F, b_S, b_B, b_F, f_S, f_B, Nat.reduceEqDiff, false_and, and_false, true_and, and_true, and_self, if_true, if_false, reduceIte, ite_self]; exact p61
      · simp only [s_S, s_B, s_F, b_S, b_B, b_F, f_S, f_B, Nat.reduceEqDiff, false_and, and_false, true_and, and_true, and_self, if_true, if_false, reduceIte, ite_self]; exact p64
      · simp only [s_S, s_B, s_F, b_S, b_B, b_F, f_S, f_B, Nat.reduceEqDiff, false_and, and_false, true_and, and_true, and_self, if_true, if_false, reduceIte, ite_self]; exact p68
      · simp only [s_S, s_B, s_F, b_S, b_B, b_F, f_S, f_B, Nat.reduceEqDiff, false_and, and_false, true_and, and_true, and_self, if_true, if_false, reduceIte, ite_self]; exact tl
      · simp only [s_S, s_B, s_F, b_S, b_B, b_F, f_S, f_B, Nat.reduceEqDiff, false_and, and_false, true_and, and_true, and_self, if_true, if_false, reduceIte, ite_self]; exact p89
      · simp only [s_S, s_B, s_F, b_S, b_B, b_F, f_S, f_B, Nat.reduceEqDiff, false_and, and_false, true_and, and_true, and_self, if_true, if_false, reduceIte, ite_self]
        split
        · exact Or.inr (Or.inl rfl)
        · exact Or.inr (Or.inr (Or.inr ⟨rfl, by omega, by omega⟩))
theorem find_self {k w : Nat} (h : p_find P d w = some k) : s_ P 100 (6 * d + k) = w := (find_lt h).2
/-- a device that hears keeps what it keeps -/
theorem id_hear {o : Option Nat} (h : ID P d) (hx : EX P) (hd : d < 6) (ho : ∀ j, o = some j → ∀ x ∈ b_ P 7 j, x < 256) : ID (p_hear P d o) d := by
  have h6 := ex_86 hx hd
  have h0 := id_h0 h
  have h89 : s_ (p_h0 P d) 89 d = 0 := by unfold p_h0; simp only [s_S, s_B, s_F, b_S, b_B, b_F, f_S, f_B, Nat.reduceEqDiff, false_and, and_false, true_and, and_true, and_self, if_true, if_false, reduceIte, ite_self]
  have x0 := ex_h0 hx hd
  unfold p_hear
  split
  · exact h0
  · rename_i j
    split
    · split
      · unfold p_hIn
        split
        · exact id_zIn h0 h89 hd
        · split
          · exact h0
          · rename_i k hf
            split
            · obtain ⟨k1, k2⟩ := find_lt hf
              have e := find_self hf
              exact id_eIn h0 h89 k1 (by rw [e]; exact hf) (by omega) hd
            · exact h0
      · rename_i t q9
        obtain ⟨hE, hZ, hW⟩ := h0
        refine ⟨ie_S (ie_S hE (by decide)) (by decide), ?_, ?_⟩
        · unfold IZ at *; simp only [s_S, s_B, s_F, b_S, b_B, b_F, f_S, f_B, Nat.reduceEqDiff, false_and, and_false, true_and, and_true, and_self, if_true, if_false, reduceIte, ite_self]; exact hZ
        · unfold IW; simp only [s_S, s_B, s_F, b_S, b_B, b_F, f_S, f_B, Nat.reduceEqDiff, false_and, and_false, true_and, and_true, and_self, if_true, if_false, reduceIte, ite_self]
          have t1 := t.1
          unfold isTok at t1
          exact ⟨by omega, fun q => by omega, fun q => by omega⟩
    · split
      · exact id_ans (id_zBeg h0 h89 (ex_z1 x0 hd (ho j rfl)) hd) hd
      · split
        · unfold p_hOut
          split
          · exact id_zOut h0 h89 hd
          · split
            · exact h0
            · rename_i k hf
              split
              · exact id_eOut h0 h89 (find_lt hf).1 hd
              · exact h0
        · split
          · rename_i q3
            unfold p_hAck
            split
            · rename_i q90
              refine id_zAck h0 h89 (fun q2 => ?_)
              have := h.2.2.2.1 q3.1 (by revert q90; unfold p_h0; simp only [s_S, s_B, s_F, b_S, b_B, b_F, f_S, f_B, Nat.reduceEqDiff, false_and, and_false, true_and, and_true, and_self, if_true, if_false, reduceIte, ite_self]; exact id) (by revert q2; unfold p_h0; simp only [s_S, s_B, s_F, b_S, b_B, b_F, f_S, f_B, Nat.reduceEqDiff, false_and, and_false, true_and, and_true, and_self, if_true, if_false, reduceIte, ite_self]; exact id)
              have e : nfl (p_h0 P d) d = nfl P d := by unfold nfl p_h0; simp only [s_S, s_B, s_F, b_S, b_B, b_F, f_S, f_B, Nat.reduceEqDiff, false_and, and_false, true_and, and_true, and_self, if_true, if_false, reduceIte, ite_self]
              rw [e]; unfold p_h0; simp only [s_S, s_B, s_F, b_S, b_B, b_F, f_S, f_B, Nat.reduceEqDiff, false_and, and_false, true_and, and_true, and_self, if_true, if_false, reduceIte, ite_self]; exact this
            · split
              · exact h0
              · rename_i k hf
                exact id_eAck h0 h89 (find_lt hf).1
          · exact h0
end KP
