/-! Addresses and who waits, while devices hear. -/
section WA
variable {P P' Q : pP} {d : Nat}
theorem hAck_83b : s_ (p_hAck P d) 83 d = s_ P 83 d ∨ 2 ≤ s_ (p_hAck P d) 83 d := by
  unfold p_hAck p_zAck p_eAck
  repeat' split
  all_goals (try simp only [s_S, s_B, s_F, b_S, b_B, b_F, f_S, f_B, Nat.reduceEqDiff, false_and, and_false, true_and, and_true, and_self, if_true, if_false, reduceIte, ite_self])
  all_goals first | exact Or.inl rfl | exact Or.inl trivial | exact Or.inr (Nat.le_refl _) | omega
theorem obey_83b {w v ix : Nat} : s_ (p_obey P d w v ix).1 83 d = s_ P 83 d ∨ 2 ≤ s_ (p_obey P d w v ix).1 83 d := by
  unfold p_obey p_eRs
  repeat' split
  all_goals (try rw [s_rsAll (by decide)])
  all_goals (try simp only [s_S, s_B, s_F, b_S, b_B, b_F, f_S, f_B, Nat.reduceEqDiff, false_and, and_false, true_and, and_true, and_self, if_true, if_false, reduceIte, ite_self])
  all_goals first | exact Or.inl rfl | exact Or.inl trivial | exact Or.inr (by omega)
theorem zB1_f {l : List Nat} {f : Nat} (hf : f = 83 ∨ f = 84 ∨ f = 89 ∨ f = 86 ∨ f = 91) : s_ (p_zB1 P d l) f d = s_ P f d := by
  unfold p_zB1
  rcases hf with rfl | rfl | rfl | rfl | rfl <;> simp only [s_S, s_B, s_F, b_S, b_B, b_F, f_S, f_B, Nat.reduceEqDiff, false_and, and_false, true_and, and_true, and_self, if_true, if_false, reduceIte, ite_self]
theorem zBeg_83b {l : List Nat} : s_ (p_zBeg P d l) 83 d = s_ P 83 d ∨ 2 ≤ s_ (p_zBeg P d l) 83 d := by
  unfold p_zBeg
  split
  · rw [s_S, if_neg (by omega)]
    have e : s_ (pB (p_zB1 P d l) 29 d []) 83 d = s_ P 83 d := by rw [s_B]; exact zB1_f (by decide)
    rw [← e]
    unfold p_bfh
    repeat' split
    all_goals (try simp only [s_S, s_B, s_F, b_S, b_B, b_F, f_S, f_B, Nat.reduceEqDiff, false_and, and_false, true_and, and_true, and_self, if_true, if_false, reduceIte, ite_self])
    all_goals first | exact Or.inl trivial | exact obey_83b | exact Or.inl rfl
  · split
    · rw [s_S, if_neg (by omega), s_S, if_neg (by omega), zB1_f (by decide)]; exact Or.inl rfl
    · rw [s_S, if_neg (by omega), s_S, if_neg (by omega), s_B, zB1_f (by decide)]; exact Or.inl rfl
theorem hear_83b {o : Option Nat} : s_ (p_hear P d o) 83 d = s_ P 83 d ∨ 2 ≤ s_ (p_hear P d o) 83 d := by
  unfold p_hear
  repeat' split
  · exact Or.inl h0_83
  · rw [hIn_83]; exact Or.inl h0_83
  · rw [s_S, if_neg (by omega), s_S, if_neg (by omega)]; exact Or.inl h0_83
  · rw [ans_83 rfl, ← h0_83 (P := P)]; exact zBeg_83b
  · rw [hOut_83]; exact Or.inl h0_83
  · rw [← h0_83 (P := P)]; exact hAck_83b
  · exact Or.inl h0_83
theorem h0_89 : s_ (p_h0 P d) 89 d = 0 := by unfold p_h0; simp only [s_S, s_B, s_F, b_S, b_B, b_F, f_S, f_B, Nat.reduceEqDiff, false_and, and_false, true_and, and_true, and_self, if_true, if_false, reduceIte, ite_self]
theorem hOut_89 {j : Nat} : s_ (p_hOut P d j) 89 d = s_ P 89 d := by
  unfold p_hOut p_zOut p_zTake p_zTk1 p_keep p_eOut p_ans
  repeat' split
  all_goals (try simp only [s_S, s_B, s_F, b_S, b_B, b_F, f_S, f_B, Nat.reduceEqDiff, false_and, and_false, true_and, and_true, and_self, if_true, if_false, reduceIte, ite_self])
theorem hAck_89 : s_ (p_hAck P d) 89 d = s_ P 89 d := by
  unfold p_hAck p_zAck p_eAck
  repeat' split
  all_goals (try simp only [s_S, s_B, s_F, b_S, b_B, b_F, f_S, f_B, Nat.reduceEqDiff, false_and, and_false, true_and, and_true, and_self, if_true, if_false, reduceIte, ite_self])
theorem zBeg_89 {l : List Nat} : s_ (p_zBeg P d l) 89 d = s_ P 89 d := by
  unfold p_zBeg
  split
  · rw [s_S, if_neg (by omega)]
    have e : s_ (pB (p_zB1 P d l) 29 d []) 89 d = s_ P 89 d := by rw [s_B]; exact zB1_f (by decide)
    rw [← e]
    unfold p_bfh
    repeat' split
    all_goals (try simp only [s_S, s_B, s_F, b_S, b_B, b_F, f_S, f_B, Nat.reduceEqDiff, false_and, and_false, true_and, and_true, and_self, if_true, if_false, reduceIte, ite_self])
    all_goals first | trivial | exact obey_z (by decide) | rfl
  · split
    · rw [s_S, if_neg (by omega), s_S, if_neg (by omega), zB1_f (by decide)]
    · rw [s_S, if_neg (by omega), s_S, if_neg (by omega), s_B, zB1_f (by decide)]
theorem ans_89 {k : Nat} : s_ (p_ans P d k) 89 d = s_ P 89 d := by unfold p_ans; simp only [s_S, s_B, s_F, b_S, b_B, b_F, f_S, f_B, Nat.reduceEqDiff, false_and, and_false, true_and, and_true, and_self, if_true, if_false, reduceIte, ite_self]
theorem hear_89 {o : Option Nat} (h : s_ (p_hear P d o) 89 d ≠ 0) : ∃ j, o = some j ∧ isTok (s_ P 141 j) ∧ s_ P 142 j % 128 = s_ P 84 d := by
  unfold p_hear at h
  split at h
  · exact absurd h0_89 h
  · rename_i j
    by_cases q : isTok (s_ P 141 j) ∧ s_ P 142 j % 128 = s_ P 84 d
    · exact ⟨j, rfl, q⟩
    · exfalso; apply h
      rw [if_neg q]
      split
      · rw [ans_89, zBeg_89, h0_89]
      · split
        · rw [hOut_89, h0_89]
        · split
          · rw [hAck_89, h0_89]
          · exact h0_89
/-- addresses of one device -/
def IA (P : pP) (d : Nat) : Prop := s_ P 83 d ≤ 3 ∧ (s_ P 83 d ≤ 1 → s_ P 84 d = 0) ∧ (2 ≤ s_ P 83 d → s_ P 84 d = d + 1) ∧ (s_ P 60 d = 5 → s_ P 67 d ≠ 0 → s_ P 67 d = d + 1 ∧ s_ P 83 d ≤ 1) ∧ (s_ P 60 d = 4 → s_ P 67 d = 0)
theorem ia_cg (h : IA P d) (h83 : s_ P' 83 d = s_ P 83 d) (h84 : s_ P' 84 d = s_ P 84 d) (h67 : s_ P' 67 d = s_ P 67 d) (h60 : s_ P' 60 d = s_ P 60 d ∨ (s_ P' 60 d = 1 ∨ s_ P' 60 d = 3 ∨ s_ P' 60 d = 6) ∨ (s_ P' 60 d = 5 ∧ s_ P 60 d = 4)) : IA P' d := by
  unfold IA at *
  rw [h83, h84, h67]
  obtain ⟨a1, a2, a3, a4, a5⟩ := h
  refine ⟨a1, a2, a3, fun q1 q2 => ?_, fun q => a5 (by omega)⟩
  rcases h60 with q | q | q
  · exact a4 (by omega) q2
  · omega
  · exact absurd (a5 q.2) q2
theorem hIn_z {e f : Nat} (hf : f = 84 ∨ f = 67) : s_ (p_hIn P d e) f d = s_ P f d := by
  unfold p_hIn p_zIn p_zIn2 p_zIn1 p_eIn p_eIn1 p_ansD p_ans
  rcases hf with rfl | rfl
  all_goals (repeat' split)
  all_goals (try simp only [s_S, s_B, s_F, b_S, b_B, b_F, f_S, f_B, Nat.reduceEqDiff, false_and, and_false, true_and, and_true, and_self, if_true, if_false, reduceIte, ite_self])
theorem hIn_60 {e : Nat} : s_ (p_hIn P d e) 60 d = s_ P 60 d ∨ s_ (p_hIn P d e) 60 d = 1 := by
  unfold p_hIn p_zIn p_zIn2 p_zIn1 p_eIn p_eIn1 p_ansD p_ans
  repeat' split
  all_goals (try simp only [s_S, s_B, s_F, b_S, b_B, b_F, f_S, f_B, Nat.reduceEqDiff, false_and, and_false, true_and, and_true, and_self, if_true, if_false, reduceIte, ite_self])
  all_goals first | exact Or.inl trivial | exact Or.inr trivial | exact Or.inl rfl | exact Or.inr rfl | omega
theorem hOut_z {j f : Nat} (hf : f = 84 ∨ f = 67) : s_ (p_hOut P d j) f d = s_ P f d := by
  unfold p_hOut p_zOut p_zTake p_zTk1 p_keep p_eOut p_ans
  rcases hf with rfl | rfl
  all_goals (repeat' split)
  all_goals (try simp only [s_S, s_B, s_F, b_S, b_B, b_F, f_S, f_B, Nat.reduceEqDiff, false_and, and_false, true_and, and_true, and_self, if_true, if_false, reduceIte, ite_self])
theorem hOut_60 {j : Nat} : s_ (p_hOut P d j) 60 d = s_ P 60 d ∨ (s_ (p_hOut P d j) 60 d = 1 ∨ s_ (p_hOut P d j) 60 d = 3 ∨ s_ (p_hOut P d j) 60 d = 6) ∨ (s_ (p_hOut P d j) 60 d = 5 ∧ s_ P 60 d = 4) := by
  unfold p_hOut p_zOut p_zTake p_zTk1 p_keep p_eOut p_ans
  repeat' split
  all_goals (try simp only [s_S, s_B, s_F, b_S, b_B, b_F, f_S, f_B, Nat.reduceEqDiff, false_and, and_false, true_and, and_true, and_self, if_true, if_false, reduceIte, ite_self])
  all_goals first | exact Or.inl trivial | exact Or.inr (Or.inl (Or.inl trivial)) | exact Or.inr (Or.inl (Or.inr (Or.inl trivial))) | exact Or.inl rfl | (refine Or.inr (Or.inr ⟨trivial, ?_⟩); assumption) | omega
theorem ia_hAck (h : IA P d) : IA (p_hAck P d) d := by
  unfold p_hAck
  split
  · unfold p_zAck
    split
    · exact ia_cg h (by simp only [s_S, s_B, s_F, b_S, b_B, b_F, f_S, f_B, Nat.reduceEqDiff, false_and, and_false, true_and, and_true, and_self, if_true, if_false, reduceIte, ite_self]) (by simp only [s_S, s_B, s_F, b_S, b_B, b_F, f_S, f_B, Nat.reduceEqDiff, false_and, and_false, true_and, and_true, and_self, if_true, if_false, reduceIte, ite_self]) (by simp only [s_S, s_B, s_F, b_S, b_B, b_F, f_S, f_B, Nat.reduceEqDiff, false_and, and_false, true_and, and_true, and_self, if_true, if_false, reduceIte, ite_self]) (Or.inl (by simp only [s_S, s_B, s_F, b_S, b_B, b_F, f_S, f_B, Nat.reduceEqDiff, false_and, and_false, true_and, and_true, and_self, if_true, if_false, reduceIte, ite_self]))
    · split
      · rename_i q5
        split
        · exact ia_cg h (by simp only [s_S, s_B, s_F, b_S, b_B, b_F, f_S, f_B, Nat.reduceEqDiff, false_and, and_false, true_and, and_true, and_self, if_true, if_false, reduceIte, ite_self]) (by simp only [s_S, s_B, s_F, b_S, b_B, b_F, f_S, f_B, Nat.reduceEqDiff, false_and, and_false, true_and, and_true, and_self, if_true, if_false, reduceIte, ite_self]) (by simp only [s_S, s_B, s_F, b_S, b_B, b_F, f_S, f_B, Nat.reduceEqDiff, false_and, and_false, true_and, and_true, and_self, if_true, if_false, reduceIte, ite_self]) (Or.inr (Or.inl (Or.inr (Or.inr (by simp only [s_S, s_B, s_F, b_S, b_B, b_F, f_S, f_B, Nat.reduceEqDiff, false_and, and_false, true_and, and_true, and_self, if_true, if_false, reduceIte, ite_self])))))
        · rename_i q67
          obtain ⟨a1, a2, a3, a4, a5⟩ := h
          have := a4 q5 q67
          unfold IA; simp only [s_S, s_B, s_F, b_S, b_B, b_F, f_S, f_B, Nat.reduceEqDiff, false_and, and_false, true_and, and_true, and_self, if_true, if_false, reduceIte, ite_self]
          refine ⟨by omega, fun q => absurd q (by decide), fun _ => this.1, fun q => absurd q (by decide), fun q => absurd q (by decide)⟩
      · exact h
  · split
    · exact h
    · unfold p_eAck
      exact ia_cg h (by simp only [s_S, s_B, s_F, b_S, b_B, b_F, f_S, f_B, Nat.reduceEqDiff, false_and, and_false, true_and, and_true, and_self, if_true, if_false, reduceIte, ite_self]) (by simp only [s_S, s_B, s_F, b_S, b_B, b_F, f_S, f_B, Nat.reduceEqDiff, false_and, and_false, true_and, and_true, and_self, if_true, if_false, reduceIte, ite_self]) (by simp only [s_S, s_B, s_F, b_S, b_B, b_F, f_S, f_B, Nat.reduceEqDiff, false_and, and_false, true_and, and_true, and_self, if_true, if_false, reduceIte, ite_self]) (Or.inl (by simp only [s_S, s_B, s_F, b_S, b_B, b_F, f_S, f_B, Nat.reduceEqDiff, false_and, and_false, true_and, and_true, and_self, if_true, if_false, reduceIte, ite_self]))
theorem ia_zBeg {l : List Nat} (h : IA P d) (h0 : s_ P 83 d ≠ 0) (hs : lwh l = 5 → 1 ≤ l16 l 2 → l16 l 2 ≤ 127 → l16 l 2 = d + 1 ∧ s_ P 83 d = 1) : IA (p_zBeg P d l) d := by
  obtain ⟨a1, a2, a3, a4, a5⟩ := h
  have e83 : s_ (p_zB1 P d l) 83 d = s_ P 83 d := zB1_f (by decide)
  have e84 : s_ (p_zB1 P d l) 84 d = s_ P 84 d := zB1_f (by decide)
  have e67 : s_ (p_zB1 P d l) 67 d = 0 := by unfold p_zB1; simp only [s_S, s_B, s_F, b_S, b_B, b_F, f_S, f_B, Nat.reduceEqDiff, false_and, and_false, true_and, and_true, and_self, if_true, if_false, reduceIte, ite_self]
  have e66 : s_ (p_zB1 P d l) 66 d = l16 l 2 := by unfold p_zB1; simp only [s_S, s_B, s_F, b_S, b_B, b_F, f_S, f_B, Nat.reduceEqDiff, false_and, and_false, true_and, and_true, and_self, if_true, if_false, reduceIte, ite_self]
  unfold p_zBeg
  generalize p_zB1 P d l = P1 at *
  have mk : ∀ (R : pP) v, s_ R 83 d = s_ P 83 d → s_ R 84 d = s_ P 84 d → s_ R 67 d = 0 → IA (pS R 60 d v) d := by
    intro R v h1 h2 h3
    unfold IA; simp only [s_S, s_B, s_F, b_S, b_B, b_F, f_S, f_B, Nat.reduceEqDiff, false_and, and_false, true_and, and_true, and_self, if_true, if_false, reduceIte, ite_self]
    rw [h1, h2, h3]
    exact ⟨a1, a2, a3, fun _ q => absurd rfl q, fun _ => rfl⟩
  split
  · have f83 : s_ (pB P1 29 d []) 83 d = s_ P 83 d := e83
    have f84 : s_ (pB P1 29 d []) 84 d = s_ P 84 d := e84
    have f67 : s_ (pB P1 29 d []) 67 d = 0 := e67
    have f66 : s_ (pB P1 29 d []) 66 d = l16 l 2 := e66
    generalize pB P1 29 d [] = P2 at *
    unfold p_bfh
    split
    · exact mk _ _ f83 f84 f67
    split
    · exact mk _ _ f83 f84 f67
    split
    · rename_i w5
      split
      · exact mk _ _ f83 f84 f67
      · rename_i q
        obtain ⟨s1, s2⟩ := hs w5 (by omega) (by omega)
        unfold IA; simp only [s_S, s_B, s_F, b_S, b_B, b_F, f_S, f_B, Nat.reduceEqDiff, false_and, and_false, true_and, and_true, and_self, if_true, if_false, reduceIte, ite_self]
        rw [f83, f84, f66]
        exact ⟨a1, a2, a3, fun _ _ => ⟨s1, by omega⟩, fun q => absurd q (by decide)⟩
    · dsimp only
      have g84 : s_ (p_obey P2 d (lwh l) (s_ P2 66 d) (l16 l 4)).1 84 d = s_ P 84 d := by rw [obey_z (by decide)]; exact f84
      have g67 : s_ (p_obey P2 d (lwh l) (s_ P2 66 d) (l16 l 4)).1 67 d = 0 := by rw [obey_z (by decide)]; exact f67
      have g83 : s_ (p_obey P2 d (lwh l) (s_ P2 66 d) (l16 l 4)).1 83 d = s_ P 83 d ∨ (s_ P 83 d ≠ 1 ∧ 2 ≤ s_ (p_obey P2 d (lwh l) (s_ P2 66 d) (l16 l 4)).1 83 d ∧ s_ (p_obey P2 d (lwh l) (s_ P2 66 d) (l16 l 4)).1 83 d ≤ 3) := by
        rw [← f83]
        unfold p_obey p_eRs
        repeat' split
        all_goals (try rw [s_rsAll (by decide)])
        all_goals (try simp only [s_S, s_B, s_F, b_S, b_B, b_F, f_S, f_B, Nat.reduceEqDiff, false_and, and_false, true_and, and_true, and_self, if_true, if_false, reduceIte, ite_self])
        all_goals first | exact Or.inl trivial | exact Or.inl rfl | (refine Or.inr ⟨?_, ?_, ?_⟩ <;> omega)
      generalize (p_obey P2 d (lwh l) (s_ P2 66 d) (l16 l 4)).1 = P3 at *
      generalize (if (p_obey P2 d (lwh l) (s_ P2 66 d) (l16 l 4)).2 = 0 then 1 else 5) = v
      unfold IA; simp only [s_S, s_B, s_F, b_S, b_B, b_F, f_S, f_B, Nat.reduceEqDiff, false_and, and_false, true_and, and_true, and_self, if_true, if_false, reduceIte, ite_self]
      rw [g84, g67]
      refine ⟨by omega, fun q => a2 (by omega), fun q => a3 (by omega), fun _ q => absurd rfl q, fun _ => rfl⟩
  · split
    · exact mk _ _ (by simp only [s_S, s_B, s_F, b_S, b_B, b_F, f_S, f_B, Nat.reduceEqDiff, false_and, and_false, true_and, and_true, and_self, if_true, if_false, reduceIte, ite_self]; exact e83) (by simp only [s_S, s_B, s_F, b_S, b_B, b_F, f_S, f_B, Nat.reduceEqDiff, false_and, and_false, true_and, and_true, and_self, if_true, if_false, reduceIte, ite_self]; exact e84) (by simp only [s_S, s_B, s_F, b_S, b_B, b_F, f_S, f_B, Nat.reduceEqDiff, false_and, and_false, true_and, and_true, and_self, if_true, if_false, reduceIte, ite_self]; exact e67)
    · exact mk _ _ (by simp only [s_S, s_B, s_F, b_S, b_B, b_F, f_S, f_B, Nat.reduceEqDiff, false_and, and_false, true_and, and_true, and_self, if_true, if_false, reduceIte, ite_self]; exact e83) (by simp only [s_S, s_B, s_F, b_S, b_B, b_F, f_S, f_B, Nat.reduceEqDiff, false_and, and_false, true_and, and_true, and_self, if_true, if_false, reduceIte, ite_self]; exact e84) (by simp only [s_S, s_B, s_F, b_S, b_B, b_F, f_S, f_B, Nat.reduceEqDiff, false_and, and_false, true_and, and_true, and_self, if_true, if_false, reduceIte, ite_self]; exact e67)
theorem ia_hear {o : Option Nat} (h : IA P d) (h0 : s_ P 83 d ≠ 0) (hs : ∀ j, o = some j → s_ P 89 d = 14 → s_ P 141 j = 3 → (b_ P 7 j).length = 8 → lwh (b_ P 7 j) = 5 → 1 ≤ l16 (b_ P 7 j) 2 → l16 (b_ P 7 j) 2 ≤ 127 → l16 (b_ P 7 j) 2 = d + 1 ∧ s_ P 83 d = 1) : IA (p_hear P d o) d := by
  have i0 : IA (p_h0 P d) d := by
    unfold p_h0
    exact ia_cg h (by simp only [s_S, s_B, s_F, b_S, b_B, b_F, f_S, f_B, Nat.reduceEqDiff, false_and, and_false, true_and, and_true, and_self, if_true, if_false, reduceIte, ite_self]) (by simp only [s_S, s_B, s_F, b_S, b_B, b_F, f_S, f_B, Nat.reduceEqDiff, false_and, and_false, true_and, and_true, and_self, if_true, if_false, reduceIte, ite_self]) (by simp only [s_S, s_B, s_F, b_S, b_B, b_F, f_S, f_B, Nat.reduceEqDiff, false_and, and_false, true_and, and_true, and_self, if_true, if_false, reduceIte, ite_self]) (Or.inl (by simp only [s_S, s_B, s_F, b_S, b_B, b_F, f_S, f_B, Nat.reduceEqDiff, false_and, and_false, true_and, and_true, and_self, if_true, if_false, reduceIte, ite_self]))
  unfold p_hear
  split
  · exact i0
  · rename_i j
    split
    · split
      · exact ia_cg i0 hIn_83 (hIn_z (by decide)) (hIn_z (by decide)) (hIn_60.imp id (fun q => Or.inl (Or.inl q)))
      · exact ia_cg i0 (by simp only [s_S, s_B, s_F, b_S, b_B, b_F, f_S, f_B, Nat.reduceEqDiff, false_and, and_false, true_and, and_true, and_self, if_true, if_false, reduceIte, ite_self]) (by simp only [s_S, s_B, s_F, b_S, b_B, b_F, f_S, f_B, Nat.reduceEqDiff, false_and, and_false, true_and, and_true, and_self, if_true, if_false, reduceIte, ite_self]) (by simp only [s_S, s_B, s_F, b_S, b_B, b_F, f_S, f_B, Nat.reduceEqDiff, false_and, and_false, true_and, and_true, and_self, if_true, if_false, reduceIte, ite_self]) (Or.inl (by simp only [s_S, s_B, s_F, b_S, b_B, b_F, f_S, f_B, Nat.reduceEqDiff, false_and, and_false, true_and, and_true, and_self, if_true, if_false, reduceIte, ite_self]))
    · split
      · rename_i q14
        have := ia_zBeg (l := b_ P 7 j) i0 (by rw [h0_83]; exact h0) (fun q1 q2 q3 => by rw [h0_83]; exact hs j rfl q14.1 q14.2.2.1 q14.2.2.2 q1 q2 q3)
        unfold p_ans
        exact ia_cg this (by simp only [s_S, s_B, s_F, b_S, b_B, b_F, f_S, f_B, Nat.reduceEqDiff, false_and, and_false, true_and, and_true, and_self, if_true, if_false, reduceIte, ite_self]) (by simp only [s_S, s_B, s_F, b_S, b_B, b_F, f_S, f_B, Nat.reduceEqDiff, false_and, and_false, true_and, and_true, and_self, if_true, if_false, reduceIte, ite_self]) (by simp only [s_S, s_B, s_F, b_S, b_B, b_F, f_S, f_B, Nat.reduceEqDiff, false_and, and_false, true_and, and_true, and_self, if_true, if_false, reduceIte, ite_self]) (Or.inl (by simp only [s_S, s_B, s_F, b_S, b_B, b_F, f_S, f_B, Nat.reduceEqDiff, false_and, and_false, true_and, and_true, and_self, if_true, if_false, reduceIte, ite_self]))
      · split
        · exact ia_cg i0 hOut_83 (hOut_z (by decide)) (hOut_z (by decide)) hOut_60
        · split
          · exact ia_hAck i0
          · exact i0
theorem so_IA (h : SO d P P') (hI : IA P d) : IA P' d := by
  unfold IA at *
  simp (disch := decide) only [so_s h]
  exact hI
end WA
