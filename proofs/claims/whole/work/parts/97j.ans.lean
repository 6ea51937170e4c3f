/-! What an answer does to a transfer's numbers; the state behind the transaction. -/
section HQ
variable {P P' Q A : pP} {d t : Nat} {r : Option Nat}
/-- numbers of a transfer behind an answer -/
def TA (r : Option Nat) (t : Nat) (Q A : pP) : Prop := s_ A 210 t ≤ (b_ Q 36 t).length ∧ s_ A 185 (s_ Q 213 t) ≤ 1 ∧ s_ A 209 t ≤ 2 ∧ s_ A 212 t ≤ 3 ∧ s_ A 211 t ≤ 3 ∧ (s_ A 211 t = 0 → s_ A 212 t < 3) ∧ (s_ Q 180 (s_ Q 213 t) ≠ 0 → s_ Q 209 t = 1 → s_ A 209 t = 1) ∧ (s_ A 209 t = 0 → s_ Q 209 t = 0 ∧ s_ A 210 t = s_ Q 210 t) ∧ ((b_ Q 36 t).length = 0 → s_ Q 209 t ≠ 1 → s_ A 209 t ≠ 1) ∧ (B8 (b_ Q 36 t) → (∀ j, r = some j → B8 (b_ Q 7 j)) → B8 (b_ A 36 t))
theorem ta_mk {x0 x5 x9 x2 x1 : Nat} (e0 : s_ A 210 t = x0) (e5 : s_ A 185 (s_ Q 213 t) = x5) (e9 : s_ A 209 t = x9) (e2 : s_ A 212 t = x2) (e1 : s_ A 211 t = x1) (hb : B8 (b_ Q 36 t) → (∀ j, r = some j → B8 (b_ Q 7 j)) → B8 (b_ A 36 t)) (h : x0 ≤ (b_ Q 36 t).length ∧ x5 ≤ 1 ∧ x9 ≤ 2 ∧ x2 ≤ 3 ∧ x1 ≤ 3 ∧ (x1 = 0 → x2 < 3) ∧ (s_ Q 180 (s_ Q 213 t) ≠ 0 → s_ Q 209 t = 1 → x9 = 1) ∧ (x9 = 0 → s_ Q 209 t = 0 ∧ x0 = s_ Q 210 t) ∧ ((b_ Q 36 t).length = 0 → s_ Q 209 t ≠ 1 → x9 ≠ 1)) : TA r t Q A := by
  unfold TA
  rw [e0, e5, e9, e2, e1]
  exact ⟨h.1, h.2.1, h.2.2.1, h.2.2.2.1, h.2.2.2.2.1, h.2.2.2.2.2.1, h.2.2.2.2.2.2.1, h.2.2.2.2.2.2.2.1, h.2.2.2.2.2.2.2.2, hb⟩
theorem ta_err (hI : TI Q t) (h1 : s_ Q 211 t = 0) : TA r t Q (p_err Q t) := by
  obtain ⟨i1, i2, i3, i4, i5⟩ := hI
  unfold p_err
  split
  · exact ta_mk (x0 := s_ Q 210 t) (x5 := s_ Q 185 (s_ Q 213 t)) (x9 := s_ Q 209 t) (x2 := s_ Q 212 t + 1) (x1 := s_ Q 211 t) (by simp only [s_S, s_B, s_F, b_S, b_B, b_F, f_S, f_B, Nat.reduceEqDiff, false_and, and_false, true_and, and_true, and_self, if_true, if_false, reduceIte, ite_self]) (by simp only [s_S, s_B, s_F, b_S, b_B, b_F, f_S, f_B, Nat.reduceEqDiff, false_and, and_false, true_and, and_true, and_self, if_true, if_false, reduceIte, ite_self]) (by simp only [s_S, s_B, s_F, b_S, b_B, b_F, f_S, f_B, Nat.reduceEqDiff, false_and, and_false, true_and, and_true, and_self, if_true, if_false, reduceIte, ite_self]) (by simp only [s_S, s_B, s_F, b_S, b_B, b_F, f_S, f_B, Nat.reduceEqDiff, false_and, and_false, true_and, and_true, and_self, if_true, if_false, reduceIte, ite_self]) (by simp only [s_S, s_B, s_F, b_S, b_B, b_F, f_S, f_B, Nat.reduceEqDiff, false_and, and_false, true_and, and_true, and_self, if_true, if_false, reduceIte, ite_self]) (fun h _ => h) (by omega)
  · exact ta_mk (x0 := s_ Q 210 t) (x5 := s_ Q 185 (s_ Q 213 t)) (x9 := s_ Q 209 t) (x2 := s_ Q 212 t + 1) (x1 := 3) (by simp only [s_S, s_B, s_F, b_S, b_B, b_F, f_S, f_B, Nat.reduceEqDiff, false_and, and_false, true_and, and_true, and_self, if_true, if_false, reduceIte, ite_self]) (by simp only [s_S, s_B, s_F, b_S, b_B, b_F, f_S, f_B, Nat.reduceEqDiff, false_and, and_false, true_and, and_true, and_self, if_true, if_false, reduceIte, ite_self]) (by simp only [s_S, s_B, s_F, b_S, b_B, b_F, f_S, f_B, Nat.reduceEqDiff, false_and, and_false, true_and, and_true, and_self, if_true, if_false, reduceIte, ite_self]) (by simp only [s_S, s_B, s_F, b_S, b_B, b_F, f_S, f_B, Nat.reduceEqDiff, false_and, and_false, true_and, and_true, and_self, if_true, if_false, reduceIte, ite_self]) (by simp only [s_S, s_B, s_F, b_S, b_B, b_F, f_S, f_B, Nat.reduceEqDiff, false_and, and_false, true_and, and_true, and_self, if_true, if_false, reduceIte, ite_self]) (fun h _ => h) (by omega)
theorem ta_hearB {k1 : Nat} (hI : TI Q t) (h1 : s_ Q 211 t = 0) : TA r t Q (p_hearB Q t k1) := by
  obtain ⟨i1, i2, i3, i4, i5⟩ := id hI
  unfold p_hearB
  split
  · have ck : chk (pS Q 212 t 0) t = chk Q t := by unfold chk; simp only [s_S, s_B, s_F, b_S, b_B, b_F, f_S, f_B, Nat.reduceEqDiff, false_and, and_false, true_and, and_true, and_self, if_true, if_false, reduceIte, ite_self]
    have ck2 : chk Q t ≤ (b_ Q 36 t).length - s_ Q 210 t := by unfold chk; split <;> omega
    unfold p_goOn
    rw [ck]
    simp only [s_S, s_B, s_F, b_S, b_B, b_F, f_S, f_B, Nat.reduceEqDiff, false_and, and_false, true_and, and_true, and_self, if_true, if_false, reduceIte, ite_self]
    split
    · rename_i q0
      exact ta_mk (x0 := s_ Q 210 t) (x5 := 1) (x9 := if (b_ Q 36 t).length ≤ 0 then 2 else 1) (x2 := 0) (x1 := s_ Q 211 t) (by simp only [s_S, s_B, s_F, b_S, b_B, b_F, f_S, f_B, Nat.reduceEqDiff, false_and, and_false, true_and, and_true, and_self, if_true, if_false, reduceIte, ite_self]) (by simp only [s_S, s_B, s_F, b_S, b_B, b_F, f_S, f_B, Nat.reduceEqDiff, false_and, and_false, true_and, and_true, and_self, if_true, if_false, reduceIte, ite_self]) (by simp only [s_S, s_B, s_F, b_S, b_B, b_F, f_S, f_B, Nat.reduceEqDiff, false_and, and_false, true_and, and_true, and_self, if_true, if_false, reduceIte, ite_self]; rfl) (by simp only [s_S, s_B, s_F, b_S, b_B, b_F, f_S, f_B, Nat.reduceEqDiff, false_and, and_false, true_and, and_true, and_self, if_true, if_false, reduceIte, ite_self]) (by simp only [s_S, s_B, s_F, b_S, b_B, b_F, f_S, f_B, Nat.reduceEqDiff, false_and, and_false, true_and, and_true, and_self, if_true, if_false, reduceIte, ite_self]) (fun h _ => h) (by split <;> omega)
    · split
      · exact ta_mk (x0 := s_ Q 210 t) (x5 := s_ Q 185 (s_ Q 213 t)) (x9 := s_ Q 209 t) (x2 := 0) (x1 := 1) (by simp only [s_S, s_B, s_F, b_S, b_B, b_F, f_S, f_B, Nat.reduceEqDiff, false_and, and_false, true_and, and_true, and_self, if_true, if_false, reduceIte, ite_self]) (by simp only [s_S, s_B, s_F, b_S, b_B, b_F, f_S, f_B, Nat.reduceEqDiff, false_and, and_false, true_and, and_true, and_self, if_true, if_false, reduceIte, ite_self]) (by simp only [s_S, s_B, s_F, b_S, b_B, b_F, f_S, f_B, Nat.reduceEqDiff, false_and, and_false, true_and, and_true, and_self, if_true, if_false, reduceIte, ite_self]) (by simp only [s_S, s_B, s_F, b_S, b_B, b_F, f_S, f_B, Nat.reduceEqDiff, false_and, and_false, true_and, and_true, and_self, if_true, if_false, reduceIte, ite_self]) (by simp only [s_S, s_B, s_F, b_S, b_B, b_F, f_S, f_B, Nat.reduceEqDiff, false_and, and_false, true_and, and_true, and_self, if_true, if_false, reduceIte, ite_self]) (fun h _ => h) (by omega)
      · split
        · unfold p_endD
          simp only [s_S, s_B, s_F, b_S, b_B, b_F, f_S, f_B, Nat.reduceEqDiff, false_and, and_false, true_and, and_true, and_self, if_true, if_false, reduceIte, ite_self]
          split
          · exact ta_mk (x0 := s_ Q 210 t + chk Q t) (x5 := 1 - s_ Q 185 (s_ Q 213 t)) (x9 := 2) (x2 := 0) (x1 := s_ Q 211 t) (by simp only [s_S, s_B, s_F, b_S, b_B, b_F, f_S, f_B, Nat.reduceEqDiff, false_and, and_false, true_and, and_true, and_self, if_true, if_false, reduceIte, ite_self]) (by simp only [s_S, s_B, s_F, b_S, b_B, b_F, f_S, f_B, Nat.reduceEqDiff, false_and, and_false, true_and, and_true, and_self, if_true, if_false, reduceIte, ite_self]) (by simp only [s_S, s_B, s_F, b_S, b_B, b_F, f_S, f_B, Nat.reduceEqDiff, false_and, and_false, true_and, and_true, and_self, if_true, if_false, reduceIte, ite_self]) (by simp only [s_S, s_B, s_F, b_S, b_B, b_F, f_S, f_B, Nat.reduceEqDiff, false_and, and_false, true_and, and_true, and_self, if_true, if_false, reduceIte, ite_self]) (by simp only [s_S, s_B, s_F, b_S, b_B, b_F, f_S, f_B, Nat.reduceEqDiff, false_and, and_false, true_and, and_true, and_self, if_true, if_false, reduceIte, ite_self]) (fun h _ => h) (by omega)
          · exact ta_mk (x0 := s_ Q 210 t + chk Q t) (x5 := 1 - s_ Q 185 (s_ Q 213 t)) (x9 := s_ Q 209 t) (x2 := 0) (x1 := 1) (by simp only [s_S, s_B, s_F, b_S, b_B, b_F, f_S, f_B, Nat.reduceEqDiff, false_and, and_false, true_and, and_true, and_self, if_true, if_false, reduceIte, ite_self]) (by simp only [s_S, s_B, s_F, b_S, b_B, b_F, f_S, f_B, Nat.reduceEqDiff, false_and, and_false, true_and, and_true, and_self, if_true, if_false, reduceIte, ite_self]) (by simp only [s_S, s_B, s_F, b_S, b_B, b_F, f_S, f_B, Nat.reduceEqDiff, false_and, and_false, true_and, and_true, and_self, if_true, if_false, reduceIte, ite_self]) (by simp only [s_S, s_B, s_F, b_S, b_B, b_F, f_S, f_B, Nat.reduceEqDiff, false_and, and_false, true_and, and_true, and_self, if_true, if_false, reduceIte, ite_self]) (by simp only [s_S, s_B, s_F, b_S, b_B, b_F, f_S, f_B, Nat.reduceEqDiff, false_and, and_false, true_and, and_true, and_self, if_true, if_false, reduceIte, ite_self]) (fun h _ => h) (by omega)
        · exact ta_mk (x0 := s_ Q 210 t + chk Q t) (x5 := 1 - s_ Q 185 (s_ Q 213 t)) (x9 := s_ Q 209 t) (x2 := 0) (x1 := s_ Q 211 t) (by simp only [s_S, s_B, s_F, b_S, b_B, b_F, f_S, f_B, Nat.reduceEqDiff, false_and, and_false, true_and, and_true, and_self, if_true, if_false, reduceIte, ite_self]) (by simp only [s_S, s_B, s_F, b_S, b_B, b_F, f_S, f_B, Nat.reduceEqDiff, false_and, and_false, true_and, and_true, and_self, if_true, if_false, reduceIte, ite_self]) (by simp only [s_S, s_B, s_F, b_S, b_B, b_F, f_S, f_B, Nat.reduceEqDiff, false_and, and_false, true_and, and_true, and_self, if_true, if_false, reduceIte, ite_self]) (by simp only [s_S, s_B, s_F, b_S, b_B, b_F, f_S, f_B, Nat.reduceEqDiff, false_and, and_false, true_and, and_true, and_self, if_true, if_false, reduceIte, ite_self]) (by simp only [s_S, s_B, s_F, b_S, b_B, b_F, f_S, f_B, Nat.reduceEqDiff, false_and, and_false, true_and, and_true, and_self, if_true, if_false, reduceIte, ite_self]) (fun h _ => h) (by omega)
  · split
    · split
      · exact ta_mk (x0 := s_ Q 210 t) (x5 := s_ Q 185 (s_ Q 213 t)) (x9 := s_ Q 209 t) (x2 := 0) (x1 := 2) (by simp only [s_S, s_B, s_F, b_S, b_B, b_F, f_S, f_B, Nat.reduceEqDiff, false_and, and_false, true_and, and_true, and_self, if_true, if_false, reduceIte, ite_self]) (by simp only [s_S, s_B, s_F, b_S, b_B, b_F, f_S, f_B, Nat.reduceEqDiff, false_and, and_false, true_and, and_true, and_self, if_true, if_false, reduceIte, ite_self]) (by simp only [s_S, s_B, s_F, b_S, b_B, b_F, f_S, f_B, Nat.reduceEqDiff, false_and, and_false, true_and, and_true, and_self, if_true, if_false, reduceIte, ite_self]) (by simp only [s_S, s_B, s_F, b_S, b_B, b_F, f_S, f_B, Nat.reduceEqDiff, false_and, and_false, true_and, and_true, and_self, if_true, if_false, reduceIte, ite_self]) (by simp only [s_S, s_B, s_F, b_S, b_B, b_F, f_S, f_B, Nat.reduceEqDiff, false_and, and_false, true_and, and_true, and_self, if_true, if_false, reduceIte, ite_self]) (fun h _ => h) (by omega)
      · exact ta_mk (x0 := s_ Q 210 t) (x5 := s_ Q 185 (s_ Q 213 t)) (x9 := s_ Q 209 t) (x2 := 0) (x1 := s_ Q 211 t) (by simp only [s_S, s_B, s_F, b_S, b_B, b_F, f_S, f_B, Nat.reduceEqDiff, false_and, and_false, true_and, and_true, and_self, if_true, if_false, reduceIte, ite_self]) (by simp only [s_S, s_B, s_F, b_S, b_B, b_F, f_S, f_B, Nat.reduceEqDiff, false_and, and_false, true_and, and_true, and_self, if_true, if_false, reduceIte, ite_self]) (by simp only [s_S, s_B, s_F, b_S, b_B, b_F, f_S, f_B, Nat.reduceEqDiff, false_and, and_false, true_and, and_true, and_self, if_true, if_false, reduceIte, ite_self]) (by simp only [s_S, s_B, s_F, b_S, b_B, b_F, f_S, f_B, Nat.reduceEqDiff, false_and, and_false, true_and, and_true, and_self, if_true, if_false, reduceIte, ite_self]) (by simp only [s_S, s_B, s_F, b_S, b_B, b_F, f_S, f_B, Nat.reduceEqDiff, false_and, and_false, true_and, and_true, and_self, if_true, if_false, reduceIte, ite_self]) (fun h _ => h) (by omega)
    · exact ta_err hI h1
theorem ta_hearA (hI : TI Q t) (h1 : s_ Q 211 t = 0) : TA r t Q (p_hearA Q t r).1 := by
  obtain ⟨i1, i2, i3, i4, i5⟩ := id hI
  unfold p_hearA
  split
  · exact ta_hearB hI h1
  · rename_i j
    split
    · rename_i ca
      have fl : tkf Q t j ≤ (b_ Q 36 t).length - s_ Q 210 t := by unfold tkf; omega
      have bk : B8 (b_ Q 36 t) → (∀ j', some j = some j' → B8 (b_ Q 7 j')) → B8 (kpl (b_ Q 36 t) (b_ Q 7 j) (s_ Q 210 t) (tkf Q t j)) := fun h k => b8_kpl h (k j rfl)
      have n0 : s_ Q 209 t ≠ 0 := by have := ca.1; unfold asks at this; omega
      unfold p_takeD
      split
      · split
        · exact ta_mk (x0 := s_ Q 210 t) (x5 := s_ Q 185 (s_ Q 213 t)) (x9 := s_ Q 209 t) (x2 := 0) (x1 := 1) (by simp only [s_S, s_B, s_F, b_S, b_B, b_F, f_S, f_B, Nat.reduceEqDiff, false_and, and_false, true_and, and_true, and_self, if_true, if_false, reduceIte, ite_self]) (by simp only [s_S, s_B, s_F, b_S, b_B, b_F, f_S, f_B, Nat.reduceEqDiff, false_and, and_false, true_and, and_true, and_self, if_true, if_false, reduceIte, ite_self]) (by simp only [s_S, s_B, s_F, b_S, b_B, b_F, f_S, f_B, Nat.reduceEqDiff, false_and, and_false, true_and, and_true, and_self, if_true, if_false, reduceIte, ite_self]) (by simp only [s_S, s_B, s_F, b_S, b_B, b_F, f_S, f_B, Nat.reduceEqDiff, false_and, and_false, true_and, and_true, and_self, if_true, if_false, reduceIte, ite_self]) (by simp only [s_S, s_B, s_F, b_S, b_B, b_F, f_S, f_B, Nat.reduceEqDiff, false_and, and_false, true_and, and_true, and_self, if_true, if_false, reduceIte, ite_self]) (fun h _ => h) (by omega)
        · exact ta_err hI h1
      · split
        · exact ta_mk (x0 := s_ Q 210 t) (x5 := s_ Q 185 (s_ Q 213 t)) (x9 := s_ Q 209 t) (x2 := 0) (x1 := s_ Q 211 t) (by simp only [s_S, s_B, s_F, b_S, b_B, b_F, f_S, f_B, Nat.reduceEqDiff, false_and, and_false, true_and, and_true, and_self, if_true, if_false, reduceIte, ite_self]) (by simp only [s_S, s_B, s_F, b_S, b_B, b_F, f_S, f_B, Nat.reduceEqDiff, false_and, and_false, true_and, and_true, and_self, if_true, if_false, reduceIte, ite_self]) (by simp only [s_S, s_B, s_F, b_S, b_B, b_F, f_S, f_B, Nat.reduceEqDiff, false_and, and_false, true_and, and_true, and_self, if_true, if_false, reduceIte, ite_self]) (by simp only [s_S, s_B, s_F, b_S, b_B, b_F, f_S, f_B, Nat.reduceEqDiff, false_and, and_false, true_and, and_true, and_self, if_true, if_false, reduceIte, ite_self]) (by simp only [s_S, s_B, s_F, b_S, b_B, b_F, f_S, f_B, Nat.reduceEqDiff, false_and, and_false, true_and, and_true, and_self, if_true, if_false, reduceIte, ite_self]) (fun h _ => h) (by omega)
        · unfold p_tk1
          split
          · exact ta_mk (x0 := s_ Q 210 t + tkf Q t j) (x5 := 1 - s_ Q 185 (s_ Q 213 t)) (x9 := s_ Q 209 t) (x2 := 0) (x1 := 3) (by simp only [s_S, s_B, s_F, b_S, b_B, b_F, f_S, f_B, Nat.reduceEqDiff, false_and, and_false, true_and, and_true, and_self, if_true, if_false, reduceIte, ite_self]) (by simp only [s_S, s_B, s_F, b_S, b_B, b_F, f_S, f_B, Nat.reduceEqDiff, false_and, and_false, true_and, and_true, and_self, if_true, if_false, reduceIte, ite_self]) (by simp only [s_S, s_B, s_F, b_S, b_B, b_F, f_S, f_B, Nat.reduceEqDiff, false_and, and_false, true_and, and_true, and_self, if_true, if_false, reduceIte, ite_self]) (by simp only [s_S, s_B, s_F, b_S, b_B, b_F, f_S, f_B, Nat.reduceEqDiff, false_and, and_false, true_and, and_true, and_self, if_true, if_false, reduceIte, ite_self]) (by simp only [s_S, s_B, s_F, b_S, b_B, b_F, f_S, f_B, Nat.reduceEqDiff, false_and, and_false, true_and, and_true, and_self, if_true, if_false, reduceIte, ite_self]) (by simp only [s_S, s_B, s_F, b_S, b_B, b_F, f_S, f_B, Nat.reduceEqDiff, false_and, and_false, true_and, and_true, and_self, if_true, if_false, reduceIte, ite_self]; exact bk) (by omega)
          · split
            · unfold p_endD
              simp only [s_S, s_B, s_F, b_S, b_B, b_F, f_S, f_B, Nat.reduceEqDiff, false_and, and_false, true_and, and_true, and_self, if_true, if_false, reduceIte, ite_self]
              split
              · exact ta_mk (x0 := s_ Q 210 t + tkf Q t j) (x5 := 1 - s_ Q 185 (s_ Q 213 t)) (x9 := 2) (x2 := 0) (x1 := s_ Q 211 t) (by simp only [s_S, s_B, s_F, b_S, b_B, b_F, f_S, f_B, Nat.reduceEqDiff, false_and, and_false, true_and, and_true, and_self, if_true, if_false, reduceIte, ite_self]) (by simp only [s_S, s_B, s_F, b_S, b_B, b_F, f_S, f_B, Nat.reduceEqDiff, false_and, and_false, true_and, and_true, and_self, if_true, if_false, reduceIte, ite_self]) (by simp only [s_S, s_B, s_F, b_S, b_B, b_F, f_S, f_B, Nat.reduceEqDiff, false_and, and_false, true_and, and_true, and_self, if_true, if_false, reduceIte, ite_self]) (by simp only [s_S, s_B, s_F, b_S, b_B, b_F, f_S, f_B, Nat.reduceEqDiff, false_and, and_false, true_and, and_true, and_self, if_true, if_false, reduceIte, ite_self]) (by simp only [s_S, s_B, s_F, b_S, b_B, b_F, f_S, f_B, Nat.reduceEqDiff, false_and, and_false, true_and, and_true, and_self, if_true, if_false, reduceIte, ite_self]) (by simp only [s_S, s_B, s_F, b_S, b_B, b_F, f_S, f_B, Nat.reduceEqDiff, false_and, and_false, true_and, and_true, and_self, if_true, if_false, reduceIte, ite_self]; exact bk) (by omega)
              · exact ta_mk (x0 := s_ Q 210 t + tkf Q t j) (x5 := 1 - s_ Q 185 (s_ Q 213 t)) (x9 := s_ Q 209 t) (x2 := 0) (x1 := 1) (by simp only [s_S, s_B, s_F, b_S, b_B, b_F, f_S, f_B, Nat.reduceEqDiff, false_and, and_false, true_and, and_true, and_self, if_true, if_false, reduceIte, ite_self]) (by simp only [s_S, s_B, s_F, b_S, b_B, b_F, f_S, f_B, Nat.reduceEqDiff, false_and, and_false, true_and, and_true, and_self, if_true, if_false, reduceIte, ite_self]) (by simp only [s_S, s_B, s_F, b_S, b_B, b_F, f_S, f_B, Nat.reduceEqDiff, false_and, and_false, true_and, and_true, and_self, if_true, if_false, reduceIte, ite_self]) (by simp only [s_S, s_B, s_F, b_S, b_B, b_F, f_S, f_B, Nat.reduceEqDiff, false_and, and_false, true_and, and_true, and_self, if_true, if_false, reduceIte, ite_self]) (by simp only [s_S, s_B, s_F, b_S, b_B, b_F, f_S, f_B, Nat.reduceEqDiff, false_and, and_false, true_and, and_true, and_self, if_true, if_false, reduceIte, ite_self]) (by simp only [s_S, s_B, s_F, b_S, b_B, b_F, f_S, f_B, Nat.reduceEqDiff, false_and, and_false, true_and, and_true, and_self, if_true, if_false, reduceIte, ite_self]; exact bk) (by omega)
            · exact ta_mk (x0 := s_ Q 210 t + tkf Q t j) (x5 := 1 - s_ Q 185 (s_ Q 213 t)) (x9 := s_ Q 209 t) (x2 := 0) (x1 := s_ Q 211 t) (by simp only [s_S, s_B, s_F, b_S, b_B, b_F, f_S, f_B, Nat.reduceEqDiff, false_and, and_false, true_and, and_true, and_self, if_true, if_false, reduceIte, ite_self]) (by simp only [s_S, s_B, s_F, b_S, b_B, b_F, f_S, f_B, Nat.reduceEqDiff, false_and, and_false, true_and, and_true, and_self, if_true, if_false, reduceIte, ite_self]) (by simp only [s_S, s_B, s_F, b_S, b_B, b_F, f_S, f_B, Nat.reduceEqDiff, false_and, and_false, true_and, and_true, and_self, if_true, if_false, reduceIte, ite_self]) (by simp only [s_S, s_B, s_F, b_S, b_B, b_F, f_S, f_B, Nat.reduceEqDiff, false_and, and_false, true_and, and_true, and_self, if_true, if_false, reduceIte, ite_self]) (by simp only [s_S, s_B, s_F, b_S, b_B, b_F, f_S, f_B, Nat.reduceEqDiff, false_and, and_false, true_and, and_true, and_self, if_true, if_false, reduceIte, ite_self]) (by simp only [s_S, s_B, s_F, b_S, b_B, b_F, f_S, f_B, Nat.reduceEqDiff, false_and, and_false, true_and, and_true, and_self, if_true, if_false, reduceIte, ite_self]; exact bk) (by omega)
    · exact ta_hearB hI h1
/-- behind the transaction, all but the end of the transfer -/
def Yv (P : pP) (t : Nat) : pP := sv8 (sv7 P t)
theorem sx6_s {f i : Nat} (hf : f ≠ 186) : s_ (sv6 Q t r) f i = s_ Q f i := by
  unfold sv6
  split
  · rfl
  · split
    · exact s_n hf
    · rfl
theorem sx6_b {c i : Nat} : b_ (sv6 Q t r) c i = b_ Q c i := by
  unfold sv6
  split
  · rfl
  · split <;> rfl
theorem sv6_i {f i : Nat} (hi : i ≠ s_ Q 213 t) : s_ (sv6 Q t r) f i = s_ Q f i := by
  unfold sv6
  split
  · rfl
  · split
    · rw [s_S, if_neg (fun q => hi q.2)]
    · rfl
theorem sv6_186 (h : s_ Q 186 (s_ Q 213 t) ≤ s_ Q 126 0 + 1) : s_ (sv6 Q t r) 186 (s_ Q 213 t) ≤ s_ Q 126 0 + 1 := by
  unfold sv6
  split
  · exact h
  · split
    · rw [s_S, if_pos ⟨rfl, rfl⟩]; exact Nat.le_refl _
    · exact h
theorem ti_sv6 (h : TI Q t) : TI (sv6 Q t r) t := by
  unfold TI at *
  rw [sx6_s (by decide), sx6_s (by decide), sx6_s (by decide), sx6_s (by decide), sx6_s (by decide), sx6_s (by decide), sx6_b]
  exact h
theorem ex_sv6 (hx : EX Q) (ht : t < s_ Q 122 0) (h126 : s_ Q 126 0 + 1 < 2 ^ 31) : EX (sv6 Q t r) := by
  unfold sv6
  split
  · exact hx
  · split
    · exact ex_9 hx ht h126 rfl
    · exact hx
theorem sts_fho (h : FHo P P') : STs P P' := sts_so (fun d _ => fho_so h d)
theorem fho_sv6 : FHo Q (sv6 Q t r) := by
  unfold sv6
  split
  · exact fho_rf
  · split
    · exact fho_S fho_rf (by decide)
    · exact fho_rf
theorem fh_sx5 (h6 : ∀ d, d < 6 → s_ P 86 d ≤ 6) : Fh P (sv5 (sv3 P t)).1 := by
  have k3 := (fh_sv3 (t := t) h6).2
  have h63 : ∀ d, d < 6 → s_ (sv3 P t) 86 d ≤ 6 := fun d hd => by rw [k3.2.2 d]; exact h6 d hd
  refine fh_tr k3 ?_
  unfold sv5
  split
  · refine fh_tr (fh_hasAns fh_rf) (fh_carry fh_rf (fun d hd => ?_))
    rw [(fh_hasAns (P := sv3 P t) fh_rf).2.2 d]; exact h63 d hd
  · exact fh_hasAns fh_rf
/-- all that is known of the host behind the transaction -/
def YH (t : Nat) (P Y : pP) : Prop := (∀ f j, hoF f → ¬ (209 ≤ f ∧ f ≤ 212 ∧ j = t) → ¬ ((f = 185 ∨ f = 186) ∧ j = s_ P 213 t) → s_ Y f j = s_ P f j) ∧ (∀ c j, hostB c j → ¬ (c = 36 ∧ j = t) → b_ Y c j = b_ P c j) ∧ STs P Y ∧ (b_ Y 36 t).length = (b_ P 36 t).length ∧ (s_ Y 210 t ≤ (b_ P 36 t).length ∧ s_ Y 185 (s_ P 213 t) ≤ 1 ∧ s_ Y 209 t ≤ 2 ∧ s_ Y 212 t ≤ 3 ∧ s_ Y 211 t ≤ 3 ∧ (s_ Y 211 t = 0 → s_ Y 212 t < 3) ∧ (s_ P 180 (s_ P 213 t) ≠ 0 → s_ P 209 t = 1 → s_ Y 209 t = 1) ∧ (s_ Y 209 t = 0 → s_ P 209 t = 0 ∧ s_ Y 210 t = s_ P 210 t) ∧ ((b_ P 36 t).length = 0 → s_ P 209 t ≠ 1 → s_ Y 209 t ≠ 1) ∧ B8 (b_ Y 36 t)) ∧ (s_ P 186 (s_ P 213 t) ≤ s_ P 126 0 + 1 → s_ Y 186 (s_ P 213 t) ≤ s_ P 126 0 + 1)
/-- the answer was worked in -/
theorem yv7 (hW : WX P) (hT : XT P t) (hS : s_ P 228 0 + 4 < 2 ^ 31) (h126 : s_ P 126 0 + 1 < 2 ^ 31) (h1 : s_ P 211 t = 0) : WX (sv7 P t).1 ∧ s_ (sv7 P t).1 228 0 + 1 < 2 ^ 31 ∧ (∀ j, (sv5 (sv3 P t)).2 = some j → j < 60 ∧ s_ (sv5 (sv3 P t)).1 141 j < 16) ∧ FHo (sv5 (sv3 P t)).1 (sv7 P t).1 ∧ YH t P (sv7 P t).1 := by
  obtain ⟨-, w2, -, w3, -, w5, x5⟩ := exch hW hT hS
  have h6 : ∀ d, d < 6 → s_ P 86 d ≤ 6 := fun d hd => ex_86 hW.1.1 hd
  have k5 := fh_sx5 (t := t) h6
  have b3 := sv3_228 (t := t) h6
  have b5 := sv5_228 (P := sv3 P t) (fun d hd => ex_86 w3.1.1 hd)
  have st5 := sts_sv5 hW hT hS
  obtain ⟨hI, hw, hB, ht, hn, hsa⟩ := id hT
  have kb : ∀ j, (sv5 (sv3 P t)).2 = some j → j < 60 ∧ s_ (sv5 (sv3 P t)).1 141 j < 16 ∧ B8 (b_ (sv5 (sv3 P t)).1 7 j) := fun j e => by
    obtain ⟨q1, q2⟩ := x5 j e
    have := (w5.2.1 j q1 q2).1
    exact ⟨q1, this.1, this.2.2⟩
  unfold sv7
  generalize (sv5 (sv3 P t)).1 = Q at *
  generalize (sv5 (sv3 P t)).2 = r at *
  have hIQ := TI_fh hI k5
  have htQ : t < s_ Q 122 0 := by rw [fh_s k5 (by decide)]; exact ht
  have h126Q : s_ Q 126 0 + 1 < 2 ^ 31 := by rw [fh_s k5 (by decide)]; exact h126
  have e6 : ∀ f i, f ≠ 186 → hoF f → s_ (sv6 Q t r) f i = s_ P f i := fun f i h1 h2 => by rw [sx6_s h1, fh_s k5 h2]
  have e13 : s_ (sv6 Q t r) 213 t = s_ P 213 t := e6 213 t (by decide) (by decide)
  have x6 := ex_sv6 (r := r) w5.1.1 htQ h126Q
  have ht6 : t < s_ (sv6 Q t r) 122 0 := by rw [e6 122 0 (by decide) (by decide)]; exact ht
  have hI6 : TI (sv6 Q t r) t := ti_sv6 hIQ
  have w6 : WX (sv6 Q t r) := wx_ho w5 x6 fho_sv6
  have xA : EX (p_hearA (sv6 Q t r) t r).1 := ex_hearA x6 ht6 hI6 (fun j e => ⟨by have := (kb j e).1; omega, by rw [sx6_s (by decide)]; exact (kb j e).2.1⟩)
  have fA : FHo (sv6 Q t r) (p_hearA (sv6 Q t r) t r).1 := fho_hearA
  have wA := wx_ho w6 xA fA
  have fQA : FHo Q (p_hearA (sv6 Q t r) t r).1 := fho_tr fho_sv6 fA
  have hf := hf_hearA (r := r) hI6
  have ta := ta_hearA (r := r) hI6 (by rw [e6 211 t (by decide) (by decide)]; exact h1)
  have e36 : b_ (sv6 Q t r) 36 t = b_ P 36 t := by rw [sx6_b]; exact fh_36 k5
  generalize (p_hearA (sv6 Q t r) t r).1 = A at *
  refine ⟨wA, ?_, fun j e => ⟨(kb j e).1, (kb j e).2.1⟩, fQA, fun f j h1 n1 n2 => ?_, fun c j hc n => ?_, sts_tr st5 (sts_fho fQA), ?_, ?_, fun h186 => ?_⟩
  · rw [fQA.1 228 0 (by omega)]; omega
  · by_cases q : f = 186
    · subst q
      rw [hf.1 _ _ n1 (by omega), sv6_i (by rw [fh_s k5 (by decide)]; omega), fh_s k5 (by decide)]
    · rw [hf.1 _ _ n1 (by rw [e13]; omega), e6 f j q h1]
  · rw [hf.2.1 c j n, sx6_b]; exact k5.2.1 c j hc
  · rw [hf.2.2.2, e36]
  · obtain ⟨a1, a2, a3, a4, a5, a6, a7, a8, a9, a10⟩ := ta
    rw [e36] at a1 a9 a10
    rw [e13] at a2 a7
    rw [e6 180 _ (by decide) (by decide), e6 209 t (by decide) (by decide)] at a7
    rw [e6 209 t (by decide) (by decide), e6 210 t (by decide) (by decide)] at a8
    rw [e6 209 t (by decide) (by decide)] at a9
    exact ⟨a1, a2, a3, a4, a5, a6, a7, a8, a9, a10 hB (fun j e => by rw [sx6_b]; exact (kb j e).2.2)⟩
  · rw [hf.1 _ _ (by omega) (by omega)]
    have e213 : s_ Q 213 t = s_ P 213 t := fh_s k5 (by decide)
    have := sv6_186 (Q := Q) (t := t) (r := r)
    rw [e213, fh_s k5 (by decide), fh_s k5 (by decide)] at this
    exact this h186
theorem sts_fh8 {X : pP} (w : WX X) : STs X (p_carry (p_rst X (nk X) 0 2)).1 := by
  have ep : p_rst X (nk X) 0 2 = prD X 2 [] := prD_ack.symm
  rw [ep]
  exact sts_tr (sts_so (fun d _ => prD_so d)) (sts_carry (fun d hd => by rw [prD_s (by omega)]; exact ex_86 w.1.1 hd))
theorem wx_8 {X : pP} (w : WX X) (hS : s_ X 228 0 + 1 < 2 ^ 31) : CK (p_rst X (nk X) 0 2) ∧ WX (p_carry (p_rst X (nk X) 0 2)).1 ∧ Fh X (p_carry (p_rst X (nk X) 0 2)).1 := by
  have ep : p_rst X (nk X) 0 2 = prD X 2 [] := prD_ack.symm
  rw [ep]
  have wd : WX (prD X 2 []) := wx_prD w (Or.inr (Or.inr rfl)) b8_nil (Nat.zero_le _) (fun d _ _ _ q => absurd q (by decide))
  have rd : Rdy (prD X 2 []) (nk X) 0 := rdy_prD (Or.inr (Or.inr rfl)) b8_nil (fun d _ _ _ q => absurd q (by decide))
  have s8 : s_ (prD X 2 []) 228 0 = s_ X 228 0 := prD_s (by omega)
  exact ⟨ck_rdy wd (by omega) rd, wx_carry wd (by omega) rd, fh_tr fh_prD (fh_carry fh_rf (fun d hd => ex_86 wd.1.1 hd))⟩
theorem yv (hW : WX P) (hT : XT P t) (hS : s_ P 228 0 + 4 < 2 ^ 31) (h126 : s_ P 126 0 + 1 < 2 ^ 31) (h1 : s_ P 211 t = 0) : WX (Yv P t) ∧ ((sv7 P t).2 = true → CK (p_rst (sv7 P t).1 (nk (sv7 P t).1) 0 2)) ∧ YH t P (Yv P t) ∧ Fh (sv7 P t).1 (Yv P t) := by
  obtain ⟨w7, s7, -, -, y7⟩ := yv7 hW hT hS h126 h1
  obtain ⟨c8, w8, f8⟩ := wx_8 w7 s7
  have st8 := sts_fh8 w7
  unfold Yv sv8
  by_cases q : (sv7 P t).2 = true
  · rw [if_pos q]
    refine ⟨w8, fun _ => c8, ?_, f8⟩
    generalize (sv7 P t).1 = A at *
    generalize (p_carry (p_rst A (nk A) 0 2)).1 = Y at *
    obtain ⟨g1, g2, g3, g4, g5, g6⟩ := y7
    unfold YH
    have e : ∀ f i, hoF f → s_ Y f i = s_ A f i := fun f i hf => fh_s f8 hf
    rw [fh_36 f8, e 210 t (by decide), e 185 _ (by decide), e 209 t (by decide), e 212 t (by decide), e 211 t (by decide), e 186 _ (by decide)]
    exact ⟨fun f j hf n1 n2 => by rw [e f j hf]; exact g1 f j hf n1 n2, fun c j hc n => (f8.2.1 c j hc).trans (g2 c j hc n), sts_tr g3 st8, g4, g5, g6⟩
  · rw [if_neg q]
    exact ⟨w7, fun c => absurd c q, y7, fh_rf⟩
/-- a device that the transaction does not mean -/
theorem yv_quiet (hW : WX P) (hT : XT P t) (hS : s_ P 228 0 + 4 < 2 ^ 31) (h126 : s_ P 126 0 + 1 < 2 ^ 31) (h1 : s_ P 211 t = 0) (hd : d < 6) (hq : s_ P 83 d = 0 ∨ s_ P 84 d ≠ tNum P t % 128) : ZSa d P (Yv P t) := by
  obtain ⟨w7, s7, -, f7, -⟩ := yv7 hW hT hS h126 h1
  obtain ⟨z5, n5, -, -⟩ := exch_quiet hW hT hS hd hq
  have z7 : ZSa d P (sv7 P t).1 := zs_tr z5 (zs_so (fho_so f7 d))
  unfold Yv sv8
  split
  · refine zs_tr z7 ?_
    have ep : ∀ X : pP, p_rst X (nk X) 0 2 = prD X 2 [] := fun X => prD_ack.symm
    rw [ep]
    by_cases h83 : s_ P 83 d = 0
    · refine zs_tr (zs_so (prD_so d)) (zs_so (carry_gone (fun d hd => by rw [prD_s (by omega)]; exact ex_86 w7.1.1 hd) hd ?_))
      rw [prD_s (by omega), z7.1 83 (by decide)]; exact h83
    · have so := prD_so (P := (sv7 P t).1) (k := 2) (l := []) d
      refine zs_tr (zs_so so) (carry_quiet (fun d hd => by rw [prD_s (by omega)]; exact ex_86 w7.1.1 hd) hd (by rw [nk_prD, prD_140]; omega) (by rw [nk_prD, prD_141]; omega) (Or.inl ?_) ?_).1
      · rw [so_s so (by decide), f7.1 89 d (by omega)]; exact n5 h83
      · rw [so_s so (by decide), z7.1 83 (by decide)]; exact h83
  · exact z7
theorem yv_mn (hW : WX P) (hT : XT P t) (hS : s_ P 228 0 + 4 < 2 ^ 31) (h126 : s_ P 126 0 + 1 < 2 ^ 31) (h1 : s_ P 211 t = 0) (hd : d < 6) (h : MN d P) (h84 : s_ P 84 d = tNum P t % 128) (hl : ¬ asks P t → lwh (fillB P t) ≠ 5) : MN d (Yv P t) := by
  obtain ⟨w7, s7, -, f7, -⟩ := yv7 hW hT hS h126 h1
  have m7 : MN d (sv7 P t).1 := mn_so (exch_mn hW hT hS hd h h84 hl) (fho_so f7 d)
  unfold Yv sv8
  split
  · exact ack_mn (fun d hd => ex_86 w7.1.1 hd) hd m7
  · exact m7
/-- step 2: the address is taken with the last ACK -/
theorem yv_m1 (hW : WX P) (hT : XT P t) (hS : s_ P 228 0 + 4 < 2 ^ 31) (h126 : s_ P 126 0 + 1 < 2 ^ 31) (h1 : s_ P 211 t = 0) (hd : d < 6) (h : s_ P 83 d = 1) (h84 : s_ P 84 d = tNum P t % 128) (h9 : s_ P 209 t ≠ 1) (hy : s_ (Yv P t) 211 t = 0) : s_ (Yv P t) 83 d = 1 := by
  obtain ⟨w7, s7, -, f7, -⟩ := yv7 hW hT hS h126 h1
  obtain ⟨-, -, -, fy⟩ := yv hW hT hS h126 h1
  have h6 : ∀ d, d < 6 → s_ P 86 d ≤ 6 := fun d hd => ex_86 hW.1.1 hd
  have k5 := fh_sx5 (t := t) h6
  rw [fh_s fy (by decide)] at hy
  have m7 : s_ (sv7 P t).1 83 d = 1 := by rw [f7.1 83 d (by omega)]; exact exch_m1 hW hT hS hd h h84
  unfold Yv sv8
  by_cases q : (sv7 P t).2 = true
  · exfalso
    have e9 : s_ (sv6 (sv5 (sv3 P t)).1 t (sv5 (sv3 P t)).2) 209 t = s_ P 209 t := by rw [sx6_s (by decide), fh_s k5 (by decide)]
    unfold sv7 p_hearA at q hy
    generalize sv6 (sv5 (sv3 P t)).1 t (sv5 (sv3 P t)).2 = Q at *
    cases hr : (sv5 (sv3 P t)).2 with
    | none => rw [hr] at q; cases q
    | some j =>
      rw [hr] at q hy
      dsimp only at q hy
      by_cases ca : asks Q t ∧ isDat (s_ Q 141 j)
      · rw [if_pos ca] at q hy
        have c2 : s_ Q 209 t = 2 := by have := ca.1; unfold asks at this; omega
        unfold p_takeD at q hy
        rw [if_pos c2] at q hy
        by_cases cc : s_ Q 141 j = 11 ∧ (b_ Q 7 j).length = 0
        · rw [if_pos cc] at hy
          revert hy; simp only [s_S, s_B, s_F, b_S, b_B, b_F, f_S, f_B, Nat.reduceEqDiff, false_and, and_false, true_and, and_true, and_self, if_true, if_false, reduceIte, ite_self]; intro hy; omega
        · rw [if_neg cc] at q; cases q
      · rw [if_neg ca] at q; cases q
  · rw [if_neg q]; exact m7
end HQ
