/-! The rows of a configuration become pipes. -/
section HV_p
variable {P P' Q X : pP} {d k t : Nat}
theorem rows_gd : ∀ n m j, m < n → j < 7 → (p_rows P d n).getD (7 * m + j) 0 = (p_row P (6 * d + m)).getD j 0
  | 0, m, _, h, _ => absurd h (Nat.not_lt_zero _)
  | n + 1, m, j, h, hj => by
    show (p_rows P d n ++ p_row P (6 * d + n)).getD (7 * m + j) 0 = _
    rw [List.getD_eq_getElem?_getD, List.getD_eq_getElem?_getD]
    by_cases q : m = n
    · subst q
      rw [List.getElem?_append_right (by rw [rows_len]; omega), rows_len, show 7 * m + j - 7 * m = j by omega]
    · rw [List.getElem?_append_left (by rw [rows_len]; omega), ← List.getD_eq_getElem?_getD, rows_gd n m j (by omega) hj, List.getD_eq_getElem?_getD]
theorem conf_gd {m j : Nat} (hm : m < s_ P 86 d) (hj : j < 7) : (p_conf P d).getD (18 + 7 * m + j) 0 = (p_row P (6 * d + m)).getD j 0 := by
  unfold p_conf
  rw [List.getD_eq_getElem?_getD, List.getElem?_append_right (by show 18 ≤ _; omega), show (p_head (s_ P 86 d)).length = 18 from rfl, show 18 + 7 * m + j - 18 = 7 * m + j by omega, ← List.getD_eq_getElem?_getD]
  exact rows_gd _ m j hm hj
/-- a row of the configuration that was read -/
theorem cfg_row {m j : Nat} (h : CFG P d) (hm : 18 + 7 * m + 7 ≤ (b_ P 36 (s_ P 165 d - 1)).length) (hj : j < 7) : m < s_ P 86 d ∧ (b_ P 36 (s_ P 165 d - 1)).getD (18 + 7 * m + j) 0 = (p_row P (6 * d + m)).getD j 0 := by
  obtain ⟨c1, c2, c3, c4, c5, c6, c7⟩ := h
  rw [conf_len] at c6
  have hm' : m < s_ P 86 d := by omega
  refine ⟨hm', ?_⟩
  rw [c7, ← conf_gd hm' hj, List.getD_eq_getElem?_getD, List.getElem?_take_of_lt (by omega), ← List.getD_eq_getElem?_getD]
/-- one pipe more -/
theorem opl_S {m n : Nat} (h : CFG P d) (hz : s_ P 165 d ≠ 0) (hm : s_ P 164 d = m) (h6 : m < 6) : p_opL P d (s_ P 165 d - 1) (18 + 7 * m) (n + 1) = if (b_ P 36 (s_ P 165 d - 1)).length < 18 + 7 * m + 7 then P else p_opL (p_mkP P d (s_ P 100 (6 * d + m)) (if s_ P 102 (6 * d + m) = 0 then 1 else 0) (s_ P 101 (6 * d + m)) (s_ P 102 (6 * d + m))) d (s_ P 165 d - 1) (18 + 7 * (m + 1)) n := by
  rw [show p_opL P d (s_ P 165 d - 1) (18 + 7 * m) (n + 1) = if s_ P 210 (s_ P 165 d - 1) < 18 + 7 * m + 7 ∨ 6 ≤ s_ P 164 d then P else if (b_ P 36 (s_ P 165 d - 1)).getD (18 + 7 * m) 0 = 7 ∧ (b_ P 36 (s_ P 165 d - 1)).getD (18 + 7 * m + 1) 0 = 5 then p_opL (p_mkP P d ((b_ P 36 (s_ P 165 d - 1)).getD (18 + 7 * m + 2) 0) (if (b_ P 36 (s_ P 165 d - 1)).getD (18 + 7 * m + 3) 0 = 2 then 1 else 0) ((b_ P 36 (s_ P 165 d - 1)).getD (18 + 7 * m + 4) 0) ((b_ P 36 (s_ P 165 d - 1)).getD (18 + 7 * m + 6) 0)) d (s_ P 165 d - 1) (18 + 7 * m + 7) n else p_opL P d (s_ P 165 d - 1) (18 + 7 * m + 7) n from rfl]
  have e210 := h.2.2.1
  by_cases q : (b_ P 36 (s_ P 165 d - 1)).length < 18 + 7 * m + 7
  · rw [if_pos (Or.inl (by omega)), if_pos q]
  · have r0 := (cfg_row h (m := m) (j := 0) (by omega) (by decide)).2
    have r1 := (cfg_row h (m := m) (j := 1) (by omega) (by decide)).2
    have r2 := (cfg_row h (m := m) (j := 2) (by omega) (by decide)).2
    have r3 := (cfg_row h (m := m) (j := 3) (by omega) (by decide)).2
    have r4 := (cfg_row h (m := m) (j := 4) (by omega) (by decide)).2
    have r6 := (cfg_row h (m := m) (j := 6) (by omega) (by decide)).2
    rw [if_neg (by omega), if_neg q, if_pos ⟨r0, r1⟩, r2, r3, r4, r6]
    have e3r : (p_row P (6 * d + m)).getD 3 0 = if s_ P 102 (6 * d + m) = 0 then 2 else 3 := rfl
    have e3 : (if (p_row P (6 * d + m)).getD 3 0 = 2 then 1 else 0) = if s_ P 102 (6 * d + m) = 0 then 1 else 0 := by
      by_cases c : s_ P 102 (6 * d + m) = 0
      · rw [e3r, if_pos c, if_pos c, if_pos rfl]
      · rw [e3r, if_neg c, if_neg c, if_neg (by decide)]
    rw [e3]
    rfl
theorem mkP_n {a bk sz iv f j : Nat} (n1 : ¬ (180 ≤ f ∧ f ≤ 187 ∧ j = s_ P 130 0)) (n2 : ¬ (f = 166 ∧ j = 10 * d + s_ P 164 d)) (n3 : ¬ (f = 164 ∧ j = d)) (n4 : f ≠ 130) : s_ (p_mkP P d a bk sz iv) f j = s_ P f j := by
  unfold p_mkP p_mkPf
  rw [s_n n4, s_S, if_neg n3, s_S, if_neg n2, s_S, if_neg (by omega), s_S, if_neg (by omega), s_S, if_neg (by omega), s_S, if_neg (by omega), s_S, if_neg (by omega), s_S, if_neg (by omega), s_S, if_neg (by omega), s_S, if_neg (by omega)]
/-- what the loop over the rows needs -/
def OL (P : pP) (d m : Nat) : Prop := INV P ∧ (∀ d, d < 6 → s_ P 86 d ≤ 6) ∧ d < 6 ∧ s_ P 164 d = m ∧ m ≤ 6 ∧ s_ P 165 d ≠ 0 ∧ s_ P 160 d ≠ 1 ∧ s_ P 161 d ≠ 0 ∧ s_ P 83 d ≠ 0 ∧ s_ P 130 0 + 6 * s_ P 123 0 + (6 - m) ≤ 1 + 6 * s_ P 122 0
theorem ol_cfg {m : Nat} (h : OL P d m) : CFG P d := (h.1.2.2.2.2.2.2.2.2.1 d h.2.2.1).2.2.2.2.2.2.2.1 h.2.2.2.2.2.1
theorem ol_S {m : Nat} (h : OL P d m) (hq : ¬ (b_ P 36 (s_ P 165 d - 1)).length < 18 + 7 * m + 7) : m < 6 ∧ m < s_ P 86 d ∧ OL (p_mkP P d (s_ P 100 (6 * d + m)) (if s_ P 102 (6 * d + m) = 0 then 1 else 0) (s_ P 101 (6 * d + m)) (s_ P 102 (6 * d + m))) d (m + 1) := by
  have cf := ol_cfg h
  obtain ⟨h1, h2, h3, h4, h5, h6, h7, h8, h9, h10⟩ := h
  have lt := (cfg_row cf (m := m) (j := 0) (by omega) (by decide)).1
  have b6 := h2 d h3
  refine ⟨by omega, lt, ?_⟩
  subst h4
  refine ⟨inv_mkP h1 h3 h2 lt h9 h7 h8 (by omega) rfl rfl rfl rfl, fun d' hd' => by rw [mkP_n (by omega) (by omega) (by omega) (by omega)]; exact h2 d' hd', h3, by unfold p_mkP; simp only [s_S, s_B, s_F, b_S, b_B, b_F, f_S, f_B, Nat.reduceEqDiff, false_and, and_false, true_and, and_true, and_self, if_true, if_false, reduceIte, ite_self], by omega, ?_, ?_, ?_, ?_, ?_⟩
  · rw [mkP_n (by omega) (by omega) (by omega) (by omega)]; exact h6
  · rw [mkP_n (by omega) (by omega) (by omega) (by omega)]; exact h7
  · rw [mkP_n (by omega) (by omega) (by omega) (by omega)]; exact h8
  · rw [mkP_n (by omega) (by omega) (by omega) (by omega)]; exact h9
  · have e130 : s_ (p_mkP P d (s_ P 100 (6 * d + s_ P 164 d)) (if s_ P 102 (6 * d + s_ P 164 d) = 0 then 1 else 0) (s_ P 101 (6 * d + s_ P 164 d)) (s_ P 102 (6 * d + s_ P 164 d))) 130 0 = s_ P 130 0 + 1 := by unfold p_mkP; simp only [s_S, s_B, s_F, b_S, b_B, b_F, f_S, f_B, Nat.reduceEqDiff, false_and, and_false, true_and, and_true, and_self, if_true, if_false, reduceIte, ite_self]
    rw [e130, mkP_n (by omega) (by omega) (by omega) (by omega), mkP_n (by omega) (by omega) (by omega) (by omega)]
    omega
theorem opl_6 {c i : Nat} (h : 6 ≤ s_ P 164 d) : ∀ n, p_opL P d c i n = P
  | 0 => rfl
  | n + 1 => by
    rw [show p_opL P d c i (n + 1) = if s_ P 210 c < i + 7 ∨ 6 ≤ s_ P 164 d then P else _ from rfl, if_pos (Or.inr h)]
theorem inv_opL : ∀ (n m : Nat) (P : pP), OL P d m → INV (p_opL P d (s_ P 165 d - 1) (18 + 7 * m) n)
  | 0, m, P, h => h.1
  | n + 1, m, P, h => by
    by_cases q6 : m = 6
    · rw [opl_6 (by rw [h.2.2.2.1]; omega)]; exact h.1
    · have := h.2.2.2.2.1
      rw [opl_S (ol_cfg h) h.2.2.2.2.2.1 h.2.2.2.1 (by omega)]
      by_cases q : (b_ P 36 (s_ P 165 d - 1)).length < 18 + 7 * m + 7
      · rw [if_pos q]; exact h.1
      · rw [if_neg q]
        obtain ⟨o1, o2, o3⟩ := ol_S h q
        have e165 : s_ (p_mkP P d (s_ P 100 (6 * d + m)) (if s_ P 102 (6 * d + m) = 0 then 1 else 0) (s_ P 101 (6 * d + m)) (s_ P 102 (6 * d + m))) 165 d = s_ P 165 d := mkP_n (by omega) (by omega) (by omega) (by omega)
        have := inv_opL n (m + 1) _ o3
        rw [e165] at this
        exact this
end HV_p
