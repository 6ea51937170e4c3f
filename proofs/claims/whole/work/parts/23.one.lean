/-! A packet with one level changed is not read -/
theorem pu_P_len {l l' : List Bool} (h : pu_P l l') : l'.length = l.length := by
  obtain ⟨p, x, y, s, rfl, rfl, hxy⟩ := h
  rcases hxy with ⟨a, b, rfl, rfl⟩ | ⟨rfl, rfl⟩ | ⟨rfl, rfl⟩ | ⟨rfl, a, rfl, rfl⟩ <;> simp
/-- the first bits: 0 0 0 0 0 0 0 1, four bits, their complements -/
def pk_hd (l : List Bool) : Prop := 16 ≤ l.length ∧ (∀ i, i < 8 → l.getD i false = decide (i = 7)) ∧ ∀ i, i < 4 → l.getD (12 + i) false = !l.getD (8 + i) false
theorem gd_r {p q : List Bool} {i : Nat} (h : p.length ≤ i) : (p ++ q).getD i false = q.getD (i - p.length) false := by
  rw [List.getD_eq_getElem?_getD, List.getD_eq_getElem?_getD, List.getElem?_append_right h]
theorem gd_l {p q : List Bool} {i : Nat} (h : i < p.length) : (p ++ q).getD i false = p.getD i false := by
  rw [List.getD_eq_getElem?_getD, List.getD_eq_getElem?_getD, List.getElem?_append_left h]
theorem pk_one {l l' : List Bool} (hD : pu_D l l') (h8 : l.length % 8 = 0) (h8' : l'.length % 8 = 0) (hs : pk_hd l) (hs' : pk_hd l') : ∃ h b b', l = h ++ b ∧ l' = h ++ b' ∧ h.length = 16 ∧ pu_P b b' := by
  rcases hD with h | h | h
  · omega
  · omega
  · obtain ⟨p, x, y, s, e1, e2, hxy⟩ := h
    have f0 : y.getD 0 false = !x.getD 0 false ∧ 0 < x.length ∧ x.length = y.length ∧ (y ++ s).getD 4 false = (x ++ s).getD 4 false := by
      rcases hxy with ⟨a, b, rfl, rfl⟩ | ⟨rfl, rfl⟩ | ⟨rfl, rfl⟩ | ⟨rfl, a, rfl, rfl⟩
      · exact ⟨rfl, by simp, rfl, by rw [gd_r (by simp), gd_r (by simp)]; rfl⟩
      · exact ⟨rfl, by decide, rfl, rfl⟩
      · exact ⟨rfl, by decide, rfl, rfl⟩
      · exact ⟨rfl, by simp, rfl, rfl⟩
    obtain ⟨f1, f2, f3, f4⟩ := f0
    have g1 : ∀ i, i < p.length → l'.getD i false = l.getD i false := fun i hi => by rw [e1, e2, gd_l hi, gd_l hi]
    have g2 : l'.getD p.length false = !l.getD p.length false := by
      rw [e1, e2, gd_r (p := p) (Nat.le_refl _), gd_r (p := p) (Nat.le_refl _), Nat.sub_self, gd_l f2, gd_l (by omega)]
      exact f1
    have g3 : l'.getD (p.length + 4) false = l.getD (p.length + 4) false := by
      rw [e1, e2, gd_r (p := p) (by omega), gd_r (p := p) (by omega), Nat.add_sub_cancel_left]
      exact f4
    by_cases hp : p.length < 16
    · exfalso
      by_cases h1 : p.length < 8
      · have a := hs.2.1 _ h1
        have b := hs'.2.1 _ h1
        rw [g2, a] at b
        revert b
        cases decide (p.length = 7) <;> simp
      · by_cases h2 : p.length < 12
        · have a := hs.2.2 (p.length - 8) (by omega)
          have b := hs'.2.2 (p.length - 8) (by omega)
          rw [show 12 + (p.length - 8) = p.length + 4 by omega, show 8 + (p.length - 8) = p.length by omega] at a b
          rw [g3, g2, a] at b
          revert b
          cases l.getD p.length false <;> simp
        · have a := hs.2.2 (p.length - 12) (by omega)
          have b := hs'.2.2 (p.length - 12) (by omega)
          rw [show 12 + (p.length - 12) = p.length by omega] at a b
          rw [g2, g1 _ (by omega), a] at b
          revert b
          cases l.getD (8 + (p.length - 12)) false <;> simp
    · refine ⟨p.take 16, p.drop 16 ++ (x ++ s), p.drop 16 ++ (y ++ s), ?_, ?_, by rw [List.length_take]; omega, p.drop 16, x, y, s, rfl, rfl, hxy⟩
      · rw [e1, ← List.append_assoc (p.take 16), List.take_append_drop]
      · rw [e2, ← List.append_assoc (p.take 16), List.take_append_drop]
/-- with a CHECK of w bits behind the first sixteen bits -/
def pk_ck (w P : Nat) (l : List Bool) : Prop := ∃ d : List Bool, l = d ++ (cr_b (cr_F w P (2 ^ w - 1) d) w).map (fun b => !b)
theorem pk_never {w P : Nat} (hok : cr_ok w P) {b b' : List Bool} (hp : pu_P b b') (h : pk_ck w P b) (h' : pk_ck w P b') : False := by
  obtain ⟨d, rfl⟩ := h
  obtain ⟨d', rfl⟩ := h'
  have hl := pu_P_len hp
  simp only [List.length_append, List.length_map, cr_b_len] at hl
  exact cr_P hok hp (cr_two hok.2.1 (by have := Nat.two_pow_pos w; omega) (by omega))
