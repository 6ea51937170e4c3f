/-! The new object is the first pure state -/
section ST0
variable {M : sm_M} {n : Nat}
def off (c i : Nat) : Nat := match c with
  | 0 => 0
  | 1 => 2
  | 2 => 8
  | 3 => 138 + 7 * i
  | 4 => 135 + 7 * i
  | 6 => 177
  | 7 => if i < 60 then 15 + 2 * i else if i < 66 then 140 + 7 * (i - 60) else 6
  | 8 => 181 + 2 * i
  | 9 => 180
  | 11 => 4
  | 20 => 1
  | 21 => 3
  | 22 => 5
  | 23 => 9
  | 24 => 10
  | 25 => 11
  | 26 => 136 + 7 * i
  | 27 => if i < 60 then 16 + 2 * i else if i < 66 then 141 + 7 * (i - 60) else 7
  | 28 => 137 + 7 * i
  | 29 => 139 + 7 * i
  | 30 => 12
  | 31 => 13
  | 32 => 14
  | 33 => 178
  | 34 => 179
  | 35 => 182 + 2 * i
  | _ => 0
def lv0 (c i : Nat) : Bool := decide (i < stn c ∨ ((c = 7 ∨ c = 27) ∧ i = 66))
def g0 (n N U : Nat) : pG := (fun c i => n + off c i, lv0, N, U)
def P0 (r : Nat) : pP := (fun f _ => if f = 0 then r else if f = 80 ∨ f = 162 then 8 else if f = 128 then 35 else if f = 184 ∨ f = 130 ∨ f = 63 ∨ f = 140 then 1 else 0, fun c _ => if c = 20 then List.replicate 20 0 else if c = 28 then List.replicate 64 0 else [], fun _ => none)
def stx (c : Nat) : Nat := [1, 1, 1, 6, 6, 0, 1, 67, 6, 1, 0, 1, 0, 0, 0, 0, 0, 0, 0, 0, 1, 1, 1, 1, 1, 1, 6, 67, 6, 6, 1, 1, 1, 1, 1, 6, 0].getD c 0
theorem stx_le : ∀ c, c < 37 → stn c ≤ stx c := by decide
theorem lv0_c {c i : Nat} (h : lv0 c i = true) : c < 37 ∧ i < stx c := by
  have h := of_decide_eq_true h
  rcases h with h | ⟨rfl | rfl, rfl⟩
  · have hc : c < 37 := by
      rcases Nat.lt_or_ge c 37 with q | q
      · exact q
      · unfold stn at h
        rw [List.getD_eq_getElem?_getD, List.getElem?_eq_none (by simpa using q)] at h
        exact absurd h (Nat.not_lt_zero _)
    exact ⟨hc, Nat.lt_of_lt_of_le h (stx_le c hc)⟩
  · decide
  · decide
theorem pk_at (h : wB M (n + 4) 60 6) {i : Nat} (hi : i < 67) : pkF M (n + off 7 i) ∧ off 27 i = off 7 i + 1 := by
  obtain ⟨h1, h2, h3, h4, h5, h6, h7, h8, h9, h10⟩ := h
  simp only [off]
  by_cases q : i < 60
  · rw [if_pos q, if_pos q]
    have := h9 i q
    rw [show n + 4 + 11 + 2 * i = n + (15 + 2 * i) by omega] at this
    exact ⟨this, by omega⟩
  · rw [if_neg q, if_neg q]
    by_cases q1 : i < 66
    · rw [if_pos q1, if_pos q1]
      have := (h10 (i - 60) (by omega)).2.2.2.2
      rw [show n + 4 + 131 + 7 * (i - 60) + 5 = n + (140 + 7 * (i - 60)) by omega] at this
      exact ⟨this, by omega⟩
    · rw [if_neg q1, if_neg q1]
      exact ⟨h3, rfl⟩
theorem KL0 {r : Nat} (h : buF M n (nI r)) {c i : Nat} (hl : lv0 c i = true) : sm_K M (n + off c i) = kd c ∧ (0 < ln c → sm_L M (n + off c i) = ln c) ∧ off c i < 193 ∧ c < 37 := by
  obtain ⟨b1, b2, b3, hW, b5⟩ := h
  obtain ⟨h1, h2, h3, h4, h5, h6, h7, h8, h9, h10⟩ := hW
  obtain ⟨p1, p2, p3, p4, p5⟩ := b5
  have hW : wB M (n + 4) 60 6 := ⟨h1, h2, h3, h4, h5, h6, h7, h8, h9, h10⟩
  obtain ⟨hc, hi⟩ := lv0_c hl
  match c, hc with
  | 0, _ =>
    have hi : i < 1 := hi
    exact ⟨b1.1, fun q => absurd q (by decide), by simp [off], by decide⟩
  | 1, _ =>
    have hi : i < 1 := hi
    exact ⟨b3.1.1, fun q => absurd q (by decide), by simp [off], by decide⟩
  | 2, _ =>
    have hi : i < 1 := hi
    exact ⟨h4.1.1, fun q => absurd q (by decide), by simp [off], by decide⟩
  | 3, _ =>
    have hi : i < 6 := hi
    have := (h10 i hi).2.2.2.1.1
    rw [show n + 4 + 131 + 7 * i + 3 = n + off 3 i by simp only [off]; omega] at this
    exact ⟨this.1, fun q => absurd q (by decide), by simp only [off]; omega, by decide⟩
  | 4, _ =>
    have hi : i < 6 := hi
    have := (h10 i hi).1
    rw [show n + 4 + 131 + 7 * i = n + off 4 i by simp only [off]; omega] at this
    exact ⟨this.1, fun q => absurd q (by decide), by simp only [off]; omega, by decide⟩
  | 5, _ => exact absurd hi (Nat.not_lt_zero _)
  | 6, _ =>
    have hi : i < 1 := hi
    exact ⟨p1.1, fun q => absurd q (by decide), by simp [off], by decide⟩
  | 7, _ =>
    have hi : i < 67 := hi
    exact ⟨(pk_at hW hi).1.1.1, fun q => absurd q (by decide), by simp only [off]; split <;> (try split) <;> omega, by decide⟩
  | 8, _ =>
    have hi : i < 6 := hi
    have := (p5 i hi).1
    rw [show n + 177 + 4 + 2 * i = n + off 8 i by simp only [off]; omega] at this
    exact ⟨this.1, fun q => absurd q (by decide), by simp only [off]; omega, by decide⟩
  | 9, _ =>
    have hi : i < 1 := hi
    exact ⟨p4.1, fun q => absurd q (by decide), by simp [off], by decide⟩
  | 10, _ => exact absurd hi (Nat.not_lt_zero _)
  | 11, _ =>
    have hi : i < 1 := hi
    exact ⟨h1.1, fun q => absurd q (by decide), by simp [off], by decide⟩
  | 12, _ => exact absurd hi (Nat.not_lt_zero _)
  | 13, _ => exact absurd hi (Nat.not_lt_zero _)
  | 14, _ => exact absurd hi (Nat.not_lt_zero _)
  | 15, _ => exact absurd hi (Nat.not_lt_zero _)
  | 16, _ => exact absurd hi (Nat.not_lt_zero _)
  | 17, _ => exact absurd hi (Nat.not_lt_zero _)
  | 18, _ => exact absurd hi (Nat.not_lt_zero _)
  | 19, _ => exact absurd hi (Nat.not_lt_zero _)
  | 20, _ =>
    have hi : i < 1 := hi
    exact ⟨b2.1, fun _ => b2.2.1, by simp [off], by decide⟩
  | 21, _ =>
    have hi : i < 1 := hi
    exact ⟨b3.2.1, fun q => absurd q (by decide), by simp [off], by decide⟩
  | 22, _ =>
    have hi : i < 1 := hi
    exact ⟨h2.1, fun _ => h2.2.1, by simp [off], by decide⟩
  | 23, _ =>
    have hi : i < 1 := hi
    exact ⟨h4.2.1.1, fun _ => h4.2.1.2.1, by simp [off], by decide⟩
  | 24, _ =>
    have hi : i < 1 := hi
    exact ⟨h4.2.2.1, fun _ => h4.2.2.2.1, by simp [off], by decide⟩
  | 25, _ =>
    have hi : i < 1 := hi
    exact ⟨h5.1, fun _ => h5.2.1, by simp [off], by decide⟩
  | 26, _ =>
    have hi : i < 6 := hi
    have := (h10 i hi).2.1
    rw [show n + 4 + 131 + 7 * i + 1 = n + off 26 i by simp only [off]; omega] at this
    exact ⟨this.1, fun _ => this.2.1, by simp only [off]; omega, by decide⟩
  | 27, _ =>
    have hi : i < 67 := hi
    have := (pk_at hW hi).1.2
    rw [show n + off 7 i + 1 = n + off 27 i by rw [(pk_at hW hi).2]; omega] at this
    exact ⟨this.1, fun _ => this.2.1, by simp only [off]; split <;> (try split) <;> omega, by decide⟩
  | 28, _ =>
    have hi : i < 6 := hi
    have := (h10 i hi).2.2.1
    rw [show n + 4 + 131 + 7 * i + 2 = n + off 28 i by simp only [off]; omega] at this
    exact ⟨this.1, fun _ => this.2.1, by simp only [off]; omega, by decide⟩
  | 29, _ =>
    have hi : i < 6 := hi
    have := (h10 i hi).2.2.2.1.2
    rw [show n + 4 + 131 + 7 * i + 3 + 1 = n + off 29 i by simp only [off]; omega] at this
    exact ⟨this.1, fun _ => this.2.1, by simp only [off]; omega, by decide⟩
  | 30, _ =>
    have hi : i < 1 := hi
    exact ⟨h6.1, fun _ => h6.2.1, by simp [off], by decide⟩
  | 31, _ =>
    have hi : i < 1 := hi
    exact ⟨h7.1, fun _ => h7.2.1, by simp [off], by decide⟩
  | 32, _ =>
    have hi : i < 1 := hi
    exact ⟨h8.1, fun _ => h8.2.1, by simp [off], by decide⟩
  | 33, _ =>
    have hi : i < 1 := hi
    exact ⟨p2.1, fun _ => p2.2.1, by simp [off], by decide⟩
  | 34, _ =>
    have hi : i < 1 := hi
    exact ⟨p3.1, fun _ => p3.2.1, by simp [off], by decide⟩
  | 35, _ =>
    have hi : i < 6 := hi
    have := (p5 i hi).2
    rw [show n + 177 + 4 + 2 * i + 1 = n + off 35 i by simp only [off]; omega] at this
    exact ⟨this.1, fun _ => this.2.1, by simp only [off]; omega, by decide⟩
  | 36, _ => exact absurd hi (Nat.not_lt_zero _)
theorem off_inj {c i i' : Nat} (h1 : lv0 c i = true) (h2 : lv0 c i' = true) (h : off c i = off c i') : i = i' := by
  obtain ⟨hc, a⟩ := lv0_c h1
  have b := (lv0_c h2).2
  match c, hc with
  | 0, _ =>
    have a : i < 1 := a
    have b : i' < 1 := b
    omega
  | 1, _ =>
    have a : i < 1 := a
    have b : i' < 1 := b
    omega
  | 2, _ =>
    have a : i < 1 := a
    have b : i' < 1 := b
    omega
  | 3, _ => simp only [off] at h; omega
  | 4, _ => simp only [off] at h; omega
  | 5, _ => exact absurd a (Nat.not_lt_zero _)
  | 6, _ =>
    have a : i < 1 := a
    have b : i' < 1 := b
    omega
  | 7, _ =>
    have a : i < 67 := a
    have b : i' < 67 := b
    simp only [off] at h
    (repeat' split at h) <;> omega
  | 8, _ => simp only [off] at h; omega
  | 9, _ =>
    have a : i < 1 := a
    have b : i' < 1 := b
    omega
  | 10, _ => exact absurd a (Nat.not_lt_zero _)
  | 11, _ =>
    have a : i < 1 := a
    have b : i' < 1 := b
    omega
  | 12, _ => exact absurd a (Nat.not_lt_zero _)
  | 13, _ => exact absurd a (Nat.not_lt_zero _)
  | 14, _ => exact absurd a (Nat.not_lt_zero _)
  | 15, _ => exact absurd a (Nat.not_lt_zero _)
  | 16, _ => exact absurd a (Nat.not_lt_zero _)
  | 17, _ => exact absurd a (Nat.not_lt_zero _)
  | 18, _ => exact absurd a (Nat.not_lt_zero _)
  | 19, _ => exact absurd a (Nat.not_lt_zero _)
  | 20, _ =>
    have a : i < 1 := a
    have b : i' < 1 := b
    omega
  | 21, _ =>
    have a : i < 1 := a
    have b : i' < 1 := b
    omega
  | 22, _ =>
    have a : i < 1 := a
    have b : i' < 1 := b
    omega
  | 23, _ =>
    have a : i < 1 := a
    have b : i' < 1 := b
    omega
  | 24, _ =>
    have a : i < 1 := a
    have b : i' < 1 := b
    omega
  | 25, _ =>
    have a : i < 1 := a
    have b : i' < 1 := b
    omega
  | 26, _ => simp only [off] at h; omega
  | 27, _ =>
    have a : i < 67 := a
    have b : i' < 67 := b
    simp only [off] at h
    (repeat' split at h) <;> omega
  | 28, _ => simp only [off] at h; omega
  | 29, _ => simp only [off] at h; omega
  | 30, _ =>
    have a : i < 1 := a
    have b : i' < 1 := b
    omega
  | 31, _ =>
    have a : i < 1 := a
    have b : i' < 1 := b
    omega
  | 32, _ =>
    have a : i < 1 := a
    have b : i' < 1 := b
    omega
  | 33, _ =>
    have a : i < 1 := a
    have b : i' < 1 := b
    omega
  | 34, _ =>
    have a : i < 1 := a
    have b : i' < 1 := b
    omega
  | 35, _ => simp only [off] at h; omega
  | 36, _ => exact absurd a (Nat.not_lt_zero _)
end ST0
