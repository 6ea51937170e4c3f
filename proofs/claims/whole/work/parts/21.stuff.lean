/-! Stuffing: what one changed level makes of a row of bits. pu_st: the bits as they are sent, o ones before; pu_ds: the bits as they are read, none where they can't be. -/
def pu_st (o : Nat) : List Bool → List Bool
  | [] => []
  | b :: r => bif b then (if o = 5 then true :: false :: pu_st 0 r else true :: pu_st (o + 1) r) else false :: pu_st 0 r
def pu_ds (o : Nat) : List Bool → Option (List Bool)
  | [] => if o < 6 then some [] else none
  | b :: r => if o < 6 then (pu_ds (bif b then o + 1 else 0) r).map (fun l => b :: l) else bif b then none else pu_ds 0 r
def pu_f1 : List Bool → List Bool
  | [] => []
  | b :: r => (!b) :: r
/-- the j-th level is another one: the j-th bit and the one behind it are turned -/
def pu_fl : List Bool → Nat → List Bool
  | [], _ => []
  | b :: r, 0 => (!b) :: pu_f1 r
  | b :: r, j + 1 => b :: pu_fl r j
theorem pu_st_t5 (r : List Bool) : pu_st 5 (true :: r) = true :: false :: pu_st 0 r := rfl
theorem pu_st_t {o : Nat} (h : o ≠ 5) (r : List Bool) : pu_st o (true :: r) = true :: pu_st (o + 1) r := by
  simp [pu_st, h]
theorem pu_st_f (o : Nat) (r : List Bool) : pu_st o (false :: r) = false :: pu_st 0 r := rfl
theorem pu_ds_t {o : Nat} (h : o < 6) (r : List Bool) : pu_ds o (true :: r) = (pu_ds (o + 1) r).map (fun l => true :: l) := by
  simp [pu_ds, h]
theorem pu_ds_f {o : Nat} (h : o < 6) (r : List Bool) : pu_ds o (false :: r) = (pu_ds 0 r).map (fun l => false :: l) := by
  simp [pu_ds, h]
theorem pu_ds_6t (r : List Bool) : pu_ds 6 (true :: r) = none := rfl
theorem pu_ds_6f (r : List Bool) : pu_ds 6 (false :: r) = pu_ds 0 r := rfl
/-- what is sent is read -/
theorem pu_back : ∀ (r : List Bool) (e : Nat), e ≤ 5 → pu_ds e (pu_st e r) = some r
  | [], e, h => by simp [pu_st, pu_ds]; omega
  | false :: r, e, h => by
    rw [pu_st_f, pu_ds_f (by omega), pu_back r 0 (by omega)]; rfl
  | true :: r, e, h => by
    by_cases he : e = 5
    · subst he
      rw [pu_st_t5, pu_ds_t (by omega), pu_ds_6f, pu_back r 0 (by omega)]; rfl
    · rw [pu_st_t he, pu_ds_t (by omega), pu_back r (e + 1) (by omega)]; rfl
/-- read with another number of ones before -/
def pu_Lag (c e : Nat) (r : List Bool) (w : Option (List Bool)) : Prop :=
  w = none ∨ w = some r ∨ (∃ m s, r = List.replicate m true ++ s ∧ (e + m = 6 ∧ c < e) ∧ w = some (List.replicate m true ++ false :: s)) ∨ ∃ m s, r = List.replicate m true ++ false :: s ∧ (c + m = 6 ∧ e < c) ∧ w = some (List.replicate m true ++ s)
theorem pu_lag : ∀ (r : List Bool) (c e : Nat), e ≤ 5 → c ≤ 6 → c ≠ e → pu_Lag c e r (pu_ds c (pu_st e r))
  | [], c, e, he, hc, hne => by
    by_cases h : c < 6
    · exact Or.inr (Or.inl (by simp [pu_st, pu_ds, h]))
    · exact Or.inl (by simp [pu_st, pu_ds, h])
  | false :: r, c, e, he, hc, hne => by
    rw [pu_st_f]
    by_cases h : c < 6
    · rw [pu_ds_f h, pu_back r 0 (by omega)]
      exact Or.inr (Or.inl rfl)
    · obtain rfl : c = 6 := by omega
      rw [pu_ds_6f, pu_back r 0 (by omega)]
      exact Or.inr (Or.inr (Or.inr ⟨0, r, rfl, ⟨rfl, by omega⟩, rfl⟩))
  | true :: r, c, e, he, hc, hne => by
    by_cases h : c < 6
    · by_cases h5 : e = 5
      · subst h5
        rw [pu_st_t5, pu_ds_t h, pu_ds_f (by omega), pu_back r 0 (by omega)]
        exact Or.inr (Or.inr (Or.inl ⟨1, r, rfl, ⟨rfl, by omega⟩, rfl⟩))
      · rw [pu_st_t h5, pu_ds_t h]
        rcases pu_lag r (c + 1) (e + 1) (by omega) (by omega) (by omega) with q | q | ⟨m, s, q1, q2, q3⟩ | ⟨m, s, q1, q2, q3⟩
        · rw [q]; exact Or.inl rfl
        · rw [q]; exact Or.inr (Or.inl rfl)
        · rw [q3]; exact Or.inr (Or.inr (Or.inl ⟨m + 1, s, by rw [q1]; rfl, by omega, rfl⟩))
        · rw [q3]; exact Or.inr (Or.inr (Or.inr ⟨m + 1, s, by rw [q1]; rfl, by omega, rfl⟩))
    · obtain rfl : c = 6 := by omega
      by_cases h5 : e = 5
      · subst h5; exact Or.inl rfl
      · rw [pu_st_t h5]; exact Or.inl rfl
/-- how the bits that are read differ from those that were sent, where they are as many -/
def pu_P (l l' : List Bool) : Prop := ∃ p x y s, l = p ++ (x ++ s) ∧ l' = p ++ (y ++ s) ∧ ((∃ a b, x = [a, b] ∧ y = [!a, !b]) ∨ (x = [false, true, true, true, true, true, true] ∧ y = [true, true, true, true, true, true, false]) ∨ (x = [true, true, true, true, true, true, false] ∧ y = [false, true, true, true, true, true, true]) ∨ (s = [] ∧ ∃ a, x = [a] ∧ y = [!a]))
def pu_D (l l' : List Bool) : Prop := l'.length = l.length + 1 ∨ l'.length + 1 = l.length ∨ pu_P l l'
theorem pu_D_cons {b : Bool} {l l' : List Bool} (h : pu_D l l') : pu_D (b :: l) (b :: l') := by
  rcases h with h | h | ⟨p, x, y, s, h1, h2, h3⟩
  · exact Or.inl (by simp [h])
  · exact Or.inr (Or.inl (by simp [h]))
  · exact Or.inr (Or.inr ⟨b :: p, x, y, s, by rw [h1]; rfl, by rw [h2]; rfl, h3⟩)
def pu_Bad (l : List Bool) (w : Option (List Bool)) : Prop := w = none ∨ ∃ l', w = some l' ∧ pu_D l l'
theorem pu_Bad_cons {b : Bool} {l : List Bool} {w : Option (List Bool)} (h : pu_Bad l w) : pu_Bad (b :: l) (w.map (fun q => b :: q)) := by
  rcases h with rfl | ⟨l', rfl, h⟩
  · exact Or.inl rfl
  · exact Or.inr ⟨b :: l', rfl, pu_D_cons h⟩
theorem pu_two {a b : Bool} {r : List Bool} {c e : Nat} {w : Option (List Bool)} (h : pu_Lag c e r w) : pu_Bad (a :: b :: r) (w.map (fun q => (!a) :: (!b) :: q)) := by
  rcases h with rfl | rfl | ⟨m, s, rfl, h2, rfl⟩ | ⟨m, s, rfl, h2, rfl⟩
  · exact Or.inl rfl
  · exact Or.inr ⟨_, rfl, Or.inr (Or.inr ⟨[], [a, b], [!a, !b], r, rfl, rfl, Or.inl ⟨a, b, rfl, rfl⟩⟩)⟩
  · exact Or.inr ⟨_, rfl, Or.inl (by simp; omega)⟩
  · exact Or.inr ⟨_, rfl, Or.inr (Or.inl (by simp; omega))⟩
theorem pu_head : ∀ (l : List Bool) (o : Nat), o ≤ 5 → l ≠ [] → pu_Bad l (pu_ds o (pu_fl (pu_st o l) 0))
  | [], o, _, h => absurd rfl h
  | [false], o, h, _ => by
    show pu_Bad [false] (pu_ds o [true])
    rw [pu_ds_t (by omega)]
    by_cases h5 : o = 5
    · subst h5; exact Or.inl rfl
    · refine Or.inr ⟨[true], by simp [pu_ds]; omega, Or.inr (Or.inr ⟨[], [false], [true], [], rfl, rfl, Or.inr (Or.inr (Or.inr ⟨rfl, false, rfl, rfl⟩))⟩)⟩
  | [true], o, h, _ => by
    by_cases h5 : o = 5
    · subst h5
      show pu_Bad [true] (pu_ds 5 [false, true])
      exact Or.inr ⟨[false, true], rfl, Or.inl rfl⟩
    · rw [pu_st_t h5]
      show pu_Bad [true] (pu_ds o [false])
      rw [pu_ds_f (by omega)]
      exact Or.inr ⟨[false], rfl, Or.inr (Or.inr ⟨[], [true], [false], [], rfl, rfl, Or.inr (Or.inr (Or.inr ⟨rfl, true, rfl, rfl⟩))⟩)⟩
  | false :: false :: r, o, h, _ => by
    show pu_Bad (false :: false :: r) (pu_ds o (true :: true :: pu_st 0 r))
    rw [pu_ds_t (by omega)]
    by_cases h5 : o = 5
    · subst h5; exact Or.inl rfl
    · rw [pu_ds_t (by omega), Option.map_map]
      exact pu_two (pu_lag r (o + 1 + 1) 0 (by omega) (by omega) (by omega))
  | false :: true :: r, o, h, _ => by
    show pu_Bad (false :: true :: r) (pu_ds o (true :: false :: pu_st 1 r))
    rw [pu_ds_t (by omega)]
    by_cases h5 : o = 5
    · subst h5
      rw [pu_ds_6f]
      rcases pu_lag r 0 1 (by omega) (by omega) (by omega) with q | q | ⟨m, s, q1, q2, q3⟩ | ⟨m, s, q1, q2, q3⟩
      · rw [q]; exact Or.inl rfl
      · rw [q]; exact Or.inr ⟨_, rfl, Or.inr (Or.inl rfl)⟩
      · obtain rfl : m = 5 := by omega
        rw [q3, q1]
        exact Or.inr ⟨_, rfl, Or.inr (Or.inr ⟨[], [false, true, true, true, true, true, true], [true, true, true, true, true, true, false], s, rfl, rfl, Or.inr (Or.inl ⟨rfl, rfl⟩)⟩)⟩
      · exact absurd q2.2 (by omega)
    · rw [pu_ds_f (by omega), Option.map_map]
      exact pu_two (pu_lag r 0 1 (by omega) (by omega) (by omega))
  | true :: false :: r, o, h, _ => by
    by_cases h5 : o = 5
    · subst h5
      show pu_Bad (true :: false :: r) (pu_ds 5 (false :: true :: false :: pu_st 0 r))
      rw [pu_ds_f (by omega), pu_ds_t (by omega), pu_ds_f (by omega), pu_back r 0 (by omega)]
      exact Or.inr ⟨_, rfl, Or.inl rfl⟩
    · rw [pu_st_t h5]
      show pu_Bad (true :: false :: r) (pu_ds o (false :: true :: pu_st 0 r))
      rw [pu_ds_f (by omega), pu_ds_t (by omega), Option.map_map]
      exact pu_two (pu_lag r 1 0 (by omega) (by omega) (by omega))
  | true :: true :: r, o, h, _ => by
    by_cases h5 : o = 5
    · subst h5
      show pu_Bad (true :: true :: r) (pu_ds 5 (false :: true :: pu_st 0 (true :: r)))
      rw [pu_ds_f (by omega), pu_ds_t (by omega)]
      rcases pu_lag (true :: r) 1 0 (by omega) (by omega) (by omega) with q | q | ⟨m, s, q1, q2, q3⟩ | ⟨m, s, q1, q2, q3⟩
      · rw [q]; exact Or.inl rfl
      · rw [q]; exact Or.inr ⟨_, rfl, Or.inl rfl⟩
      · exact absurd q2.2 (by omega)
      · obtain rfl : m = 5 := by omega
        rw [q3, q1]
        exact Or.inr ⟨_, rfl, Or.inr (Or.inr ⟨[], [true, true, true, true, true, true, false], [false, true, true, true, true, true, true], s, rfl, rfl, Or.inr (Or.inr (Or.inl ⟨rfl, rfl⟩))⟩)⟩
    · rw [pu_st_t h5]
      by_cases h4 : o = 4
      · subst h4
        show pu_Bad (true :: true :: r) (pu_ds 4 (false :: false :: false :: pu_st 0 r))
        rw [pu_ds_f (by omega), pu_ds_f (by omega), pu_ds_f (by omega), pu_back r 0 (by omega)]
        exact Or.inr ⟨_, rfl, Or.inl rfl⟩
      · rw [pu_st_t (by omega)]
        show pu_Bad (true :: true :: r) (pu_ds o (false :: false :: pu_st (o + 1 + 1) r))
        rw [pu_ds_f (by omega), pu_ds_f (by omega), Option.map_map]
        exact pu_two (pu_lag r 0 (o + 1 + 1) (by omega) (by omega) (by omega))
theorem pu_main : ∀ (l : List Bool) (o j : Nat), o ≤ 5 → j < (pu_st o l).length → pu_Bad l (pu_ds o (pu_fl (pu_st o l) j))
  | [], o, j, _, hj => absurd hj (Nat.not_lt_zero _)
  | b :: r, o, 0, h, hj => pu_head (b :: r) o h (by simp)
  | false :: r, o, j + 1, h, hj => by
    rw [pu_st_f] at hj ⊢
    show pu_Bad _ (pu_ds o (false :: pu_fl (pu_st 0 r) j))
    rw [pu_ds_f (by omega)]
    exact pu_Bad_cons (pu_main r 0 j (by omega) (by simpa using hj))
  | true :: r, o, j + 1, h, hj => by
    by_cases h5 : o = 5
    · subst h5
      rw [pu_st_t5] at hj ⊢
      cases j with
      | zero =>
        show pu_Bad _ (pu_ds 5 (true :: true :: pu_f1 (pu_st 0 r)))
        exact Or.inl rfl
      | succ j =>
        show pu_Bad _ (pu_ds 5 (true :: false :: pu_fl (pu_st 0 r) j))
        rw [pu_ds_t (by omega), pu_ds_6f]
        exact pu_Bad_cons (pu_main r 0 j (by omega) (by simpa using hj))
    · rw [pu_st_t h5] at hj ⊢
      show pu_Bad _ (pu_ds o (true :: pu_fl (pu_st (o + 1) r) j))
      rw [pu_ds_t (by omega)]
      exact pu_Bad_cons (pu_main r (o + 1) j (by omega) (by simpa using hj))
