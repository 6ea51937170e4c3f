/-! The CHECK: a register of w bits, P; it sees what one changed level makes (part 21) -/
def cr_s (w P c : Nat) (b : Bool) : Nat := (if (b != c.testBit (w - 1)) = true then P else 0) ^^^ ((c <<< 1) % 2 ^ w)
def cr_F (w P : Nat) : Nat → List Bool → Nat
  | c, [] => c
  | c, b :: r => cr_F w P (cr_s w P c b) r
def pu_x : List Bool → List Bool → List Bool
  | a :: l, b :: m => (a ^^ b) :: pu_x l m
  | _, _ => []
theorem cr_sh (w a b : Nat) : ((a ^^^ b) <<< 1) % 2 ^ w = ((a <<< 1) % 2 ^ w) ^^^ ((b <<< 1) % 2 ^ w) := by
  apply Nat.eq_of_testBit_eq
  intro i
  simp only [Nat.testBit_xor, Nat.testBit_mod_two_pow, Nat.testBit_shiftLeft]
  cases decide (i < w) <;> cases decide (i ≥ 1) <;> simp
theorem cr_if (P A B : Nat) (x y : Bool) : (if (x ^^ y) = true then P else 0) ^^^ (A ^^^ B) = ((if x = true then P else 0) ^^^ A) ^^^ ((if y = true then P else 0) ^^^ B) := by
  apply Nat.eq_of_testBit_eq
  intro i
  cases x <;> cases y <;> simp [Nat.testBit_xor] <;> cases P.testBit i <;> cases A.testBit i <;> cases B.testBit i <;> rfl
theorem cr_lin1 (w P a b : Nat) (x y : Bool) : cr_s w P (a ^^^ b) (x ^^ y) = cr_s w P a x ^^^ cr_s w P b y := by
  unfold cr_s
  rw [cr_sh, Nat.testBit_xor, ← cr_if]
  congr 2
  cases x <;> cases y <;> cases a.testBit (w - 1) <;> cases b.testBit (w - 1) <;> rfl
theorem cr_lin (w P : Nat) : ∀ (l m : List Bool) (a b : Nat), l.length = m.length → cr_F w P (a ^^^ b) (pu_x l m) = cr_F w P a l ^^^ cr_F w P b m
  | [], [], a, b, _ => rfl
  | [], y :: m, a, b, h => by simp at h
  | x :: l, [], a, b, h => by simp at h
  | x :: l, y :: m, a, b, h => by
    show cr_F w P (cr_s w P (a ^^^ b) (x ^^ y)) (pu_x l m) = _
    rw [cr_lin1]
    exact cr_lin w P l m _ _ (by simpa using h)
theorem cr_app (w P : Nat) : ∀ (l m : List Bool) (a : Nat), cr_F w P a (l ++ m) = cr_F w P (cr_F w P a l) m
  | [], m, a => rfl
  | x :: l, m, a => cr_app w P l m _
theorem cr_lt {w P c : Nat} {b : Bool} (hP : P < 2 ^ w) : cr_s w P c b < 2 ^ w := by
  unfold cr_s
  refine Nat.xor_lt_two_pow ?_ (Nat.mod_lt _ (Nat.two_pow_pos w))
  split
  · exact hP
  · exact Nat.two_pow_pos w
theorem cr_F_lt {w P : Nat} (hP : P < 2 ^ w) : ∀ (l : List Bool) (c : Nat), c < 2 ^ w → cr_F w P c l < 2 ^ w
  | [], c, h => h
  | b :: r, c, h => cr_F_lt hP r _ (cr_lt hP)
theorem cr_z0 (w P : Nat) : cr_s w P 0 false = 0 := by
  simp [cr_s]
theorem cr_zero (w P : Nat) : ∀ n, cr_F w P 0 (List.replicate n false) = 0
  | 0 => rfl
  | n + 1 => by
    show cr_F w P (cr_s w P 0 false) (List.replicate n false) = 0
    rw [cr_z0]; exact cr_zero w P n
theorem cr_inj {w P c : Nat} (hw : 0 < w) (hodd : P.testBit 0 = true) (hc : c < 2 ^ w) (h : cr_s w P c false = 0) : c = 0 := by
  have h0 := congrArg (fun z => z.testBit 0) h
  have hsh : ((c <<< 1) % 2 ^ w).testBit 0 = false := by
    rw [Nat.testBit_mod_two_pow, Nat.testBit_shiftLeft]
    simp
  simp only [cr_s, Nat.testBit_xor, hsh, Nat.zero_testBit] at h0
  have ht : c.testBit (w - 1) = false := by
    cases hb : c.testBit (w - 1) with
    | false => rfl
    | true =>
      rw [hb] at h0
      simp [hodd] at h0
  apply Nat.eq_of_testBit_eq
  intro i
  rw [Nat.zero_testBit]
  by_cases hi : i + 1 < w
  · have h1 := congrArg (fun z => z.testBit (i + 1)) h
    simp only [cr_s, Nat.testBit_xor, ht, Nat.testBit_mod_two_pow, Nat.testBit_shiftLeft, Nat.zero_testBit] at h1
    simpa [hi] using h1
  · by_cases hi2 : i = w - 1
    · rw [hi2]; exact ht
    · exact Nat.testBit_lt_two_pow (Nat.lt_of_lt_of_le hc (Nat.pow_le_pow_right (by decide) (by omega)))
theorem cr_keep {w P : Nat} (hw : 0 < w) (hP : P < 2 ^ w) (hodd : P.testBit 0 = true) : ∀ (n c : Nat), c < 2 ^ w → c ≠ 0 → cr_F w P c (List.replicate n false) ≠ 0
  | 0, c, _, h => h
  | n + 1, c, hc, h => cr_keep hw hP hodd n _ (cr_lt hP) (fun q => h (cr_inj hw hodd hc q))
/-- the bits of c, the highest of n first -/
def cr_b (c : Nat) : Nat → List Bool
  | 0 => []
  | n + 1 => c.testBit n :: cr_b c n
theorem cr_b_len (c : Nat) : ∀ n, (cr_b c n).length = n
  | 0 => rfl
  | n + 1 => by simp [cr_b, cr_b_len c n]
theorem cr_b_x (a b : Nat) : ∀ n, pu_x (cr_b a n) (cr_b b n) = cr_b (a ^^^ b) n
  | 0 => rfl
  | n + 1 => by
    show (a.testBit n ^^ b.testBit n) :: pu_x (cr_b a n) (cr_b b n) = _
    rw [cr_b_x a b n, ← Nat.testBit_xor]; rfl
theorem pu_x_not : ∀ (l m : List Bool), pu_x (l.map (fun b => !b)) (m.map (fun b => !b)) = pu_x l m
  | [], [] => rfl
  | [], y :: m => rfl
  | x :: l, [] => rfl
  | x :: l, y :: m => by
    show ((!x) ^^ (!y)) :: pu_x (l.map (fun b => !b)) (m.map (fun b => !b)) = (x ^^ y) :: pu_x l m
    rw [pu_x_not l m]
    cases x <;> cases y <;> rfl
theorem pu_x_app : ∀ (l m l' m' : List Bool), l.length = m.length → pu_x (l ++ l') (m ++ m') = pu_x l m ++ pu_x l' m'
  | [], [], l', m', _ => rfl
  | [], y :: m, l', m', h => by simp at h
  | x :: l, [], l', m', h => by simp at h
  | x :: l, y :: m, l', m', h => by
    show (x ^^ y) :: pu_x (l ++ l') (m ++ m') = (x ^^ y) :: (pu_x l m ++ pu_x l' m')
    rw [pu_x_app l m l' m' (by simpa using h)]
theorem pu_x_self : ∀ l : List Bool, pu_x l l = List.replicate l.length false
  | [] => rfl
  | x :: l => by
    show (x ^^ x) :: pu_x l l = _
    rw [pu_x_self l, Bool.xor_self]; rfl
theorem cr_out {w P c : Nat} (hc : c < 2 ^ w) : ∀ n, n ≤ w → cr_F w P ((c <<< (w - n)) % 2 ^ w) (cr_b c n) = 0
  | 0, _ => by
    show (c <<< (w - 0)) % 2 ^ w = 0
    rw [Nat.sub_zero, Nat.shiftLeft_eq, Nat.mul_mod_left]
  | n + 1, h => by
    have ht : ((c <<< (w - (n + 1))) % 2 ^ w).testBit (w - 1) = c.testBit n := by
      rw [Nat.testBit_mod_two_pow, Nat.testBit_shiftLeft]
      rw [show w - 1 - (w - (n + 1)) = n by omega]
      simp [show w - 1 < w by omega, show w ≤ w - 1 + (n + 1) by omega]
    show cr_F w P (cr_s w P _ (c.testBit n)) (cr_b c n) = 0
    have e : cr_s w P ((c <<< (w - (n + 1))) % 2 ^ w) (c.testBit n) = (c <<< (w - n)) % 2 ^ w := by
      unfold cr_s
      rw [ht]
      apply Nat.eq_of_testBit_eq
      intro i
      simp only [bne_self_eq_false, Nat.testBit_xor, Nat.testBit_mod_two_pow, Nat.testBit_shiftLeft]
      by_cases hi : i < w
      · by_cases h1 : 1 ≤ i
        · by_cases h2 : w - n ≤ i
          · simp [hi, h1, h2, show i - 1 < w by omega, show w - (n + 1) ≤ i - 1 by omega, show i - 1 - (w - (n + 1)) = i - (w - n) by omega]
          · simp [hi, h1, h2, show ¬ w - (n + 1) ≤ i - 1 by omega]
        · simp [hi, h1, show ¬ w - n ≤ i by omega]
      · simp [hi]
    rw [e]
    exact cr_out hc n (by omega)
/-- two rows with their CHECKS behind them: what they differ in brings the register to 0 -/
theorem cr_two {w P c0 : Nat} (hP : P < 2 ^ w) (hc : c0 < 2 ^ w) {d d' : List Bool} (hl : d.length = d'.length) :
    cr_F w P 0 (pu_x (d ++ (cr_b (cr_F w P c0 d) w).map (fun b => !b)) (d' ++ (cr_b (cr_F w P c0 d') w).map (fun b => !b))) = 0 := by
  rw [pu_x_app _ _ _ _ hl, pu_x_not, cr_b_x, cr_app]
  have e : cr_F w P 0 (pu_x d d') = cr_F w P c0 d ^^^ cr_F w P c0 d' := by
    have := cr_lin w P d d' c0 c0 hl
    rwa [Nat.xor_self] at this
  rw [e]
  have hlt : cr_F w P c0 d ^^^ cr_F w P c0 d' < 2 ^ w := Nat.xor_lt_two_pow (cr_F_lt hP _ _ hc) (cr_F_lt hP _ _ hc)
  have h := cr_out (P := P) hlt w (Nat.le_refl _)
  rw [Nat.sub_self, Nat.shiftLeft_zero, Nat.mod_eq_of_lt hlt] at h
  exact h
/-- the differences of part 21 do not -/
def cr_ok (w P : Nat) : Prop := 0 < w ∧ P < 2 ^ w ∧ P.testBit 0 = true ∧ cr_F w P 0 [true, true] ≠ 0 ∧ cr_F w P 0 [true, false, false, false, false, false, true] ≠ 0 ∧ cr_F w P 0 [true] ≠ 0
theorem cr_ok5 : cr_ok 5 5 := by unfold cr_ok; decide
theorem cr_ok16 : cr_ok 16 32773 := by unfold cr_ok; decide
theorem cr_e {w P : Nat} (h : cr_ok w P) {p e : List Bool} {n : Nat} (he : cr_F w P 0 e ≠ 0) : cr_F w P 0 (List.replicate p.length false ++ (e ++ List.replicate n false)) ≠ 0 := by
  rw [cr_app, cr_zero, cr_app]
  exact cr_keep h.1 h.2.1 h.2.2.1 n _ (cr_F_lt h.2.1 _ _ (Nat.two_pow_pos w)) he
theorem cr_P {w P : Nat} (h : cr_ok w P) {l l' : List Bool} (hp : pu_P l l') : cr_F w P 0 (pu_x l l') ≠ 0 := by
  obtain ⟨p, x, y, s, rfl, rfl, hxy⟩ := hp
  have hlen : x.length = y.length := by
    rcases hxy with ⟨a, b, rfl, rfl⟩ | ⟨rfl, rfl⟩ | ⟨rfl, rfl⟩ | ⟨rfl, a, rfl, rfl⟩ <;> rfl
  rw [pu_x_app _ _ _ _ rfl, pu_x_app _ _ _ _ hlen, pu_x_self, pu_x_self]
  refine cr_e h ?_
  rcases hxy with ⟨a, b, rfl, rfl⟩ | ⟨rfl, rfl⟩ | ⟨rfl, rfl⟩ | ⟨rfl, a, rfl, rfl⟩
  · have e : pu_x [a, b] [!a, !b] = [true, true] := by cases a <;> cases b <;> rfl
    rw [e]; exact h.2.2.2.1
  · exact h.2.2.2.2.1
  · exact h.2.2.2.2.1
  · have e : pu_x [a] [!a] = [true] := by cases a <;> rfl
    rw [e]; exact h.2.2.2.2.2
