/-! THE PURE STATE and what the class's cells are of it. A pure state: numbers (field 20 * class + place, which object), lists of bytes (class, which one), faults (packet -> what, where). -/
abbrev pP : Type := (Nat → Nat → Nat) × (Nat → Nat → List Nat) × (Nat → Option (Nat × Nat))
def s_ (P : pP) (f i : Nat) : Nat := P.1 f i
def b_ (P : pP) (c i : Nat) : List Nat := P.2.1 c i
def f_ (P : pP) (p : Nat) : Option (Nat × Nat) := P.2.2 p
def pS (P : pP) (f i v : Nat) : pP := (sm_u2 P.1 f i v, P.2.1, P.2.2)
def pB (P : pP) (c i : Nat) (l : List Nat) : pP := (P.1, sm_u2 P.2.1 c i l, P.2.2)
def pF (P : pP) (p : Nat) (w : Option (Nat × Nat)) : pP := (P.1, P.2.1, sm_u1 P.2.2 p w)
theorem s_S {P : pP} {f i v f' i' : Nat} : s_ (pS P f i v) f' i' = if f' = f ∧ i' = i then v else s_ P f' i' := rfl
theorem s_B {P : pP} {c i : Nat} {l : List Nat} {f' i' : Nat} : s_ (pB P c i l) f' i' = s_ P f' i' := rfl
theorem s_F {P : pP} {p : Nat} {w : Option (Nat × Nat)} {f' i' : Nat} : s_ (pF P p w) f' i' = s_ P f' i' := rfl
theorem b_S {P : pP} {f i v c' i' : Nat} : b_ (pS P f i v) c' i' = b_ P c' i' := rfl
theorem b_B {P : pP} {c i : Nat} {l : List Nat} {c' i' : Nat} : b_ (pB P c i l) c' i' = if c' = c ∧ i' = i then l else b_ P c' i' := rfl
theorem b_F {P : pP} {p : Nat} {w : Option (Nat × Nat)} {c' i' : Nat} : b_ (pF P p w) c' i' = b_ P c' i' := rfl
theorem f_S {P : pP} {f i v p : Nat} : f_ (pS P f i v) p = f_ P p := rfl
theorem f_B {P : pP} {c i : Nat} {l : List Nat} {p : Nat} : f_ (pB P c i l) p = f_ P p := rfl
/-- what there is of the class: where (class, which one) lies, whether it is there, next address, slots -/
abbrev pG : Type := (Nat → Nat → Nat) × (Nat → Nat → Bool) × Nat × Nat
/-- kinds: classes 0 .. 11; rows: 20 ready, 21 of Bytes, 22 kept, 23 bits, 24 levels, 25 devices, 26 endpoints, 27 of packets, 28 scratch, 29 of ControlPoints, 30 31 32 faults, 33 peers, 34 transfers, 35 pipes, 36 of transfers -/
def kd (c : Nat) : Nat := [3, 6, 9, 12, 15, 18, 21, 24, 27, 30, 33, 36, 1000, 1001, 1002, 1003, 1004, 1005, 1006, 1007, 2, 5, 25, 8, 11, 16, 19, 20, 17, 14, 26, 29, 32, 28, 34, 31, 23].getD c (2000 + c)
def ln (c : Nat) : Nat := [0, 0, 0, 0, 0, 0, 0, 0, 0, 0, 0, 0, 0, 0, 0, 0, 0, 0, 0, 0, 20, 0, 60, 560, 660, 6, 6, 64, 64, 64, 50, 50, 50, 6, 336, 6, 0].getD c 0
def stn (c : Nat) : Nat := [1, 1, 1, 6, 6, 0, 1, 66, 6, 1, 0, 1, 0, 0, 0, 0, 0, 0, 0, 0, 1, 1, 1, 1, 1, 1, 6, 66, 6, 6, 1, 1, 1, 1, 1, 6, 0].getD c 0
/-- fields that are numbers of the pure state as they stand -/
def fi (c k : Nat) : Bool := ([[0], [], [], [0, 1, 3, 4, 5, 6, 7, 8, 9], [0, 1, 2, 3, 4, 6, 9, 10, 11], [0, 1, 2, 3, 4, 5], [2, 3, 5, 6, 7, 8], [0, 1, 2, 5, 6, 7], [0, 1, 2, 4], [0, 1, 2, 3, 4, 5, 6, 7], [0, 2, 3, 5, 6, 7, 8, 9, 10, 11, 12], [8, 9]].getD c []).contains k
def fw (c k : Nat) : Bool := fi c k && !(c == 4 && k == 6) && !(c == 8 && k == 4) && !(c == 6 && k == 2)
def enc (c k n : Nat) : Int32 := if (c = 3 ∧ k = 3) ∨ (c = 4 ∧ k = 9) ∨ (c = 7 ∧ k = 0) ∨ (c = 9 ∧ k = 6) ∨ (c = 11 ∧ k = 9) then nI n - 1 else nI n
def arr (M : sm_M) (a : Nat) (l : List Nat) : Prop := ∀ j, j < l.length → sm_I M a j = nI (l.getD j 0)
theorem kd_inj0 : ∀ c, c < 37 → ∀ c', c' < 37 → kd c = kd c' → c = c' := by decide +kernel
theorem kd_inj (c c' : Nat) (h1 : c < 37) (h2 : c' < 37) (h : kd c = kd c') : c = c' := kd_inj0 c h1 c' h2 h
theorem kd_c {c : Nat} (h : kd c < 1000) : c < 37 := by
  rcases Nat.lt_or_ge c 37 with h1 | h1
  · exact h1
  · have : kd c = 2000 + c := by
      unfold kd
      rw [List.getD_eq_getElem?_getD, List.getElem?_eq_none (by simpa using h1)]; rfl
    omega
theorem fi_c {c k : Nat} (h : fi c k = true) : c < 12 := by
  rcases Nat.lt_or_ge c 12 with h1 | h1
  · exact h1
  · unfold fi at h
    rw [List.getD_eq_getElem?_getD, List.getElem?_eq_none (by simpa using h1)] at h
    cases h
theorem fw_fi {c k : Nat} (h : fw c k = true) : fi c k = true := by
  unfold fw at h
  simp only [Bool.and_eq_true] at h
  exact h.1.1.1
section ST
variable (g : pG) (P : pP) (M : sm_M)
/-- what is there, and how it hangs together -/
def rf_a : Prop := sm_N M = g.2.2.1 ∧ sm_U M = g.2.2.2 ∧ (∀ c i, i < stn c → g.2.1 c i = true) ∧ (∀ c i, g.2.1 c i = true → sm_K M (g.1 c i) = kd c ∧ c < 37 ∧ g.1 c i < g.2.2.1) ∧ (∀ c i i', g.2.1 c i = true → g.2.1 c i' = true → g.1 c i = g.1 c i' → i = i') ∧ (∀ c i, g.2.1 c i = true → 0 < ln c → sm_L M (g.1 c i) = ln c)
def rf_b : Prop := (g.2.1 7 66 = true ∧ g.2.1 27 66 = true) ∧ (sm_R M (g.1 0 0) 1 = some (g.1 20 0) ∧ sm_R M (g.1 0 0) 2 = some (g.1 1 0) ∧ sm_R M (g.1 0 0) 3 = some (g.1 11 0) ∧ sm_R M (g.1 0 0) 4 = some (g.1 6 0)) ∧
  (sm_R M (g.1 11 0) 0 = some (g.1 22 0) ∧ sm_R M (g.1 11 0) 1 = some (g.1 7 66) ∧ sm_R M (g.1 11 0) 2 = some (g.1 2 0) ∧ sm_R M (g.1 11 0) 3 = some (g.1 25 0) ∧ sm_R M (g.1 11 0) 4 = some (g.1 30 0) ∧ sm_R M (g.1 11 0) 5 = some (g.1 31 0) ∧ sm_R M (g.1 11 0) 6 = some (g.1 32 0)) ∧
  (sm_R M (g.1 2 0) 0 = some (g.1 23 0) ∧ sm_R M (g.1 2 0) 2 = some (g.1 24 0)) ∧
  (sm_R M (g.1 6 0) 0 = some (g.1 33 0) ∧ sm_R M (g.1 6 0) 1 = some (g.1 34 0) ∧ sm_R M (g.1 6 0) 4 = some (g.1 9 0)) ∧
  (∀ i, i < 60 → sm_R M (g.1 22 0) i = some (g.1 7 i)) ∧ (∀ j, j < 67 → sm_R M (g.1 7 j) 3 = some (g.1 27 j)) ∧
  (∀ d, d < 6 → sm_R M (g.1 25 0) d = some (g.1 4 d) ∧ sm_R M (g.1 4 d) 5 = some (g.1 26 d) ∧ sm_R M (g.1 4 d) 7 = some (g.1 28 d) ∧ sm_R M (g.1 4 d) 8 = some (g.1 3 d) ∧ sm_R M (g.1 4 d) 12 = some (g.1 7 (60 + d)) ∧ sm_R M (g.1 3 d) 2 = some (g.1 29 d) ∧ sm_R M (g.1 33 0) d = some (g.1 8 d) ∧ sm_R M (g.1 8 d) 3 = some (g.1 35 d))
def rf_c : Prop := (∀ j, g.2.1 1 j = true → sm_R M (g.1 1 j) 0 = some (g.1 21 j) ∧ g.2.1 21 j = true) ∧
  (∀ d, d < 6 → s_ P 86 d ≤ 6 ∧ (∀ k, k < s_ P 86 d → g.2.1 5 (6 * d + k) = true) ∧ ∀ k, k < 6 → sm_R M (g.1 26 d) k = if g.2.1 5 (6 * d + k) = true then some (g.1 5 (6 * d + k)) else none) ∧
  (∀ e, g.2.1 5 e = true → sm_R M (g.1 5 e) 6 = some (g.1 1 (1 + e)) ∧ g.2.1 1 (1 + e) = true) ∧
  (s_ P 122 0 ≤ 336 ∧ ∀ t, t < s_ P 122 0 → g.2.1 10 t = true ∧ g.2.1 36 t = true ∧ g.2.1 9 (s_ P 213 t) = true ∧ sm_R M (g.1 34 0) t = some (g.1 10 t) ∧ sm_R M (g.1 10 t) 4 = some (g.1 36 t) ∧ sm_R M (g.1 10 t) 1 = some (g.1 9 (s_ P 213 t))) ∧
  (∀ d, d < 6 → s_ P 164 d ≤ 6 ∧ ∀ k, k < s_ P 164 d → g.2.1 9 (s_ P 166 (10 * d + k)) = true ∧ sm_R M (g.1 35 d) k = some (g.1 9 (s_ P 166 (10 * d + k)))) ∧
  (∀ d, d < 6 → s_ P 165 d ≤ s_ P 122 0 ∧ sm_R M (g.1 8 d) 5 = if s_ P 165 d = 0 then none else some (g.1 10 (s_ P 165 d - 1)))
def Rf : Prop := rf_a g M ∧ rf_b g M ∧ rf_c g P M
/-- faults: the rows hold just the pure state's -/
def ft (a b c n : Nat) (F : Nat → Option (Nat × Nat)) : Prop := (∀ i, i < n → ∃ p w x, p < 2 ^ 31 ∧ w < 4 ∧ x < 2 ^ 31 ∧ sm_I M a i = nI p ∧ sm_I M b i = nI w ∧ (w ≠ 0 → sm_I M c i = nI x) ∧ F p = some (w, x)) ∧ (∀ i j, i < n → j < n → sm_I M a i = sm_I M a j → i = j) ∧ ∀ p w, F p = some w → p < 2 ^ 31 ∧ ∃ i, i < n ∧ sm_I M a i = nI p
def tbl : Prop := ∀ k, k < 3 → ∃ t, sm_S M k = some t ∧ (sm_K M t = 1 ∧ t < sm_N M) ∧ sm_L M t = (sm_Dk k).length ∧ ∀ j, j < (sm_Dk k).length → sm_I M t j = (sm_Dk k).getD j 0
/-- the numbers and bytes -/
def iv_a : Prop := ∀ c i k, g.2.1 c i = true → fi c k = true → (c = 7 → i < 66) → sm_I M (g.1 c i) k = enc c k (s_ P (20 * c + k) i) ∧ s_ P (20 * c + k) i < 2 ^ 31
def iv_b : Prop := ∀ j, j < 66 → sm_I M (g.1 7 j) 4 = nI (b_ P 7 j).length ∧ (b_ P 7 j).length ≤ 64 ∧ arr M (g.1 27 j) (b_ P 7 j)
def iv_c : Prop := ∀ j, g.2.1 1 j = true → by_Q M (g.1 1 j) (g.1 21 j) (if j = 0 then 200 else 256) ((b_ P 1 j).map nI)
def iv_d : Prop := (b_ P 20 0).length = 20 ∧ arr M (g.1 20 0) (b_ P 20 0) ∧ (∀ d, d < 6 → (b_ P 28 d).length = 64 ∧ arr M (g.1 28 d) (b_ P 28 d) ∧ (b_ P 29 d).length ≤ 64 ∧ arr M (g.1 29 d) (b_ P 29 d)) ∧ ∀ t, t < s_ P 122 0 → sm_L M (g.1 36 t) = (b_ P 36 t).length ∧ (b_ P 36 t).length ≤ 100 ∧ arr M (g.1 36 t) (b_ P 36 t)
def iv_e : Prop := sm_I M (g.1 11 0) 7 = nI (s_ P 227 0) ∧ s_ P 227 0 ≤ 50 ∧ ft M (g.1 30 0) (g.1 31 0) (g.1 32 0) (s_ P 227 0) (f_ P)
def iv_f : Prop := co_L M (g.1 2 0) (g.1 24 0) ((b_ P 24 0).map nI)
def bnd : Prop := ∀ f i, s_ P f i < 2 ^ 31
def Iv : Prop := iv_a g P M ∧ iv_b g P M ∧ iv_c g P M ∧ iv_d g P M ∧ iv_e g P M ∧ iv_f g P M ∧ tbl M ∧ bnd P
def RC : Prop := Rf g P M ∧ Iv g P M
end ST
section S2
variable {g : pG} {P : pP} {M : sm_M}
theorem rc_N (h : RC g P M) : sm_N M = g.2.2.1 := h.1.1.1
theorem rc_U (h : RC g P M) : sm_U M = g.2.2.2 := h.1.1.2.1
theorem rc_st (h : RC g P M) {c i : Nat} (hi : i < stn c) : g.2.1 c i = true := h.1.1.2.2.1 c i hi
theorem rf_K (h : rf_a g M) {c i : Nat} (hl : g.2.1 c i = true) : sm_K M (g.1 c i) = kd c := (h.2.2.2.1 c i hl).1
theorem rc_K (h : RC g P M) {c i : Nat} (hl : g.2.1 c i = true) : sm_K M (g.1 c i) = kd c := rf_K h.1.1 hl
theorem rc_Ks (h : RC g P M) {c i : Nat} (hi : i < stn c) : sm_K M (g.1 c i) = kd c := rc_K h (rc_st h hi)
theorem rc_L (h : RC g P M) {c i : Nat} (hl : g.2.1 c i = true) (h0 : 0 < ln c) : sm_L M (g.1 c i) = ln c := h.1.1.2.2.2.2.2 c i hl h0
theorem rc_Ls (h : RC g P M) {c i : Nat} (hi : i < stn c) (h0 : 0 < ln c) : sm_L M (g.1 c i) = ln c := rc_L h (rc_st h hi) h0
theorem rf_ne (h : rf_a g M) {c i c' i' : Nat} (hl : g.2.1 c i = true) (hl' : g.2.1 c' i' = true) (hn : ¬ (c = c' ∧ i = i')) : g.1 c i ≠ g.1 c' i' := by
  intro e
  have h1 := h.2.2.2.1 c i hl
  have h2 := h.2.2.2.1 c' i' hl'
  have hc : c = c' := kd_inj c c' h1.2.1 h2.2.1 (by rw [← h1.1, ← h2.1, e])
  subst hc
  exact hn ⟨rfl, h.2.2.2.2.1 c i i' hl hl' e⟩
theorem rf_ne1 (h : rf_a g M) {c i t : Nat} (hl : g.2.1 c i = true) (ht : sm_K M t = 1) : t ≠ g.1 c i := by
  intro e
  have h1 := h.2.2.2.1 c i hl
  rw [e, h1.1] at ht
  have : ∀ c, c < 37 → kd c ≠ 1 := by decide
  exact this c h1.2.1 ht
theorem I_ne {a k b j : Nat} {x : Int32} (h : ¬ (b = a ∧ j = k)) : sm_I (sm_putI M a k x) b j = sm_I M b j := by rw [I_put, if_neg h]
theorem arr_ne {a b k : Nat} {x : Int32} {l : List Nat} (h : arr M b l) (hn : b ≠ a) : arr (sm_putI M a k x) b l := fun j hj => by rw [I_put_a hn]; exact h j hj
theorem on_put1 {a k : Nat} {x : Int32} : sm_Only (fun b => b = a) M (sm_putI M a k x) := on_put rfl
/-- all that is not the cell a stays -/
theorem iv_b_ne {a k : Nat} {x : Int32} (h : iv_b g P M) (h7 : ∀ j, j < 66 → ¬ (g.1 7 j = a ∧ 4 = k)) (h27 : ∀ j, j < 66 → g.1 27 j ≠ a) : iv_b g P (sm_putI M a k x) := by
  intro j hj
  obtain ⟨h1, h2, h3⟩ := h j hj
  exact ⟨by rw [I_ne (h7 j hj)]; exact h1, h2, arr_ne h3 (h27 j hj)⟩
theorem iv_c_ne {a k : Nat} {x : Int32} (h : iv_c g P M) (h1 : ∀ j, g.2.1 1 j = true → g.1 1 j ≠ a) (h2 : ∀ j, g.2.1 1 j = true → g.1 21 j ≠ a) : iv_c g P (sm_putI M a k x) := fun j hj => by_keep (h j hj) on_put1 (h1 j hj) (h2 j hj)
theorem iv_d_ne {a k : Nat} {x : Int32} (h : iv_d g P M) (h0 : g.1 20 0 ≠ a) (h1 : ∀ d, d < 6 → g.1 28 d ≠ a ∧ g.1 29 d ≠ a) (h2 : ∀ t, t < s_ P 122 0 → g.1 36 t ≠ a) : iv_d g P (sm_putI M a k x) := by
  obtain ⟨e1, e2, e3, e4⟩ := h
  exact ⟨e1, arr_ne e2 h0, fun d hd => ⟨(e3 d hd).1, arr_ne (e3 d hd).2.1 (h1 d hd).1, (e3 d hd).2.2.1, arr_ne (e3 d hd).2.2.2 (h1 d hd).2⟩, fun t ht => ⟨(e4 t ht).1, (e4 t ht).2.1, arr_ne (e4 t ht).2.2 (h2 t ht)⟩⟩
theorem ft_ne {a b c n x k : Nat} {v : Int32} {F : Nat → Option (Nat × Nat)} (h : ft M a b c n F) (ha : a ≠ x) (hb : b ≠ x) (hc : c ≠ x) : ft (sm_putI M x k v) a b c n F := by
  unfold ft
  simp only [I_put_a ha, I_put_a hb, I_put_a hc]
  exact h
theorem iv_e_ne {a k : Nat} {x : Int32} (h : iv_e g P M) (h0 : ¬ (g.1 11 0 = a ∧ 7 = k)) (h1 : g.1 30 0 ≠ a) (h2 : g.1 31 0 ≠ a) (h3 : g.1 32 0 ≠ a) : iv_e g P (sm_putI M a k x) := ⟨by rw [I_ne h0]; exact h.1, h.2.1, ft_ne h.2.2 h1 h2 h3⟩
theorem iv_f_ne {a k : Nat} {x : Int32} (h : iv_f g P M) (h0 : ¬ (g.1 2 0 = a ∧ 3 = k)) (h1 : g.1 24 0 ≠ a) : iv_f g P (sm_putI M a k x) := ⟨by rw [I_ne h0]; exact h.1, h.2.1, fun i hi => by rw [I_put_a h1]; exact h.2.2 i hi⟩
theorem tbl_ne {a k : Nat} {x : Int32} (h : tbl M) (h1 : sm_K M a ≠ 1) : tbl (sm_putI M a k x) := by
  intro j hj
  obtain ⟨t, e1, e2, e3, e4⟩ := h j hj
  exact ⟨t, e1, e2, e3, fun i hi => by rw [I_put_a (by rintro rfl; exact h1 e2.1)]; exact e4 i hi⟩
theorem iv_a_ne {a k : Nat} {x : Int32} (h : iv_a g P M) (h1 : ∀ c i j, g.2.1 c i = true → fi c j = true → ¬ (g.1 c i = a ∧ j = k)) : iv_a g P (sm_putI M a k x) := fun c i j hl hf h7 => ⟨by rw [I_ne (h1 c i j hl hf)]; exact (h c i j hl hf h7).1, (h c i j hl hf h7).2⟩
theorem bn_S {f0 i0 n : Nat} (h : bnd P) (hn : n < 2 ^ 31) : bnd (pS P f0 i0 n) := by
  intro f i
  rw [s_S]
  by_cases q : f = f0 ∧ i = i0
  · rw [if_pos q]; exact hn
  · rw [if_neg q]; exact h f i
/-- a number is written -/
theorem rc_w {c i k n : Nat} {v : Int32} (h : RC g P M) (hl : g.2.1 c i = true) (hf : fw c k = true) (hn : n < 2 ^ 31) (hv : v = enc c k n) : RC g (pS P (20 * c + k) i n) (sm_putI M (g.1 c i) k v) := by
  subst hv
  obtain ⟨⟨ha, hb, hc⟩, i1, i2, i3, i4, i5, i6, i7, i8⟩ := h
  have hfi := fw_fi hf
  have hc12 := fi_c hfi
  have st : ∀ {c i}, i < stn c → g.2.1 c i = true := fun hi => ha.2.2.1 _ _ hi
  have neC : ∀ {c' i'}, g.2.1 c' i' = true → 12 ≤ c' → g.1 c' i' ≠ g.1 c i := fun hl' h12 => rf_ne ha hl' hl (fun q => by omega)
  have k20 : k < 20 := by
    have : ∀ c, c < 12 → ∀ k, fi c k = true → k < 20 := by
      intro c hc k hk
      match c, hc with
      | 0, _ | 1, _ | 2, _ | 3, _ | 4, _ | 5, _ | 6, _ | 7, _ | 8, _ | 9, _ | 10, _ | 11, _ => simp [fi] at hk <;> omega
    exact this c hc12 k hfi
  have nf : ∀ {c' k' i' : Nat}, fw c' k' = false → k' < 20 → s_ (pS P (20 * c + k) i n) (20 * c' + k') i' = s_ P (20 * c' + k') i' := fun {c' k' i'} h1 h2 => by
    rw [s_S, if_neg]
    rintro ⟨q, -⟩
    have h3 : c = c' := by omega
    have h4 : k = k' := by omega
    subst h3; subst h4
    rw [hf] at h1; cases h1
  have n86 : ∀ {i'}, s_ (pS P (20 * c + k) i n) 86 i' = s_ P 86 i' := nf (c' := 4) (k' := 6) (by decide) (by decide)
  have n164 : ∀ {i'}, s_ (pS P (20 * c + k) i n) 164 i' = s_ P 164 i' := nf (c' := 8) (k' := 4) (by decide) (by decide)
  have n122 : ∀ {i'}, s_ (pS P (20 * c + k) i n) 122 i' = s_ P 122 i' := nf (c' := 6) (k' := 2) (by decide) (by decide)
  have n213 : ∀ {i'}, s_ (pS P (20 * c + k) i n) 213 i' = s_ P 213 i' := nf (c' := 10) (k' := 13) (by decide) (by decide)
  have n166 : ∀ {i'}, s_ (pS P (20 * c + k) i n) 166 i' = s_ P 166 i' := nf (c' := 8) (k' := 6) (by decide) (by decide)
  have n165 : ∀ {i'}, s_ (pS P (20 * c + k) i n) 165 i' = s_ P 165 i' := nf (c' := 8) (k' := 5) (by decide) (by decide)
  have n227 : ∀ {i'}, s_ (pS P (20 * c + k) i n) 227 i' = s_ P 227 i' := nf (c' := 11) (k' := 7) (by decide) (by decide)
  have neK : ∀ {c' i' k'}, g.2.1 c' i' = true → fi c' k' = false → ¬ (g.1 c' i' = g.1 c i ∧ k' = k) := by
    rintro c' i' k' hl' hf' ⟨q1, rfl⟩
    by_cases hcc : c' = c
    · subst hcc; rw [hfi] at hf'; cases hf'
    · exact rf_ne ha hl' hl (fun q => hcc q.1) q1
  refine ⟨⟨ha, hb, ?_⟩, ?_, ?_, ?_, ?_, ?_, ?_, ?_, bn_S i8 hn⟩
  · unfold rf_c
    simp only [n86, n164, n122, n213, n166, n165]
    exact hc
  · intro c' i' k' hl' hf' h7'
    by_cases hh : g.1 c' i' = g.1 c i ∧ k' = k
    · obtain ⟨q1, rfl⟩ := hh
      by_cases hq : c' = c ∧ i' = i
      · obtain ⟨rfl, rfl⟩ := hq
        rw [I_put_s, s_S, if_pos ⟨rfl, rfl⟩]
        exact ⟨rfl, hn⟩
      · exact absurd q1 (rf_ne ha hl' hl hq)
    · rw [I_ne hh, s_S, if_neg]
      · exact i1 c' i' k' hl' hf' h7'
      · rintro ⟨q, rfl⟩
        have h12 := fi_c hf'
        have k20' : k' < 20 := by
          have : ∀ c, c < 12 → ∀ k, fi c k = true → k < 20 := by
            intro c hc k hk
            match c, hc with
            | 0, _ | 1, _ | 2, _ | 3, _ | 4, _ | 5, _ | 6, _ | 7, _ | 8, _ | 9, _ | 10, _ | 11, _ => simp [fi] at hk <;> omega
          exact this c' h12 k' hf'
        have h3 : c' = c := by omega
        subst h3
        exact hh ⟨rfl, by omega⟩
  · exact iv_b_ne i2 (fun j hj => neK (st (c := 7) hj) (by decide)) (fun j hj => neC (st (c := 27) hj) (by decide))
  · refine iv_c_ne i3 (fun j hj => ?_) (fun j hj => neC (hc.1 j hj).2 (by decide))
    refine rf_ne ha hj hl ?_
    rintro ⟨rfl, -⟩
    simp [fi] at hfi
  · have := iv_d_ne (a := g.1 c i) (k := k) (x := enc c k n) i4 (neC (st (c := 20) (by decide)) (by decide)) (fun d hd => ⟨neC (st (c := 28) hd) (by decide), neC (st (c := 29) hd) (by decide)⟩) (fun t ht => neC (hc.2.2.2.1.2 t ht).2.1 (by decide))
    unfold iv_d at this ⊢
    rw [n122]
    exact this
  · have := iv_e_ne (a := g.1 c i) (k := k) (x := enc c k n) i5 (neK (st (c := 11) (by decide)) (by decide)) (neC (st (c := 30) (by decide)) (by decide)) (neC (st (c := 31) (by decide)) (by decide)) (neC (st (c := 32) (by decide)) (by decide))
    unfold iv_e at this ⊢
    rw [n227]
    exact this
  · exact iv_f_ne i6 (neK (st (c := 2) (by decide)) (by decide)) (neC (st (c := 24) (by decide)) (by decide))
  · exact tbl_ne i7 (by rw [rf_K ha hl]; have : ∀ c, c < 12 → kd c ≠ 1 := by decide
                        exact this c hc12)
end S2
