/-! The reference's devices hear a packet: the loop. -/
section RO
variable {a : Nat} {ra : Nat → Nat} {R : Nat → Nat → Int32} {M : sm_M} {D : Nat} {P P' : pP} {d : Nat}
/-- a device's own is the same -/
def SO (d : Nat) (P P' : pP) : Prop := (∀ f i, own d f i → s_ P' f i = s_ P f i) ∧ ∀ c i, ownB d c i → b_ P' c i = b_ P c i
theorem so_rf : SO d P P := ⟨fun _ _ _ => rfl, fun _ _ _ => rfl⟩
theorem so_tr {P'' : pP} (h : SO d P P') (k : SO d P' P'') : SO d P P'' := ⟨fun f i o => (k.1 f i o).trans (h.1 f i o), fun c i o => (k.2 c i o).trans (h.2 c i o)⟩
theorem so_fr {k : Nat} (h : Fr k P P') (hd : d < 6) (hk : k < 6) (hn : d ≠ k) : SO d P P' := ⟨fun f i o => h.1 f i (fun q => by unfold own at *; omega), fun c i o => h.2.1 c i (fun q => by unfold ownB at *; omega)⟩
theorem so_s (h : SO d P P') {f : Nat} (hf : 60 ≤ f ∧ f < 100) : s_ P' f d = s_ P f d := h.1 f d (Or.inl ⟨hf.1, hf.2, rfl⟩)
theorem so_e (h : SO d P P') {f k : Nat} (hf : 100 ≤ f ∧ f < 120) (hk : k < 6) : s_ P' f (6 * d + k) = s_ P f (6 * d + k) := h.1 f _ (Or.inr (Or.inl ⟨hf.1, hf.2, by omega, by omega⟩))
theorem so_p (h : SO d P P') {f : Nat} (hf : 140 ≤ f ∧ f < 160) : s_ P' f (60 + d) = s_ P f (60 + d) := h.1 f _ (Or.inr (Or.inr ⟨hf.1, hf.2, rfl⟩))
theorem so_7 (h : SO d P P') : b_ P' 7 (60 + d) = b_ P 7 (60 + d) := h.2 _ _ (Or.inl ⟨rfl, rfl⟩)
theorem so_1 (h : SO d P P') {k : Nat} (hk : k < 6) : b_ P' 1 (1 + (6 * d + k)) = b_ P 1 (1 + (6 * d + k)) := h.2 _ _ (Or.inr (Or.inl ⟨rfl, by omega, by omega⟩))
theorem so_28 (h : SO d P P') : b_ P' 28 d = b_ P 28 d := h.2 _ _ (Or.inr (Or.inr ⟨Or.inl rfl, rfl⟩))
theorem so_29 (h : SO d P P') : b_ P' 29 d = b_ P 29 d := h.2 _ _ (Or.inr (Or.inr ⟨Or.inr rfl, rfl⟩))
theorem so_nfl (h : SO d P P') : nfl P' d = nfl P d := by
  unfold nfl; rw [so_s h (by decide), so_s h (by decide), so_s h (by decide)]
theorem fnd_cg {p q : Nat → Bool} : ∀ {l : List Nat}, (∀ x ∈ l, p x = q x) → l.find? p = l.find? q
  | [], _ => rfl
  | x :: l, h => by
    rw [List.find?_cons, List.find?_cons, h x (List.mem_cons_self ..), fnd_cg (l := l) (fun y hy => h y (List.mem_cons_of_mem _ hy))]
theorem so_find (h : SO d P P') {w : Nat} (h6 : s_ P 86 d ≤ 6) : p_find P' d w = p_find P d w := by
  unfold p_find
  rw [so_s h (by decide)]
  refine fnd_cg (fun k hk => ?_)
  have := List.mem_range.mp hk
  rw [so_e h (by decide) (by omega)]
theorem so_DI (h : SO d P P') (h6 : s_ P 86 d ≤ 6) (hD : DI P d) : DI P' d := by
  unfold DI at *
  simp (disch := decide) only [so_s h, so_29 h]
  obtain ⟨d1, d2, d3, d4, d5, d6⟩ := hD
  refine ⟨d1, d2, d3, d4, d5, fun k hk => ?_⟩
  have k6 : k < 6 := by omega
  rw [so_e h (by decide) k6, so_e h (by decide) k6, so_e h (by decide) k6, so_1 h k6]
  exact d6 k hk
theorem so_HD (h : SO d P P') (h6 : s_ P 86 d ≤ 6) (hD : HD P d) : HD P' d := by
  obtain ⟨d1, d2, d3, d5, d4⟩ := hD
  refine ⟨so_DI h h6 d1, fun k hk => ?_, ?_, ?_, fun q1 q2 => ?_⟩
  · rw [so_s h (by decide)] at hk
    rw [so_e h (by decide) (by omega)]; exact d2 k hk
  · rw [so_s h (by decide)]; exact d3
  · rw [so_s h (by decide), so_s h (by decide), so_29 h]; exact d5
  · rw [so_s h (by decide)] at q1 q2
    obtain ⟨k, f1, f2⟩ := d4 q1 q2
    refine ⟨k, ?_, ?_⟩
    · rw [so_s h (by decide), so_find h h6]; exact f1
    · rw [so_e h (by decide) (by have := (find_lt f1).1; omega)]; exact f2
/-- the reference's own of a device is the same -/
def SR (d : Nat) (R R' : Nat → Nat → Int32) : Prop := ∀ f i, ownR d f i → ¬ (51 ≤ f ∧ f ≤ 54) → R' f i = R f i
theorem sr_fr {k : Nat} {R' : Nat → Nat → Int32} (h : FrR k R R') (hd : d < 6) (hk : k < 6) (hn : d ≠ k) : SR d R R' := fun f i o n => h f i (fun q => by unfold ownR at *; omega)
theorem sr_s {R' : Nat → Nat → Int32} (h : SR d R R') {f : Nat} (hf : (4 ≤ f ∧ f ≤ 9) ∨ (19 ≤ f ∧ f ≤ 28) ∨ f = 30 ∨ f = 31) : R' f d = R f d := h f d (Or.inl ⟨hf, rfl⟩) (by omega)
theorem sr_e {R' : Nat → Nat → Int32} (h : SR d R R') {f k : Nat} (hf : 10 ≤ f ∧ f ≤ 16) (hk : k < 6) : R' f (6 * d + k) = R f (6 * d + k) := h f _ (Or.inr (Or.inl ⟨hf.1, hf.2, by omega, by omega⟩)) (by omega)
theorem sr_17 {R' : Nat → Nat → Int32} (h : SR d R R') {k j : Nat} (hk : k < 6) (hj : j < 256) : R' 17 (256 * (6 * d + k) + j) = R 17 (256 * (6 * d + k) + j) := h _ _ (Or.inr (Or.inr (Or.inl ⟨rfl, by omega, by omega⟩))) (by omega)
theorem sr_18 {R' : Nat → Nat → Int32} (h : SR d R R') {j : Nat} (hj : j < 64) : R' 18 (64 * d + j) = R 18 (64 * d + j) := h _ _ (Or.inr (Or.inr (Or.inr (Or.inl ⟨rfl, by omega, by omega⟩)))) (by omega)
theorem sr_29 {R' : Nat → Nat → Int32} (h : SR d R R') {j : Nat} (hj : j < 100) : R' 29 (100 * d + j) = R 29 (100 * d + j) := h _ _ (Or.inr (Or.inr (Or.inr (Or.inr (Or.inl ⟨rfl, by omega, by omega⟩))))) (by omega)
/-- the relation sees a device's own alone -/
theorem relD_cg {R' : Nat → Nat → Int32} (h : SO d P P') (k : SR d R R') (hx : EX P) (hd : d < 6) (hD : HD P d) (hr : RelD P R d) : RelD P' R' d := by
  have h6 := ex_86 hx hd
  have l29 := ex_29 hx hd
  obtain ⟨⟨a4, a5, a6, a7, a8, a9, a19, a20, a18⟩, hz, he⟩ := hr
  obtain ⟨z60, z21, z23, z24, z26, z22, z22b, z2, z4, z5⟩ := hz
  refine ⟨?_, ?_, fun i hi => ?_⟩
  · unfold RelA
    simp (disch := decide) only [so_s h, sr_s k, so_28 h]
    exact ⟨a4, a5, a6, a7, a8, a9, a19, a20, fun j hj => by rw [sr_18 k hj]; exact a18 j hj⟩
  · unfold RelZ
    simp (disch := decide) only [so_s h, sr_s k]
    refine ⟨z60, z21, z23, z24, z26, z22, z22b, fun q => ?_, fun q => ?_, z5⟩
    · obtain ⟨y1, y2, y3, y4, y5, y6⟩ := z2 q
      unfold RelZ2
      simp (disch := decide) only [so_s h, sr_s k, so_nfl h, so_29 h]
      refine ⟨y1, y2, y3, y4, fun j hj => ?_, y6⟩
      have := hD.2.2.2.1 q
      rw [sr_29 k (by omega)]
      exact y5 j hj
    · rw [so_29 h]
      refine ⟨(z4 q).1, fun j hj => ?_⟩
      have := hD.1.2.2.2.1
      rw [sr_29 k (by omega)]
      exact (z4 q).2 j hj
  · rw [so_s h (by decide)] at hi
    have i6 : i < 6 := by omega
    have l1 := ex_1 hx hd hi
    refine relE_ca (he i hi) (fun f f1 f2 => so_e h (by omega) i6) (so_1 h i6) (fun f f1 f2 => sr_e k (by omega) i6) (fun j hj => sr_17 k i6 hj) l1
/-- of a device that is away nothing counts that its control point says, nor what it waits for -/
def sh (P : pP) (d : Nat) : pP := if s_ P 83 d = 0 then pS (pS P 60 d 0) 89 d 0 else P
def sdR (P : pP) (R : Nat → Nat → Int32) (d : Nat) : Nat → Nat → Int32 := if s_ P 83 d = 0 then sm_u2 (sm_u2 R 19 d (nI 0)) 21 d (nI 0) else R
def RelX (P : pP) (R : Nat → Nat → Int32) (d : Nat) : Prop := RelD (sh P d) (sdR P R d) d
theorem sh_s {f i : Nat} (hf : f ≠ 60 ∧ f ≠ 89) : s_ (sh P d) f i = s_ P f i := by
  unfold sh; split
  · rw [s_S, if_neg (by omega), s_S, if_neg (by omega)]
  · rfl
theorem sh_b {c i : Nat} : b_ (sh P d) c i = b_ P c i := by unfold sh; split <;> rfl
theorem sh_p (hp : s_ P 83 d ≠ 0) : sh P d = P := if_neg hp
theorem sh_a (hp : s_ P 83 d = 0) : sh P d = pS (pS P 60 d 0) 89 d 0 := if_pos hp
theorem sdR_p (hp : s_ P 83 d ≠ 0) : sdR P R d = R := if_neg hp
theorem sdR_a (hp : s_ P 83 d = 0) : sdR P R d = sm_u2 (sm_u2 R 19 d (nI 0)) 21 d (nI 0) := if_pos hp
theorem sdR_s {f i : Nat} (hf : f ≠ 19 ∧ f ≠ 21) : sdR P R d f i = R f i := by
  unfold sdR; split
  · rw [u2_r, if_neg (by omega), u2_r, if_neg (by omega)]
  · rfl
theorem so_sh (h : SO d P P') : SO d (sh P d) (sh P' d) := by
  unfold sh
  rw [so_s h (by decide)]
  split
  · exact ⟨fun f i o => by rw [s_S, s_S, s_S, s_S, h.1 f i o], fun c i o => h.2 c i o⟩
  · exact h
theorem ex_sh (hx : EX P) (hd : d < 6) : EX (sh P d) := by
  unfold sh
  split
  · obtain ⟨g, M, h⟩ := hx
    exact ⟨g, _, rc_w' (c := 4) (k := 9) (rc_w' (c := 3) (k := 0) h (rc_st h (c := 3) (i := d) hd) (show 0 < 2 ^ 31 by decide)) (rc_st h (c := 4) (i := d) hd) (show 0 < 2 ^ 31 by decide)⟩
  · exact hx
theorem relX_D (h : RelD P R d) : RelX P R d := by
  unfold RelX
  by_cases q : s_ P 83 d = 0
  · rw [sh_a q, sdR_a q]
    obtain ⟨⟨a4, a5, a6, a7, a8, a9, a19, a20, a18⟩, hz, he⟩ := h
    obtain ⟨z60, z21, z23, z24, z26, z22, z22b, z2, z4, z5⟩ := hz
    refine ⟨?_, ?_, fun k hk => ?_⟩
    · unfold RelA; simp only [u2_r, rowU_r, s_S, s_B, s_F, b_S, b_B, b_F, f_S, f_B, nfl_S, nfl_B, Nat.reduceEqDiff, false_and, and_false, true_and, and_true, and_self, if_true, if_false, reduceIte, ite_self, or_self, or_false, false_or, or_true, true_or, false_implies, implies_true, true_implies, Nat.reduceLeDiff, not_true_eq_false, not_false_eq_true, ne_eq]; exact ⟨a4, a5, a6, a7, a8, a9, rfl, a20, a18⟩
    · unfold RelZ; simp only [u2_r, rowU_r, s_S, s_B, s_F, b_S, b_B, b_F, f_S, f_B, nfl_S, nfl_B, Nat.reduceEqDiff, false_and, and_false, true_and, and_true, and_self, if_true, if_false, reduceIte, ite_self, or_self, or_false, false_or, or_true, true_or, false_implies, implies_true, true_implies, Nat.reduceLeDiff, not_true_eq_false, not_false_eq_true, ne_eq]
      exact ⟨rfl, z23, z24, z26⟩
    · have := he k (by revert hk; simp only [u2_r, rowU_r, s_S, s_B, s_F, b_S, b_B, b_F, f_S, f_B, nfl_S, nfl_B, Nat.reduceEqDiff, false_and, and_false, true_and, and_true, and_self, if_true, if_false, reduceIte, ite_self, or_self, or_false, false_or, or_true, true_or, false_implies, implies_true, true_implies, Nat.reduceLeDiff, not_true_eq_false, not_false_eq_true, ne_eq]; exact id)
      unfold RelE at *; simp only [u2_r, rowU_r, s_S, s_B, s_F, b_S, b_B, b_F, f_S, f_B, nfl_S, nfl_B, Nat.reduceEqDiff, false_and, and_false, true_and, and_true, and_self, if_true, if_false, reduceIte, ite_self, or_self, or_false, false_or, or_true, true_or, false_implies, implies_true, true_implies, Nat.reduceLeDiff, not_true_eq_false, not_false_eq_true, ne_eq]; exact this
  · rw [sh_p q, sdR_p q]; exact h
theorem relD_X (h : RelX P R d) (hp : s_ P 83 d ≠ 0) : RelD P R d := by
  unfold RelX at h; rw [sh_p hp, sdR_p hp] at h; exact h
theorem relX_4 (h : RelX P R d) : R 4 d = nI (s_ P 83 d) := by
  have := h.1.1
  rw [sdR_s (by decide), sh_s (by decide)] at this; exact this
theorem relX_cg {R' : Nat → Nat → Int32} (h : SO d P P') (k : SR d R R') (hx : EX P) (hd : d < 6) (hD : HD (sh P d) d) (hr : RelX P R d) : RelX P' R' d := by
  unfold RelX at *
  refine relD_cg (so_sh h) ?_ (ex_sh hx hd) hd hD hr
  unfold sdR
  rw [so_s h (by decide)]
  split
  · intro f i o n
    rw [u2_r, u2_r, u2_r, u2_r, k f i o n]
  · exact k
theorem hears_S {s n : Nat} {r : Option Nat} : p_hears P s r (n + 1) = if s = n + 1 ∨ s_ (p_hears P s r n) 83 n = 0 then p_hears P s r n else p_hear (p_hears P s r n) n r := rfl
theorem hears_86 {s d : Nat} {r : Option Nat} (h6 : ∀ d, d < 6 → s_ P 86 d ≤ 6) : ∀ n, n ≤ 6 → s_ (p_hears P s r n) 86 d = s_ P 86 d := fun n hn => (fh_hears0 h6 n hn).2.2 d
theorem hears_fr {s n : Nat} {r : Option Nat} (h6 : ∀ d, d < 6 → s_ P 86 d ≤ 6) (hn : n < 6) : Fr n (p_hears P s r n) (p_hears P s r (n + 1)) := by
  rw [hears_S]
  split
  · exact fr_rf
  · exact fr_hear fr_rf (by rw [hears_86 h6 n (by omega)]; exact h6 n hn)
theorem hears_so {s d : Nat} {r : Option Nat} (h6 : ∀ d, d < 6 → s_ P 86 d ≤ 6) (hd : d < 6) : ∀ n, n ≤ d → SO d P (p_hears P s r n)
  | 0, _ => so_rf
  | n + 1, hn => so_tr (hears_so h6 hd n (by omega)) (so_fr (hears_fr h6 (by omega)) hd (by omega) (by omega))
theorem hears_K {s f i : Nat} {r : Option Nat} (h6 : ∀ d, d < 6 → s_ P 86 d ≤ 6) (hf : ∀ d, ¬ own d f i) : ∀ n, n ≤ 6 → s_ (p_hears P s r n) f i = s_ P f i
  | 0, _ => rfl
  | n + 1, hn => ((hears_fr h6 (by omega)).1 f i (hf n)).trans (hears_K h6 hf n (by omega))
theorem hears_KB {s c i : Nat} {r : Option Nat} (h6 : ∀ d, d < 6 → s_ P 86 d ≤ 6) (hf : ∀ d, ¬ ownB d c i) : ∀ n, n ≤ 6 → b_ (p_hears P s r n) c i = b_ P c i
  | 0, _ => rfl
  | n + 1, hn => ((hears_fr h6 (by omega)).2.1 c i (hf n)).trans (hears_KB h6 hf n (by omega))
theorem hears_F {s : Nat} {r : Option Nat} (h6 : ∀ d, d < 6 → s_ P 86 d ≤ 6) : ∀ n, n ≤ 6 → f_ (p_hears P s r n) = f_ P
  | 0, _ => rfl
  | n + 1, hn => ((hears_fr h6 (by omega)).2.2.1).trans (hears_F h6 n (by omega))
end RO
