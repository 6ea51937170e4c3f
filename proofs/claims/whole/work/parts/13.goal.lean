/-! The claim, said of the small machine alone: sm_Goal. Below: sm_Goal gives the walk of the law's body. -/
def sm_Dk (k : Nat) : List Int32 := [[18, 1, 0, 2, 255, 0, 0, 8, 0, 0, 0, 0, 0, 1, 0, 0, 0, 1], [9, 2, 18, 0, 1, 1, 0, 128, 50, 9, 4, 0, 0, 0, 255, 0, 0, 0], [7, 5, 0, 0, 0, 0, 0]].getD k []
/-- the memory at the law's entry: the script, the three tables of the class -/
def sm_Start (b L : Nat) (xs : Nat → Int32) (M : sm_M) : Prop :=
  sm_U M = 0 ∧ (∀ a, sm_K M a ≠ 0 → sm_K M a = 1 ∧ a < sm_N M) ∧ sm_K M b = 1 ∧ sm_L M b = L ∧ (∀ j, j < L → sm_I M b j = xs j) ∧ ∀ k, k < 3 → ∃ t, sm_S M k = some t ∧ sm_K M t = 1 ∧ sm_L M t = (sm_Dk k).length ∧ ∀ j, j < (sm_Dk k).length → sm_I M t j = (sm_Dk k).getD j 0
def sm_Goal : Prop := ∀ (b L : Nat) (xs : Nat → Int32) (M : sm_M), L ≤ 3073 → sm_Start b L xs M → ∃ M', sm_Ev 12 209 0 (sm_ent 209 [.inr (some b)]) [] M (some (.inl 1)) M' ∧ sm_N M' ≤ sm_N M + 600000 ∧ sm_U M' ≤ 7302250
theorem sm_T_same {t N1 N2 : Nat} {f1 f2 : Nat → Int32} {A : Nat → Prop} {U : State} {H : Heap} (h1 : va_T .int t N1 (fun j => .int (f1 j)) A U H) (h2 : va_T .int t N2 (fun j => .int (f2 j)) A U H) (b1 : N1 < 2 ^ 31) (b2 : N2 < 2 ^ 31) : N1 = N2 ∧ ∀ j, j < N1 → f1 j = f2 j := by
  obtain ⟨c1, p1, -, -, p4, p5, p6, -⟩ := h1
  obtain ⟨c2, q1, -, -, q4, q5, q6, -⟩ := h2
  cases p1.symm.trans q1
  have e : nI N1 = nI N2 := p5.symm.trans q5
  have hN : N1 = N2 := (nI_eq b1 b2).mp e
  subst hN
  exact ⟨rfl, fun j hj => Value.int.inj (Option.some.inj ((p6 j hj).symm.trans (q6 j hj)))⟩
abbrev sm_Q : Type := Nat × Nat × (Nat → Int32)
def sm_M0 (ro : List sm_Q) (S : Nat → Option Nat) (n : Nat) : sm_M :=
  (fun a => if (ro.find? (fun q => q.1 == a)).isSome then 1 else 0, fun a => match ro.find? (fun q => q.1 == a) with | some q => q.2.1 | none => 0, fun a => match ro.find? (fun q => q.1 == a) with | some q => q.2.2 | none => fun _ => 0, fun _ _ => none, S, n, 0)
theorem sm_M0_at {ro : List sm_Q} {S : Nat → Option Nat} {n : Nat} {A : Nat → Prop} {U : State} {H : Heap} (h : ∀ q ∈ ro, va_T .int q.1 q.2.1 (fun j => .int (q.2.2 j)) A U H ∧ q.2.1 < 2 ^ 31) {q : sm_Q} (hq : q ∈ ro) :
    sm_K (sm_M0 ro S n) q.1 = 1 ∧ sm_L (sm_M0 ro S n) q.1 = q.2.1 ∧ ∀ j, j < q.2.1 → sm_I (sm_M0 ro S n) q.1 j = q.2.2 j := by
  cases hf : ro.find? (fun z => z.1 == q.1) with
  | none => exact absurd (beq_self_eq_true q.1) (by simpa using List.find?_eq_none.mp hf q hq)
  | some z =>
    have hz := List.mem_of_find?_eq_some hf
    have hz1 : z.1 = q.1 := by simpa using List.find?_some hf
    have a1 := (h z hz).1
    rw [hz1] at a1
    obtain ⟨e1, e2⟩ := sm_T_same a1 (h q hq).1 (h z hz).2 (h q hq).2
    refine ⟨?_, ?_, fun j hj => ?_⟩
    · show (if (ro.find? (fun w : sm_Q => w.1 == q.1)).isSome then 1 else 0) = 1
      rw [hf]; rfl
    · show (match ro.find? (fun w : sm_Q => w.1 == q.1) with | some q => q.2.1 | none => 0) = _
      rw [hf]; exact e1
    · show (match ro.find? (fun w : sm_Q => w.1 == q.1) with | some q => q.2.2 | none => fun _ => 0) j = _
      rw [hf]; exact e2 j (by rw [e1]; exact hj)
theorem sm_M0_K {ro : List sm_Q} {S : Nat → Option Nat} {n a : Nat} (h : sm_K (sm_M0 ro S n) a ≠ 0) : sm_K (sm_M0 ro S n) a = 1 ∧ ∃ q ∈ ro, q.1 = a ∧ sm_L (sm_M0 ro S n) a = q.2.1 ∧ sm_I (sm_M0 ro S n) a = q.2.2 := by
  have e : sm_K (sm_M0 ro S n) a = if (ro.find? (fun q => q.1 == a)).isSome then 1 else 0 := rfl
  cases hf : ro.find? (fun z => z.1 == a) with
  | none => rw [e, hf] at h; exact absurd rfl h
  | some z =>
    refine ⟨by rw [e, hf]; rfl, z, List.mem_of_find?_eq_some hf, by simpa using List.find?_some hf, ?_, ?_⟩
    · show (match ro.find? (fun w : sm_Q => w.1 == a) with | some q => q.2.1 | none => 0) = _
      rw [hf]
    · show (match ro.find? (fun w : sm_Q => w.1 == a) with | some q => q.2.2 | none => fun _ => 0) = _
      rw [hf]
