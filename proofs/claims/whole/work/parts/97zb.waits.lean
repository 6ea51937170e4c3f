/-! The reference looks for a transfer that waits. -/
section IF_
variable {a : Nat} {ra : Nat → Nat} {R R' : Nat → Nat → Int32} {M : sm_M} {D : Nat} {P X Z : pP} {d k t i : Nat}
def wI (o : Option Nat) : Int32 := match o with
  | none => nE 0
  | some t => nI t
theorem r_waitsG {x1 x2 : Int32} (h : RM a ra R M) (h70 : R 70 0 = nI (s_ P 122 0)) (hl : s_ P 122 0 ≤ 336) (hp : ∀ t, t < s_ P 122 0 → R 73 t = nI (s_ P 211 t) ∧ s_ P 211 t < 2 ^ 31 ∧ (s_ P 211 t = 0 → (R 71 t = x1 ∧ R 72 t = x2 ↔ s_ P 213 t = i))) : sm_Run D 186 0 (sm_ent 186 [.inr (some a), .inl x1, .inl x2]) [] M (fun v M' => v = some (.inl (wI (fw0 P i))) ∧ M = M') := by
  have key : ∀ (m j : Nat), j + m = s_ P 122 0 → (∀ t, t < j → fwp P i t = false) → sm_Run D 186 2 [some (.inr (some a)), some (.inl x1), some (.inl x2), some (.inl (nI j))] [] M (fun v M' => v = some (.inl (wI (fw0 P i))) ∧ M = M') := by
    intro m
    induction m with
    | zero =>
      intro j hj hn
      have e : fw0 P i = none := List.find?_eq_none.mpr (fun y hy => by rw [hn y (by have := List.mem_range.mp hy; omega)]; decide)
      rw [e]
      refine bb_186_2 ⟨h.1, ?_⟩
      rw [rS_70 h, h70, nI_leI (by omega) (by omega)]
      exact ⟨fun _ => ⟨rfl, rfl⟩, fun q => by omega⟩
    | succ m ih =>
      intro j hj hn
      have hj' : j < s_ P 122 0 := by omega
      obtain ⟨p1, p2, p3⟩ := hp j hj'
      have ej : (nI j).toNatClampNeg = j := nI_clamp (by omega)
      have e1 : nI j + 1 = nI (j + 1) := by rw [li_1, nI_add]
      have nxt : fwp P i j = false → sm_Run D 186 2 [some (.inr (some a)), some (.inl x1), some (.inl x2), some (.inl (nI (j + 1)))] [] M (fun v M' => v = some (.inl (wI (fw0 P i))) ∧ M = M') := fun q => ih (j + 1) (by omega) (fun t ht => by
        rcases Nat.lt_or_ge t j with c | c
        · exact hn t c
        · obtain rfl : t = j := by omega
          exact q)
      refine bb_186_2 ⟨h.1, ?_⟩
      rw [rS_70 h, h70, nI_leI (by omega) (by omega)]
      refine ⟨fun q => by omega, fun _ => ⟨ra 73, rd_r73 h, of_eq_true (rA_73 h), of_eq_true (rN_73 h (by omega)), ?_⟩⟩
      rw [ej, e1, rR_73 h, p1, li_0, nI_eq p2 (by decide)]
      refine ⟨fun q => nxt (fwp_f.mpr (fun c => q c.2)), fun q => ⟨ra 71, rd_r71 h, of_eq_true (rA_71 h), of_eq_true (rN_71 h (by omega)), ?_⟩⟩
      have q0 : s_ P 211 j = 0 := Decidable.not_not.mp q
      have p3 := p3 q0
      rw [rR_71 h]
      refine ⟨fun q1 => nxt (fwp_f.mpr (fun c => q1 (p3.mpr c.1).1)), fun q1 => ⟨ra 72, rd_r72 h, of_eq_true (rA_72 h), of_eq_true (rN_72 h (by omega)), ?_⟩⟩
      rw [rR_72 h]
      refine ⟨fun q2 => nxt (fwp_f.mpr (fun c => q2 (p3.mpr c.1).2)), fun q2 => ?_⟩
      have e : fw0 P i = some j := by
        unfold fw0
        rw [rf_r (i := j) (by omega) hn, show s_ P 122 0 - j = (s_ P 122 0 - j - 1) + 1 by omega, List.range'_succ]
        exact List.find?_cons_of_pos (fwp_t.mpr ⟨p3.mp ⟨Decidable.not_not.mp q1, Decidable.not_not.mp q2⟩, q0⟩)
      rw [e]; exact ⟨rfl, rfl⟩
  refine bb_186_0 ?_
  exact key (s_ P 122 0) 0 (by omega) (fun t ht => absurd ht (Nat.not_lt_zero _))
/-- WireBusModel.waiting, for a pipe -/
theorem r_waiting (h : RM a ra R M) (hH : HREL P R) (hI : INV P) (hx : EX P) (hd : d < 6) (hk : k < s_ P 164 d) : sm_Run D 186 0 (sm_ent 186 [.inr (some a), .inl (nI d), .inl (nI (s_ P 180 (pid P d k)))]) [] M (fun v M' => v = some (.inl (wI (fw0 P (pid P d k)))) ∧ M = M') := by
  obtain ⟨iG, iT, iW, iU, iF, iN, iR, iQ, iD, iI⟩ := id hI
  have lt := ex_122 hx
  refine r_waitsG h hH.1.2.2.1 lt (fun t ht => ?_)
  obtain ⟨t1, t2, t3, -⟩ := hH.2.2.1 t ht
  have b := ex_b hx 211 t
  refine ⟨t3, b, fun w => ?_⟩
  obtain ⟨a1, a2, a3, a4, a5, a6, a7, a8, a9, a10, a11, a12⟩ := iT t ht
  have b1 := ex_b hx 180 (s_ P 213 t)
  have b2 := ex_b hx 180 (pid P d k)
  rw [t1, t2, nI_eq (by omega) (by omega), nI_eq b1 b2]
  obtain ⟨e1, e2, e3, e4, e5, e6, e7, e8, e9⟩ := iD d hd
  have pr := e7 k hk
  have ep := e9.1 k (by omega)
  constructor
  · rintro ⟨c1, c2⟩
    have n0 : s_ P 213 t ≠ 0 := fun z => by
      rw [z, iG.2.2.2.2.2.1, pr.2.2.1] at c2
      omega
    obtain ⟨w1, w2, k', w3, w4, -⟩ := (iW t ⟨ht, w⟩).2.2 n0
    rw [c1] at w3 w4
    have pr' := e7 k' w3
    rw [w4, pr'.2.2.1, pr.2.2.1] at c2
    have : k' = k := e9.2 k' k (by omega) (by omega) c2
    rw [w4, this]
  · intro c
    obtain ⟨w1, w2, k', w3, w4, -⟩ := (iW t ⟨ht, w⟩).2.2 (by rw [c]; exact pr.1)
    have := iI d k (s_ P 200 t) k' hd a1 hk w3 (by rw [← c, w4])
    exact ⟨this.1.symm, by rw [c]⟩
/-- WireBusModel.waitingControl -/
theorem r_waitC (h : RM a ra R M) (hH : HREL P R) (hI : INV P) (hx : EX P) : sm_Run D 187 0 (sm_ent 187 [.inr (some a)]) [] M (fun v M' => v = some (.inl (wI (fw0 P 0))) ∧ M = M') := by
  obtain ⟨iG, iT, iW, iU, iF, iN, iR, iQ, iD, iI⟩ := id hI
  have lt := ex_122 hx
  have h70 := hH.1.2.2.1
  have key : ∀ (m j : Nat), j + m = s_ P 122 0 → (∀ t, t < j → fwp P 0 t = false) → sm_Run D 187 2 [some (.inr (some a)), some (.inl (nI j))] [] M (fun v M' => v = some (.inl (wI (fw0 P 0))) ∧ M = M') := by
    intro m
    induction m with
    | zero =>
      intro j hj hn
      have e : fw0 P 0 = none := List.find?_eq_none.mpr (fun y hy => by rw [hn y (by have := List.mem_range.mp hy; omega)]; decide)
      rw [e]
      refine bb_187_2 ⟨h.1, ?_⟩
      rw [rS_70 h, h70, nI_leI (by omega) (by omega)]
      exact ⟨fun _ => ⟨rfl, rfl⟩, fun q => by omega⟩
    | succ m ih =>
      intro j hj hn
      have hj' : j < s_ P 122 0 := by omega
      obtain ⟨t1, t2, t3, -⟩ := hH.2.2.1 j hj'
      have p2 := ex_b hx 211 j
      have b1 := ex_b hx 180 (s_ P 213 j)
      have ej : (nI j).toNatClampNeg = j := nI_clamp (by omega)
      have e1 : nI j + 1 = nI (j + 1) := by rw [li_1, nI_add]
      have nxt : fwp P 0 j = false → sm_Run D 187 2 [some (.inr (some a)), some (.inl (nI (j + 1)))] [] M (fun v M' => v = some (.inl (wI (fw0 P 0))) ∧ M = M') := fun q => ih (j + 1) (by omega) (fun t ht => by
        rcases Nat.lt_or_ge t j with c | c
        · exact hn t c
        · obtain rfl : t = j := by omega
          exact q)
      refine bb_187_2 ⟨h.1, ?_⟩
      rw [rS_70 h, h70, nI_leI (by omega) (by omega)]
      refine ⟨fun q => by omega, fun _ => ⟨ra 73, rd_r73 h, of_eq_true (rA_73 h), of_eq_true (rN_73 h (by omega)), ?_⟩⟩
      rw [ej, e1, rR_73 h, t3, li_0, nI_eq p2 (by decide)]
      refine ⟨fun q => nxt (fwp_f.mpr (fun c => q c.2)), fun q => ⟨ra 72, rd_r72 h, of_eq_true (rA_72 h), of_eq_true (rN_72 h (by omega)), ?_⟩⟩
      have q0 : s_ P 211 j = 0 := Decidable.not_not.mp q
      rw [rR_72 h, t2, nI_eq b1 (by decide)]
      have z0 : s_ P 180 (s_ P 213 j) = 0 ↔ s_ P 213 j = 0 := by
        constructor
        · intro c
          refine Decidable.byContradiction (fun n => ?_)
          have a1 := (iT j hj').1
          obtain ⟨w1, w2, k', w3, w4, -⟩ := (iW j ⟨hj', q0⟩).2.2 n
          obtain ⟨e1, e2, e3, e4, e5, e6, e7, e8, e9⟩ := iD _ a1
          have pr := e7 k' w3
          have ep := e9.1 k' (by omega)
          rw [w4, pr.2.2.1] at c
          omega
        · intro c; rw [c]; exact iG.2.2.2.2.2.1
      rw [z0]
      refine ⟨fun q1 => nxt (fwp_f.mpr (fun c => q1 c.1)), fun q1 => ?_⟩
      have e : fw0 P 0 = some j := by
        unfold fw0
        rw [rf_r (i := j) (by omega) hn, show s_ P 122 0 - j = (s_ P 122 0 - j - 1) + 1 by omega, List.range'_succ]
        exact List.find?_cons_of_pos (fwp_t.mpr ⟨Decidable.not_not.mp q1, q0⟩)
      rw [e]; exact ⟨rfl, rfl⟩
  refine bb_187_0 ?_
  exact key (s_ P 122 0) 0 (by omega) (fun t ht => absurd ht (Nat.not_lt_zero _))
theorem wI_m1 (o : Option Nat) (h : ∀ t, o = some t → t < 336) : (wI o = (-1 : Int32)) = (o = none) := propext (by
  cases o with
  | none => exact ⟨fun _ => rfl, fun _ => rfl⟩
  | some t =>
    refine ⟨fun q => ?_, fun q => by cases q⟩
    have b := h t rfl
    have q' : nI t = nE 0 := q
    have : nI (t + 1) = nI 0 := by
      have e := congrArg (fun x => x + 1) q'
      have e1 : nI t + 1 = nI (t + 1) := by rw [li_1, nI_add]
      have e2 : nE 0 + 1 = nI 0 := rfl
      rw [e1, e2] at e
      exact e
    have := (nI_eq (by omega) (by decide)).mp this
    omega)
end IF_
