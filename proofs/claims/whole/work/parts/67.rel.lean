/-! What the reference's rows say of the pure state: one device. -/
section R0
variable {a : Nat} {ra : Nat → Nat} {R : Nat → Nat → Int32} {M : sm_M} {D : Nat} {P : pP}
theorem Ip_r (h : RM a ra R M) {M' : sm_M} {f j k i : Nat} {v : Int32} (hk : k < 88) (h0 : rK k ≠ 0) (hf : f < 88) (hf0 : rK f ≠ 0) (hn : k ≠ f) : sm_I (sm_putI M' (ra f) j v) (ra k) i = sm_I M' (ra k) i := I_put_a (rm_ne h hk h0 hf hf0 hn)
theorem Ip_a (h : RM a ra R M) {M' : sm_M} {f j k : Nat} {v : Int32} (hf : f < 88) (hf0 : rK f ≠ 0) : sm_I (sm_putI M' (ra f) j v) a k = sm_I M' a k := I_put_a (rm_a h hf hf0).symm
theorem Ip_b (h : RM a ra R M) {M' : sm_M} {f k i : Nat} {v : Int32} (hk : k < 88) (hk0 : rK k ≠ 0) : sm_I (sm_putI M' a f v) (ra k) i = sm_I M' (ra k) i := I_put_a (rm_a h hk hk0)
theorem Rp_i {M : sm_M} {b k : Nat} {v : Int32} : sm_R (sm_putI M b k v) = sm_R M := rfl
theorem Rp_j {M : sm_M} {b k : Nat} {v : Int32} : sm_R (sm_putI M b k v) = sm_R M := Eq.symm (Eq.symm Rp_i)
theorem nfl_S {f i v d : Nat} (h1 : ¬ f = 80) (h2 : ¬ f = 63) (h3 : ¬ f = 64) : nfl (pS P f i v) d = nfl P d := by
  unfold nfl
  rw [s_S, s_S, s_S, if_neg (fun q => h1 q.1.symm), if_neg (fun q => h2 q.1.symm), if_neg (fun q => h3 q.1.symm)]
theorem nfl_B {c i d : Nat} {l : List Nat} : nfl (pB P c i l) d = nfl P d := rfl
def wt (n : Nat) : Nat := if n = 14 then 1 else n
def stg (n : Nat) : Nat := if n = 3 then 5 else if n = 4 then 3 else if n = 5 then 4 else if n = 6 then 5 else n
def RelA (P : pP) (R : Nat → Nat → Int32) (d : Nat) : Prop := R 4 d = nI (s_ P 83 d) ∧ R 5 d = nI (s_ P 84 d) ∧ R 6 d = nI (s_ P 80 d) ∧ R 7 d = nI (s_ P 81 d) ∧ R 8 d = nI (s_ P 82 d) ∧ R 9 d = nI (s_ P 86 d) ∧ R 19 d = nI (wt (s_ P 89 d)) ∧ R 20 d = nI (s_ P 90 d) ∧ ∀ j, j < 64 → R 18 (64 * d + j) = nI ((b_ P 28 d).getD j 0)
def RelZ2 (P : pP) (R : Nat → Nat → Int32) (d : Nat) : Prop := R 25 d = nI (s_ P 63 d - 1) ∧ (R 28 d = nE 0 ∨ R 28 d = nI (nfl P d)) ∧ (R 27 d = nI 0 ∨ R 27 d = nI 1) ∧ (s_ P 69 d ≠ 0 ↔ R 28 d = nE 0 ∧ (s_ P 64 d = s_ P 65 d ∨ R 27 d = nI 1)) ∧ (∀ j, j < s_ P 63 d - 1 → R 29 (100 * d + j) = nI ((b_ P 29 d).getD j 0)) ∧ (s_ P 89 d = 3 → s_ P 90 d = 0 → R 28 d = nI (s_ P 68 d))
def RelZ (P : pP) (R : Nat → Nat → Int32) (d : Nat) : Prop := s_ P 60 d ≤ 6 ∧ R 21 d = nI (stg (s_ P 60 d)) ∧ R 23 d = nI (s_ P 61 d) ∧ R 24 d = nI (s_ P 65 d) ∧ R 26 d = nI (s_ P 64 d) ∧ ((s_ P 60 d = 2 ∨ s_ P 60 d = 3) → R 22 d = nI 1) ∧ (4 ≤ s_ P 60 d → R 22 d = nI 0) ∧ (s_ P 60 d = 2 → RelZ2 P R d) ∧ (s_ P 60 d = 4 → R 31 d = nI (s_ P 66 d) ∧ ∀ j, j < s_ P 64 d → R 29 (100 * d + j) = nI ((b_ P 29 d).getD j 0)) ∧ (s_ P 60 d = 4 ∨ s_ P 60 d = 5 → R 30 d = if s_ P 67 d = 0 then nE 0 else nI (s_ P 67 d))
def RelE (P : pP) (R : Nat → Nat → Int32) (e : Nat) : Prop := R 10 e = nI (s_ P 100 e) ∧ R 11 e = nI (s_ P 101 e) ∧ R 12 e = nI (s_ P 102 e) ∧ R 13 e = nI (s_ P 103 e) ∧ R 14 e = nI (s_ P 104 e) ∧ R 15 e = nI (b_ P 1 (1 + e)).length ∧ (R 16 e = if s_ P 105 e = 0 then nE 0 else nI (s_ P 105 e)) ∧ ∀ j, j < (b_ P 1 (1 + e)).length → R 17 (256 * e + j) = nI ((b_ P 1 (1 + e)).getD j 0)
def RelD (P : pP) (R : Nat → Nat → Int32) (d : Nat) : Prop := RelA P R d ∧ RelZ P R d ∧ ∀ k, k < s_ P 86 d → RelE P R (6 * d + k)
def ownR (d f i : Nat) : Prop := (((4 ≤ f ∧ f ≤ 9) ∨ (19 ≤ f ∧ f ≤ 28) ∨ f = 30 ∨ f = 31) ∧ i = d) ∨ (10 ≤ f ∧ f ≤ 16 ∧ 6 * d ≤ i ∧ i < 6 * d + 6) ∨ (f = 17 ∧ 1536 * d ≤ i ∧ i < 1536 * d + 1536) ∨ (f = 18 ∧ 64 * d ≤ i ∧ i < 64 * d + 64) ∨ (f = 29 ∧ 100 * d ≤ i ∧ i < 100 * d + 100) ∨ (51 ≤ f ∧ f ≤ 54)
def FrR (d : Nat) (R R' : Nat → Nat → Int32) : Prop := ∀ f i, ¬ ownR d f i → R' f i = R f i
theorem fr_refl {d : Nat} : FrR d R R := fun _ _ _ => rfl
theorem fr_u {d f i : Nat} {v : Int32} {R R' : Nat → Nat → Int32} (h : FrR d R R') (ho : ownR d f i) : FrR d R (sm_u2 R' f i v) := by
  intro f' i' hn
  rw [u2_r, if_neg (by rintro ⟨rfl, rfl⟩; exact hn ho)]
  exact h f' i' hn
theorem frR_t {d : Nat} {R R' R'' : Nat → Nat → Int32} (h : FrR d R R') (h' : FrR d R' R'') : FrR d R R'' := fun f i hn => (h' f i hn).trans (h f i hn)
/-- what the reference holds ready as the answer -/
def AnsR (P : pP) (R : Nat → Nat → Int32) (d : Nat) : Prop := R 51 0 = nI d ∧ R 54 0 = nI (s_ P 141 (60 + d)) ∧ R 53 0 = nI (b_ P 7 (60 + d)).length ∧ ∀ j, j < (b_ P 7 (60 + d)).length → R 52 j = nI ((b_ P 7 (60 + d)).getD j 0)
def SmA (R R' : Nat → Nat → Int32) : Prop := R' 51 0 = R 51 0 ∧ R' 54 0 = R 54 0 ∧ R' 53 0 = R 53 0 ∧ ∀ j, R' 52 j = R 52 j
/-- a device's step: the relation, the answer, and what stays -/
def DS (P' : pP) (d : Nat) (R R' : Nat → Nat → Int32) : Prop := RelD P' R' d ∧ FrR d R R' ∧ (s_ P' 91 d = 0 → SmA R R') ∧ (s_ P' 91 d ≠ 0 → AnsR P' R' d)
theorem ds_refl {d : Nat} (h : RelD P R d) (h0 : s_ P 91 d = 0) : DS P d R R := ⟨h, fr_refl, fun _ => ⟨rfl, rfl, rfl, fun _ => rfl⟩, fun q => absurd h0 q⟩
/-- the relation sees only a device's own -/
theorem relE_ca {e : Nat} {P' : pP} {R' : Nat → Nat → Int32} (h : RelE P R e) (hs : ∀ f, 100 ≤ f → f ≤ 105 → s_ P' f e = s_ P f e) (hb : b_ P' 1 (1 + e) = b_ P 1 (1 + e)) (hr : ∀ f, 10 ≤ f → f ≤ 16 → R' f e = R f e) (hr' : ∀ j, j < 256 → R' 17 (256 * e + j) = R 17 (256 * e + j)) (hl : (b_ P 1 (1 + e)).length ≤ 256) : RelE P' R' e := by
  obtain ⟨h1, h2, h3, h4, h5, h6, h7, h8⟩ := h
  unfold RelE
  rw [hb, hs 100 (by omega) (by omega), hs 101 (by omega) (by omega), hs 102 (by omega) (by omega), hs 103 (by omega) (by omega), hs 104 (by omega) (by omega), hs 105 (by omega) (by omega), hr 10 (by omega) (by omega), hr 11 (by omega) (by omega), hr 12 (by omega) (by omega), hr 13 (by omega) (by omega), hr 14 (by omega) (by omega), hr 15 (by omega) (by omega), hr 16 (by omega) (by omega)]
  exact ⟨h1, h2, h3, h4, h5, h6, h7, fun j hj => by rw [hr' j (by omega)]; exact h8 j hj⟩
/-- a row is filled -/
def rowU (R : Nat → Nat → Int32) (f o n : Nat) (v : Nat → Int32) : Nat → Nat → Int32 := fun f' j => if f' = f ∧ o ≤ j ∧ j < o + n then v (j - o) else R f' j
theorem rowU_r {f o n f' j : Nat} {v : Nat → Int32} : rowU R f o n v f' j = if f' = f ∧ o ≤ j ∧ j < o + n then v (j - o) else R f' j := rfl
theorem rowU_0 {f o : Nat} {v : Nat → Int32} : rowU R f o 0 v = R := by
  funext f' j
  rw [rowU_r, if_neg (by omega)]
theorem rowU_s {f o n : Nat} {v : Nat → Int32} : sm_u2 (rowU R f o n v) f (o + n) (v n) = rowU R f o (n + 1) v := by
  funext f' j
  rw [u2_r, rowU_r, rowU_r]
  by_cases q : f' = f ∧ j = o + n
  · rw [if_pos q, if_pos ⟨q.1, by omega⟩, q.2, show o + n - o = n by omega]
  · rw [if_neg q]
    by_cases q' : f' = f ∧ o ≤ j ∧ j < o + n
    · rw [if_pos q', if_pos ⟨q'.1, by omega⟩]
    · rw [if_neg q', if_neg (fun q2 => q' ⟨q2.1, q2.2.1, by have : j ≠ o + n := fun e => q ⟨q2.1, e⟩; omega⟩)]
theorem fr_row {d f o n : Nat} {v : Nat → Int32} {R R' : Nat → Nat → Int32} (h : FrR d R R') (ho : ∀ j, o ≤ j → j < o + n → ownR d f j) : FrR d R (rowU R' f o n v) := by
  intro f' i' hn
  rw [rowU_r, if_neg (by rintro ⟨rfl, h1, h2⟩; exact hn (ho _ h1 h2))]
  exact h f' i' hn
abbrev ansU (R : Nat → Nat → Int32) (d k n : Nat) : Nat → Nat → Int32 := sm_u2 (sm_u2 (sm_u2 R 51 0 (nI d)) 54 0 (nI k)) 53 0 (nI n)
/-- WireBusModel.answers -/
theorem r_ans {d k n : Nat} (h : RM a ra R M) : sm_Run D 160 0 (sm_ent 160 [.inr (some a), .inl (nI d), .inl (nI k), .inl (nI n)]) [] M (fun v M' => v = none ∧ RM a ra (sm_u2 (sm_u2 (sm_u2 R 51 0 (nI d)) 54 0 (nI k)) 53 0 (nI n)) M') := by
  refine bb_160_0 ⟨h.1, rfl, ?_⟩
  (repeat' (first | assumption | refine rm_wr ?_ | refine rm_sr ?_))
theorem relD_ans {d k n : Nat} (h : RelD P R d) (h60 : d < 6) : RelD (p_ans P d k) (sm_u2 (sm_u2 (sm_u2 R 51 0 (nI d)) 54 0 (nI k)) 53 0 (nI n)) d := by
  obtain ⟨h1, h2, h3⟩ := h
  unfold p_ans
  refine ⟨?_, ?_, fun k hk => ?_⟩
  · unfold RelA at *
    simp only [u2_r, s_S, s_B, b_S, b_B, Nat.reduceEqDiff, false_and, and_true, if_false]
    exact h1
  · unfold RelZ RelZ2 nfl at *
    simp only [u2_r, s_S, s_B, b_S, b_B, Nat.reduceEqDiff, false_and, and_true, if_false, ne_eq]
    exact h2
  · have := h3 k (by revert hk; simp only [s_S, s_B, Nat.reduceEqDiff, false_and, and_true, if_false]; exact id)
    unfold RelE at *
    simp only [u2_r, s_S, s_B, b_S, b_B, Nat.reduceEqDiff, false_and, if_false]
    exact this
/-- an answer without bytes -/
theorem ds_ans {d k : Nat} {R' : Nat → Nat → Int32} (h : RelD P R d) (h60 : d < 6) (hf : FrR d R' R) : DS (p_ans P d k) d R' (sm_u2 (sm_u2 (sm_u2 R 51 0 (nI d)) 54 0 (nI k)) 53 0 (nI 0)) := by
  refine ⟨relD_ans h h60, by (repeat' (first | exact fr_refl | assumption | refine fr_u ?_ (by unfold ownR; omega) | refine fr_row ?_ (by unfold ownR; omega))), fun q => ?_, fun _ => ?_⟩
  · unfold p_ans at q; revert q; simp only [s_S, s_B, Nat.reduceEqDiff, false_and, and_self, if_true, if_false, false_implies] <;> (intro q; cases q)
  · unfold AnsR p_ans; simp only [u2_r, s_S, s_B, b_S, b_B, Nat.reduceEqDiff, false_and, true_and, and_true, and_self, if_true, if_false]
    refine ⟨rfl, ?_⟩
    intro j hj; cases hj
/-- pure bounds that the class's cells give -/
def EX (P : pP) : Prop := ∃ g M, RC g P M
theorem ex_rc {g : pG} {M : sm_M} (h : RC g P M) : EX P := ⟨g, M, h⟩
theorem ex_b (h : EX P) (f i : Nat) : s_ P f i < 2 ^ 31 := by obtain ⟨g, M, h⟩ := h; exact rc_B h f i
theorem ex_86 (h : EX P) {d : Nat} (hd : d < 6) : s_ P 86 d ≤ 6 := by obtain ⟨g, M, h⟩ := h; exact (rc_E h hd).1
theorem ex_1 (h : EX P) {d k : Nat} (hd : d < 6) (hk : k < s_ P 86 d) : (b_ P 1 (1 + (6 * d + k))).length ≤ 256 := by
  obtain ⟨g, M, h⟩ := h
  exact Nat.le_trans (rg_len h (rc_EB h (lq_5 h hd hk)).2) (capR_le _).1
theorem ex_28 (h : EX P) {d : Nat} (hd : d < 6) : (b_ P 28 d).length = 64 := by obtain ⟨g, M, h⟩ := h; exact (h.2.2.2.2.1.2.2.1 d hd).1
theorem ex_29 (h : EX P) {d : Nat} (hd : d < 6) : (b_ P 29 d).length ≤ 64 := by obtain ⟨g, M, h⟩ := h; exact (h.2.2.2.2.1.2.2.1 d hd).2.2.1
theorem ex_7 (h : EX P) {j : Nat} (hj : j < 66) : (b_ P 7 j).length ≤ 64 := by obtain ⟨g, M, h⟩ := h; exact rl_64 h hj
theorem ex_tp (h : EX P) : (b_ P 1 0).length ≤ 200 := by obtain ⟨g, M, h⟩ := h; exact rg_len h (lq_0 h).2.2.2.2.1
theorem ex_20 (h : EX P) : (b_ P 20 0).length = 20 := by obtain ⟨g, M, h⟩ := h; exact h.2.2.2.2.1.1
theorem ex_122 (h : EX P) : s_ P 122 0 ≤ 336 := by obtain ⟨g, M, h⟩ := h; exact h.1.2.2.2.2.2.1.1
theorem ex_36 (h : EX P) {t : Nat} (ht : t < s_ P 122 0) : (b_ P 36 t).length ≤ 100 := by obtain ⟨g, M, h⟩ := h; exact (r_36 h ht).2.1
theorem ex_164 (h : EX P) {d : Nat} (hd : d < 6) : s_ P 164 d ≤ 6 := by obtain ⟨g, M, h⟩ := h; exact (h.1.2.2.2.2.2.2.1 d hd).1
theorem ex_165 (h : EX P) {d : Nat} (hd : d < 6) : s_ P 165 d ≤ s_ P 122 0 := by obtain ⟨g, M, h⟩ := h; exact (h.1.2.2.2.2.2.2.2 d hd).1
theorem ex_227 (h : EX P) : s_ P 227 0 ≤ 50 := by obtain ⟨g, M, h⟩ := h; exact h.2.2.2.2.2.1.2.1
/-- WireBusModel.pointOf -/
def ptI (d : Nat) (o : Option Nat) : Int32 := match o with
  | none => nE 0
  | some k => nI (6 * d + k)
theorem r_ptA {d : Nat} {x : Int32} (h : RM a ra R M) (hx : EX P) (a9 : R 9 d = nI (s_ P 86 d)) (hr : ∀ k, k < s_ P 86 d → RelE P R (6 * d + k)) (hd : d < 6) : sm_Run D 155 0 (sm_ent 155 [.inr (some a), .inl (nI d), .inl x]) [] M (fun v M' => v = some (.inl (ptI d (p_findI P d x))) ∧ M = M') := by
  have h6 := ex_86 hx hd
  have key : ∀ (m i : Nat), i + m = s_ P 86 d → (∀ k, k < i → (nI (s_ P 100 (6 * d + k)) == x) = false) → sm_Run D 155 13 [some (.inr (some a)), some (.inl (nI d)), some (.inl x), some (.inl (nI i))] [] M (fun v M' => v = some (.inl (ptI d (p_findI P d x))) ∧ M = M') := by
    intro m
    induction m with
    | zero =>
      intro i hi hn
      have e : p_findI P d x = none := List.find?_eq_none.mpr (fun y hy => by rw [hn y (by have := List.mem_range.mp hy; omega)]; decide)
      rw [e]
      refine bb_155_13 ?_
      simp (disch := first | assumption | omega | decide) only [rd_r9 h, rR_9 h, rN_9 h, rA_9 h, rd_r10 h, rR_10 h, rA_10 h, rk_39 h, a9, ↓li_m1, li_1, li_6, nI_add, pk_mul, nI_leI, nI_clamp, Decidable.not_not, Option.some.injEq, exists_eq_left', true_and, and_true]
      exact ⟨fun _ => rfl, fun q => by omega⟩
    | succ m ih =>
      intro i hi hn
      have hi' : i < s_ P 86 d := by omega
      have a10 : R 10 (6 * d + i) = nI (s_ P 100 (6 * d + i)) := (hr i hi').1
      refine bb_155_13 ?_
      simp (disch := first | assumption | omega | decide) only [rd_r9 h, rR_9 h, rN_9 h, rA_9 h, rd_r10 h, rR_10 h, rN_10 h, rA_10 h, rk_39 h, a9, a10, ↓li_m1, li_1, li_6, nI_add, pk_mul, nI_leI, nI_clamp, Decidable.not_not, Option.some.injEq, exists_eq_left', true_and, and_true]
      refine ⟨fun q => by omega, fun _ => ⟨fun q => ?_, fun q => ?_⟩⟩
      · refine ih (i + 1) (by omega) (fun k hk => ?_)
        rcases Nat.lt_or_ge k i with h1 | h1
        · exact hn k h1
        · obtain rfl : k = i := by omega
          simpa using q
      · have e : p_findI P d x = some i := by
          unfold p_findI
          rw [rf_r (i := i) (by omega) hn, show s_ P 86 d - i = (s_ P 86 d - i - 1) + 1 by omega, List.range'_succ]
          exact List.find?_cons_of_pos (by simpa using q)
        rw [e]; rfl
  refine bb_155_0 ?_
  simp (disch := first | assumption | omega | decide) only [↓li_m1, li_0, li_5, nI_leI, nI_ltI, Option.some.injEq, and_true]
  refine ⟨fun q => by omega, fun _ => ⟨fun _ => ?_, fun q => by omega⟩⟩
  exact key (s_ P 86 d) 0 (by omega) (fun k hk => absurd hk (Nat.not_lt_zero _))
theorem r_ptI {d : Nat} {x : Int32} (h : RM a ra R M) (hx : EX P) (hr : RelD P R d) (hd : d < 6) : sm_Run D 155 0 (sm_ent 155 [.inr (some a), .inl (nI d), .inl x]) [] M (fun v M' => v = some (.inl (ptI d (p_findI P d x))) ∧ M = M') := r_ptA h hx hr.1.2.2.2.2.2.1 hr.2.2 hd
theorem fnd_I {d w : Nat} (hx : EX P) (hw : w < 2 ^ 31) : p_findI P d (nI w) = p_find P d w := by
  unfold p_findI p_find
  refine congrArg (fun f => List.find? f _) (funext fun k => ?_)
  have := ex_b hx 100 (6 * d + k)
  rw [Bool.eq_iff_iff, beq_iff_eq, beq_iff_eq, nI_eq this hw]
theorem r_pt {d w : Nat} (h : RM a ra R M) (hx : EX P) (hr : RelD P R d) (hd : d < 6) (hw : w < 2 ^ 31) : sm_Run D 155 0 (sm_ent 155 [.inr (some a), .inl (nI d), .inl (nI w)]) [] M (fun v M' => v = some (.inl (ptI d (p_find P d w))) ∧ M = M') := by
  rw [← fnd_I hx hw]; exact r_ptI h hx hr hd
end R0
