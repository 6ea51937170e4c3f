/-! Calls, both sides: device. -/
section JG_
variable {a : Nat} {ra : Nat → Nat} {R R' : Nat → Nat → Int32} {M : sm_M} {D : Nat} {P P' Q X : pP} {d k t i n m e : Nat} {x x1 x2 x3 x4 x5 x6 : Int32}
theorem rm_cg (h : RM a ra R M) (e : ∀ f j, R' f j = R f j) : RM a ra R' M := by
  have : R' = R := funext fun f => funext fun j => e f j
  rw [this]; exact h
/-- device -/
theorem r_device (h : RM a ra R M) (hC : CO P R) : sm_Run (D + 1) 192 0 (sm_ent 192 [.inr (some a), .inl x1, .inl x2, .inl x3, .inl x4]) [] M (CQ a ra P (p_device P x1 x2 x3 x4)) := by
  obtain ⟨⟨f1, f2, f3, f4, f5⟩, f6, f7, f8, f9, f10, f11⟩ := id hC
  obtain ⟨w1, w2, w3, w4, hH⟩ := id f1
  have hx := exo_ex f3
  have hE : EXO (p_device P x1 x2 x3 x4).2 := by
    obtain ⟨n0, u0, g, M, hr, hg⟩ := f3
    obtain ⟨v, M', -, k⟩ := ru_ex (c_device (D := 0) (x1 := x1) (x2 := x2) (x3 := x3) (x4 := x4) hr)
    have e : ∀ f, f = 122 ∨ f = 130 → s_ (p_device P x1 x2 x3 x4).2 f 0 = s_ P f 0 := fun f hf => by
      unfold p_device p_become
      split
      · rfl
      · split
        · rfl
        · dsimp only; rw [s_B, s_n (by omega), s_n (by omega), s_n (by omega), s_n (by omega)]
    exact ⟨n0, u0, g, M', k, gO_cg hg (e 122 (by decide)) (e 130 (by decide))⟩
  have no : p_device P x1 x2 x3 x4 = (some 0, P) → CQ a ra P (p_device P x1 x2 x3 x4) (some (.inl 0)) M := fun c => by
    rw [c]; exact cq_same h hC _ rfl
  have nd : x1 < 0 ∨ (5 : Int32) < x1 → p_device P x1 x2 x3 x4 = (some 0, P) := fun c => by unfold p_device; rw [devN_no c]
  have ne : ¬ isBkI x2 → p_device P x1 x2 x3 x4 = (some 0, P) := fun c => by
    unfold p_device
    split
    · rfl
    · rw [if_pos (Or.inr c)]
  have k24 : ∀ (z5 z6 : Option sm_V), isBkI x2 → sm_Run (D + 1) 192 24 [some (.inr (some a)), some (.inl x1), some (.inl x2), some (.inl x3), some (.inl x4), z5, z6] [] M (CQ a ra P (p_device P x1 x2 x3 x4)) := by
    intro z5 z6 hk
    refine bb_192_24 ⟨fun q => no (nd (Or.inl q)), fun g1 => ⟨fun q => no (nd (Or.inr q)), fun g2 => ?_⟩⟩
    obtain ⟨d, hd, rfl, e⟩ := devN_ge g1 g2
    obtain ⟨a4, a5, a6, a7, a8, a9, a18, he⟩ := rx_get (w3.1 d hd)
    have cl : (nI d).toNatClampNeg = d := nI_clamp (by omega)
    have b83 := ex_b hx 83 d
    have pe : p_device P (nI d) x2 x3 x4 = if s_ P 83 d ≠ 0 ∨ ¬ isBkI x2 then (some 0, P) else (some 1, p_become P d x2.toNatClampNeg (n16 x3) (n16 x4)) := by unfold p_device; rw [e]
    rw [cl]
    refine ⟨h.1, ra 4, rd_r4 h, of_eq_true (rA_4 h), of_eq_true (rN_4 h hd), fun q4 => ?_, fun q4 => no ?_⟩
    rotate_left
    · rw [rR_4 h, a4, li_0, nI_eq b83 (by decide)] at q4
      rw [pe, if_pos (Or.inl q4)]
    rw [rR_4 h, a4, li_0, nI_eq b83 (by decide)] at q4
    rw [if_neg (by rintro (c | c); exact c q4; exact c hk)] at pe
    obtain ⟨e2, y65, ybk⟩ := bkI_nI hk
    have l3 := n16_lt x3
    have l4 := n16_lt x4
    generalize x2.toNatClampNeg = y at *
    subst e2
    rw [n16_and, n16_and]
    generalize n16 x3 = v at *
    generalize n16 x4 = w at *
    have k1 := rm_wr h (f := 6) (j := d) (v := nI y)
    have k2 := rm_wr k1 (f := 7) (j := d) (v := nI v)
    have k3 := rm_wr k2 (f := 8) (j := d) (v := nI w)
    have k4 := rm_wr k3 (f := 9) (j := d) (v := nI 0)
    refine ⟨ra 6, rd_r6 h, of_eq_true (rW_6 h), of_eq_true (rN_6 h hd), ra 7, rd_r7 k1, of_eq_true (rW_7 h), of_eq_true (rN_7 h hd), ra 8, rd_r8 k2, of_eq_true (rW_8 h), of_eq_true (rN_8 h hd), ra 9, rd_r9 k3, of_eq_true (rW_9 h), of_eq_true (rN_9 h hd), ?_⟩
    generalize hR1 : sm_u2 (sm_u2 (sm_u2 (sm_u2 R 6 d (nI y)) 7 d (nI v)) 8 d (nI w)) 9 d (nI 0) = R1 at k4
    have key : ∀ (m i : Nat) (R2 : Nat → Nat → Int32) (M : sm_M), i + m = 64 → RM a ra R2 M → (∀ j, j < i → R2 18 (64 * d + j) = nI 0) → (∀ f j, ¬ (f = 18 ∧ 64 * d ≤ j ∧ j < 64 * d + 64) → R2 f j = R1 f j) → sm_Run (D + 1) 192 98 [some (.inr (some a)), some (.inl (nI d)), some (.inl (nI y)), some (.inl x3), some (.inl x4), some (.inl 1), some (.inl (nI i))] [] M (CQ a ra P (p_device P (nI d) (nI y) x3 x4)) := by
      intro m
      induction m with
      | zero =>
        intro i R2 M2 hi h2 hz ho
        obtain rfl : i = 64 := by omega
        refine bb_192_98 ⟨fun _ => ?_, fun q => absurd (by decide) q⟩
        rw [pe] at hE ⊢
        have o : ∀ f j, ¬ (f = 18 ∧ 64 * d ≤ j ∧ j < 64 * d + 64) → R2 f j = if f = 9 ∧ j = d then nI 0 else if f = 8 ∧ j = d then nI w else if f = 7 ∧ j = d then nI v else if f = 6 ∧ j = d then nI y else R f j := fun f j n => by
          rw [ho f j n, ← hR1, u2_r, u2_r, u2_r, u2_r]
        refine ⟨rfl, R2, h2, ?_, ?_⟩
        rotate_left
        · unfold p_become; rw [s_B, s_n (by decide), s_n (by decide), s_n (by decide), s_n (by decide)]; exact Nat.le_add_right _ _
        have xs : ∀ f j, s_ (p_become P d y v w) f j = if f = 86 ∧ j = d then 0 else if f = 82 ∧ j = d then w else if f = 81 ∧ j = d then v else if f = 80 ∧ j = d then y else s_ P f j := fun f j => by
          unfold p_become
          rw [s_B, s_S, s_S, s_S, s_S]
        have xb : ∀ c j, b_ (p_become P d y v w) c j = if c = 28 ∧ j = d then List.replicate 64 0 else b_ P c j := fun c j => by
          unfold p_become
          rw [b_B, b_S, b_S, b_S, b_S]
        have xf : f_ (p_become P d y v w) = f_ P := rfl
        dsimp only at hE ⊢
        generalize p_become P d y v w = X at *
        have x86 : s_ X 86 d = 0 := by rw [xs, if_pos ⟨rfl, rfl⟩]
        have x28 : b_ X 28 d = List.replicate 64 0 := by rw [xb, if_pos ⟨rfl, rfl⟩]
        have ib := (w1.2.2 d hd).1
        have xe : ∀ f j, 100 ≤ f → s_ X f j = s_ P f j := fun f j h1 => by rw [xs, if_neg (by omega), if_neg (by omega), if_neg (by omega), if_neg (by omega)]
        refine co_abs hC hE hd q4 (fun f j n1 n2 => ?_) (fun c j n1 n2 => ?_) xf ⟨fun k hk => by omega, fun k k' hk => by omega⟩ (fun k hk => by omega) ?_ (fun k hk => ?_) (fun f j n1 n2 n3 => ?_) ?_ ?_ ?_ ?_ (fun j hj => ?_) (fun k hk => by omega)
        · rw [xs, if_neg (by omega), if_neg (by omega), if_neg (by omega), if_neg (by omega)]
        · rw [xb, if_neg (by omega)]
        · obtain ⟨i1, i2, i3, i4, i5, i6, i7, i8⟩ := ib
          refine ⟨?_, by rw [xb, if_neg (by omega)]; exact i2, fun k hk => by rw [xb, if_neg (by omega)]; exact i3 k hk, ?_, ?_, ?_, by omega, fun k hk => by omega⟩
          · rw [x28]; intro x hx'; rw [List.eq_of_mem_replicate hx']; decide
          · rw [xs, if_neg (by omega), if_neg (by omega), if_neg (by omega), if_pos ⟨rfl, rfl⟩]; omega
          · rw [xs, if_neg (by omega), if_neg (by omega), if_pos ⟨rfl, rfl⟩]; omega
          · rw [xs, if_neg (by omega), if_pos ⟨rfl, rfl⟩]; omega
        · rw [xe 100 _ (by omega), xe 105 _ (by omega)]; exact f10 d k hd hk
        · rw [o f j n3, if_neg (by omega), if_neg (by omega), if_neg (by omega), if_neg (by omega)]
        · rw [o 6 d (by omega), if_neg (by omega), if_neg (by omega), if_neg (by omega), if_pos ⟨rfl, rfl⟩, xs, if_neg (by omega), if_neg (by omega), if_neg (by omega), if_pos ⟨rfl, rfl⟩]
        · rw [o 7 d (by omega), if_neg (by omega), if_neg (by omega), if_pos ⟨rfl, rfl⟩, xs, if_neg (by omega), if_neg (by omega), if_pos ⟨rfl, rfl⟩]
        · rw [o 8 d (by omega), if_neg (by omega), if_pos ⟨rfl, rfl⟩, xs, if_neg (by omega), if_pos ⟨rfl, rfl⟩]
        · rw [o 9 d (by omega), if_pos ⟨rfl, rfl⟩, x86]
        · rw [hz j hj, x28, List.getD_eq_getElem?_getD, List.getElem?_replicate, if_pos hj]; rfl
      | succ m ih =>
        intro i R2 M2 hi h2 hz ho
        have c64 : (64 : Int32) * nI d + nI i = nI (64 * d + i) := by rw [li_64, pk_mul, nI_add]
        refine bb_192_98 ⟨fun q => ?_, fun _ => ⟨h2.1, ra 18, rd_r18 h2, of_eq_true (rW_18 h2), ?_, ?_⟩⟩
        · rw [li_64, nI_leI (by decide) (by omega)] at q; omega
        · rw [c64]; exact of_eq_true (rN_18 h2 (by omega))
        · rw [c64, nI_clamp (by omega), nI_1]
          refine ih (i + 1) _ _ (by omega) (rm_wr h2) (fun j hj => ?_) (fun f j n => ?_)
          · rw [u2_r]
            by_cases c : j = i
            · rw [c, if_pos ⟨rfl, rfl⟩]; rfl
            · rw [if_neg (by omega)]; exact hz j (by omega)
          · rw [u2_r, if_neg (by omega)]; exact ho f j n
    exact key 64 0 R1 _ rfl k4 (fun j hj => absurd hj (Nat.not_lt_zero _)) (fun f j _ => rfl)
  refine bb_192_0 ⟨fun c => k24 _ _ (Or.inl c), fun c8 => ⟨fun c => k24 _ _ (Or.inr (Or.inl c)), fun c16 => ⟨fun c => k24 _ _ (Or.inr (Or.inr (Or.inl c))), fun c32 => ⟨fun c64 => ?_, fun c => k24 _ _ (Or.inr (Or.inr (Or.inr (Decidable.not_not.mp c))))⟩⟩⟩⟩
  have nn : ¬ isBkI x2 := by rintro (c | c | c | c); exact c8 c; exact c16 c; exact c32 c; exact c64 c
  exact ⟨fun _ => no (ne nn), fun _ => ⟨fun _ => no (ne nn), fun _ => no (ne nn)⟩⟩
end JG_
