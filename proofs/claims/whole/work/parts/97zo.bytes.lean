/-! Calls, both sides: put, take. -/
section IX_
variable {a : Nat} {ra : Nat → Nat} {R R' : Nat → Nat → Int32} {M : sm_M} {D : Nat} {P P' Pc P1 X Z : pP} {d k t i n m e : Nat} {x x1 x2 x3 x4 x5 : Int32}
/-- put -/
theorem r_put (h : RM a ra R M) (hC : CO P R) : sm_Run (D + 2) 200 0 (sm_ent 200 [.inr (some a), .inl x1, .inl x2, .inl x3]) [] M (CQ a ra P (p_put P x1 x2 x3)) := by
  obtain ⟨⟨f1, f2, f3, f4, f5⟩, f6⟩ := id hC
  obtain ⟨w1, w2, w3, w4, hH⟩ := id f1
  have hx := exo_ex f3
  have hE : EXO (p_put P x1 x2 x3).2 := by
    obtain ⟨n0, u0, g, M, hr, hg⟩ := f3
    obtain ⟨v, M', -, k⟩ := ru_ex (c_put (D := 0) (x1 := x1) (x2 := x2) (x3 := x3) hr)
    have e : ∀ f, s_ (p_put P x1 x2 x3).2 f 0 = s_ P f 0 := fun f => by
      unfold p_put
      split
      · rfl
      · split <;> rfl
    exact ⟨n0, u0, g, M', k, gO_cg hg (e 122) (e 130)⟩
  have l1 := exo_len1 f3
  have hB := f6.2.2.2.2.2
  obtain ⟨q1, q2, q3⟩ := hH.2.2.2
  have no : p_put P x1 x2 x3 = (some (-1), P) → CQ a ra P (p_put P x1 x2 x3) (some (.inl (-1))) M := fun c => by
    rw [c]; exact cq_same h hC _ rfl
  have nop : p_pres P x1 x2 = none → CQ a ra P (p_put P x1 x2 x3) (some (.inl (-1))) M := fun c => no (by unfold p_put; rw [c])
  refine bb_200_0 ⟨h.1, ?_⟩
  refine ru_mono (r_ptx (D := D) h hx w3.1) ?_
  rintro v M1 ⟨rfl, rfl⟩
  unfold ptX
  by_cases q : x1 < 0 ∨ (5 : Int32) < x1
  · have c : p_pres P x1 x2 = none := by unfold p_pres; rw [devN_no q]; rfl
    rw [devN_no q]
    exact bb_200_6 ⟨fun _ => nop c, fun _ => ⟨h.1, fun _ => nop c, fun _ => ⟨fun _ => nop c, fun c => absurd rfl c⟩⟩⟩
  obtain ⟨d, hd, rfl, e⟩ := devN_ge (fun c => q (Or.inl c)) (fun c => q (Or.inr c))
  obtain ⟨a4, a5, -, -, -, -, a18, he⟩ := rx_get (w3.1 d hd)
  rw [e]
  dsimp only
  have e6 := ex_86 hx hd
  refine bb_200_6 ?_
  rw [ptI_m1 hd (fun k ek => by have := (findI_lt ek).1; omega)]
  cases ef : p_findI P d x2 with
  | none =>
    have c : p_pres P (nI d) x2 = none := by
      unfold p_pres; rw [e]
      show (if s_ P 83 d = 0 then none else (p_findI P d x2).map (fun k => 6 * d + k)) = none
      rw [ef]; split <;> rfl
    exact ⟨fun _ => nop c, fun _ => ⟨h.1, fun _ => nop c, fun _ => ⟨fun _ => nop c, fun c => absurd rfl c⟩⟩⟩
  | some k =>
    have k6 := (findI_lt ef).1
    have k6' : k < 6 := by omega
    obtain ⟨-, -, -, -, -, g15, -, g17⟩ := he k k6
    have ql := ex_1 hx hd k6
    have ep : p_pres P (nI d) x2 = if s_ P 83 d = 0 then none else some (6 * d + k) := by
      unfold p_pres; rw [e]
      show (if s_ P 83 d = 0 then none else (p_findI P d x2).map (fun k => 6 * d + k)) = _
      rw [ef]; rfl
    have ie := wi_IE w1.1 hd k k6
    have ib := (w1.2.2 d hd).1.2.2.1 k k6'
    show _ ∧ _
    rw [show ptI d (some k) = nI (6 * d + k) from rfl]
    generalize hee : 6 * d + k = e at *
    have e36 : e < 36 := by omega
    have cl : (nI e).toNatClampNeg = e := nI_clamp (by omega)
    have cld : (nI d).toNatClampNeg = d := nI_clamp (by omega)
    have bad : (x2 < 128 ∨ x3 < 0 ∨ (b_ P 1 0).length < x3.toNatClampNeg ∨ 256 - (b_ P 1 (1 + e)).length < x3.toNatClampNeg) → CQ a ra P (p_put P (nI d) x2 x3) (some (.inl (-1))) M := fun c => no (by
      unfold p_put; rw [ep]
      split
      · rfl
      · rename_i ee he
        split at he
        · cases he
        · obtain rfl : e = ee := Option.some.inj he
          rw [if_pos c])
    refine ⟨fun c => bad (Or.inr (Or.inl c)), fun c3 => ⟨h.1, ?_⟩⟩
    obtain ⟨n, hn, rfl⟩ := nI_of c3
    rw [nI_clamp hn] at bad
    rw [rS_3 h, q1, nI_ltI (by omega) hn]
    refine ⟨fun c => bad (Or.inr (Or.inr (Or.inl c))), fun cL => ⟨fun c => (by cases c), fun _ => ⟨fun c2 => ?_, fun c2 => bad (Or.inl (Int32.not_le.mp c2))⟩⟩⟩
    have n2 : ¬ x2 < 128 := fun c => by
      have z := Int32.lt_iff_toInt_lt.mp c
      have z' := Int32.le_iff_toInt_le.mp c2
      omega
    refine ⟨ra 4, rd_r4 h, of_eq_true (rA_4 h), of_eq_true (rN_4 h hd), ?_⟩
    have b83 := ex_b hx 83 d
    rw [cld, rR_4 h, a4, li_0, nI_eq b83 (by decide)]
    refine ⟨fun c => nop (by rw [ep, if_pos c]), fun c83 => ⟨ra 15, rd_r15 h, of_eq_true (rA_15 h), of_eq_true (rN_15 h e36), ?_⟩⟩
    rw [cl, rR_15 h, g15, nI_add, li_256, nI_leI (by omega) (by decide)]
    refine ⟨fun c => ?_, fun c => bad (Or.inr (Or.inr (Or.inr (by omega))))⟩
    have pe : p_put P (nI d) x2 (nI n) = (some (nI ((b_ P 1 (1 + e)).length + n)), pB (pB P 1 (1 + e) (b_ P 1 (1 + e) ++ (b_ P 1 0).take n)) 1 0 ((b_ P 1 0).drop n)) := by
      unfold p_put
      rw [ep, if_neg c83]
      dsimp only
      rw [nI_clamp hn, if_neg]
      rintro (z | z | z | z)
      · exact n2 z
      · exact c3 z
      · omega
      · omega
    rw [pe] at hE ⊢
    have z0 : (Int32.ofNat 0 : Int32) = nI 0 := rfl
    have lp : ∀ (m i : Nat) (M : sm_M), i + m = n → RM a ra (rowU R 17 (256 * e + (b_ P 1 (1 + e)).length) i (fun j => R 2 j)) M → sm_Run (D + 2) 200 64 [some (.inr (some a)), some (.inl (nI d)), some (.inl x2), some (.inl (nI n)), some (.inl (nI e)), some (.inl (nI i))] [] M (CQ a ra P (some (nI ((b_ P 1 (1 + e)).length + n)), pB (pB P 1 (1 + e) (b_ P 1 (1 + e) ++ (b_ P 1 0).take n)) 1 0 ((b_ P 1 0).drop n))) := by
      intro m
      induction m with
      | zero =>
        intro i M hi k1
        obtain rfl : i = n := by omega
        have r15 : sm_I M (ra 15) e = nI (b_ P 1 (1 + e)).length := by rw [rR_15 k1, rowU_r, if_neg (by omega)]; exact g15
        refine bb_200_64 ⟨fun _ => ⟨k1.1, ra 15, rd_r15 k1, of_eq_true (rA_15 k1), of_eq_true (rN_15 k1 e36), of_eq_true (rW_15 k1), ?_⟩, fun q => absurd (nI_le (Nat.le_refl _) hn) q⟩
        rw [cl, r15, nI_add]
        have k2 := rm_wr k1 (f := 15) (j := e) (v := nI ((b_ P 1 (1 + e)).length + i))
        refine ru_mono (r_drop (D := D) (L := (b_ P 1 0).length) k2 (by rw [u2_r, if_neg (by omega), rowU_r, if_neg (by omega)]; exact q1) l1 (by omega)) ?_
        rintro v M3 ⟨rfl, R3, m1, m2, m3, m4⟩
        have r15' : R3 15 e = nI ((b_ P 1 (1 + e)).length + i) := by rw [m4 15 e (by decide) (by decide), u2_r, if_pos ⟨rfl, rfl⟩]
        refine bb_200_121 ⟨m1.1, ra 15, rd_r15 m1, of_eq_true (rA_15 m1), of_eq_true (rN_15 m1 e36), ?_⟩
        rw [cl, rR_15 m1, r15']
        have ll : (b_ P 1 (1 + e) ++ (b_ P 1 0).take i).length = (b_ P 1 (1 + e)).length + i := by rw [List.length_append, List.length_take, Nat.min_eq_left (by omega)]
        refine ⟨rfl, R3, m1, co_q (e := e) (l := b_ P 1 (1 + e) ++ (b_ P 1 0).take i) hC hE (by rw [b_Bs]; exact b8_drop hB.1) (fun f j => rfl) rfl (fun c j hn => ?_) e36 ?_ (b8_app ib (b8_take hB.1)) (by rw [ll]; have := ie.2.1; omega) (fun f j hf => ?_) (by rw [ll]; exact r15') (fun j hj => ?_) ?_ (fun j hj => ?_), Nat.le_add_right _ _⟩
        · rw [b_B, if_neg (by omega), b_B, if_neg (by omega)]
        · rw [b_B, if_neg (by omega), b_Bs]
        · rw [m4 f j (by omega) (by omega), u2_r, if_neg (by omega), rowU_r, if_neg (by omega)]
        · rw [ll] at hj
          rw [m4 17 _ (by decide) (by decide), u2_r, if_neg (by omega), rowU_r]
          by_cases z : j < (b_ P 1 (1 + e)).length
          · rw [if_neg (by omega), getD_appL z]; exact g17 j z
          · rw [if_pos (by omega), getD_appR (by omega), getD_takeN (by omega), show 256 * e + j - (256 * e + (b_ P 1 (1 + e)).length) = j - (b_ P 1 (1 + e)).length by omega]
            exact q2 _ (by omega)
        · rw [b_Bs, List.length_drop]; exact m2
        · rw [b_Bs] at hj ⊢
          rw [List.length_drop] at hj
          rw [m3 j hj, u2_r, if_neg (by omega), rowU_r, if_neg (by omega), getD_dropN]
          exact q2 _ (by omega)
      | succ m ih =>
        intro i M hi k1
        have r15 : sm_I M (ra 15) e = nI (b_ P 1 (1 + e)).length := by rw [rR_15 k1, rowU_r, if_neg (by omega)]; exact g15
        have r2 : sm_I M (ra 2) i = R 2 i := by rw [rR_2 k1, rowU_r, if_neg (by omega)]
        refine bb_200_64 ⟨fun q => ?_, fun _ => ⟨k1.1, ra 15, rd_r15 k1, of_eq_true (rA_15 k1), of_eq_true (rN_15 k1 e36), ra 2, rd_r2 k1, of_eq_true (rA_2 k1), of_eq_true (rN_2 k1 (by omega)), ra 17, rd_r17 k1, of_eq_true (rW_17 k1), ?_, ?_⟩⟩
        · rw [nI_leI hn (by omega)] at q; omega
        · rw [cl, r15, li_256, pk_mul, nI_add, nI_add]; exact of_eq_true (rN_17 k1 (by omega))
        · rw [cl, r15, li_256, pk_mul, nI_add, nI_add, nI_clamp (by omega), nI_clamp (by omega), r2, nI_1]
          have := rm_wr k1 (f := 17) (j := 256 * e + (b_ P 1 (1 + e)).length + i) (v := R 2 i)
          rw [rowU_s (v := fun j => R 2 j)] at this
          exact ih (i + 1) _ (by omega) this
    exact lp n 0 M (by omega) (by rw [rowU_0]; exact h)
/-- take -/
theorem r_take (h : RM a ra R M) (hC : CO P R) : sm_Run (D + 2) 201 0 (sm_ent 201 [.inr (some a), .inl x1, .inl x2]) [] M (CQ a ra P (p_take P x1 x2)) := by
  obtain ⟨⟨f1, f2, f3, f4, f5⟩, f6⟩ := id hC
  obtain ⟨w1, w2, w3, w4, hH⟩ := id f1
  have hx := exo_ex f3
  have hE : EXO (p_take P x1 x2).2 := by
    obtain ⟨n0, u0, g, M, hr, hg⟩ := f3
    obtain ⟨v, M', -, k⟩ := ru_ex (c_take (D := 0) (x1 := x1) (x2 := x2) hr)
    have e : ∀ f, s_ (p_take P x1 x2).2 f 0 = s_ P f 0 := fun f => by
      unfold p_take
      split
      · rfl
      · split <;> rfl
    exact ⟨n0, u0, g, M', k, gO_cg hg (e 122) (e 130)⟩
  have hB := f6.2.2.2.2.2
  have h5 := f6.2.2.2.2.1
  obtain ⟨q1, q2, q3⟩ := hH.2.2.2
  have no : p_take P x1 x2 = (some (-1), P) → CQ a ra P (p_take P x1 x2) (some (.inl (-1))) M := fun c => by
    rw [c]; exact cq_same h hC _ rfl
  have nop : p_pres P x1 x2 = none → CQ a ra P (p_take P x1 x2) (some (.inl (-1))) M := fun c => no (by unfold p_take; rw [c])
  refine bb_201_0 ⟨h.1, ?_⟩
  refine ru_mono (r_ptx (D := D) h hx w3.1) ?_
  rintro v M1 ⟨rfl, rfl⟩
  unfold ptX
  by_cases q : x1 < 0 ∨ (5 : Int32) < x1
  · have c : p_pres P x1 x2 = none := by unfold p_pres; rw [devN_no q]; rfl
    rw [devN_no q]
    exact bb_201_6 ⟨fun _ => nop c, fun c => absurd rfl c⟩
  obtain ⟨d, hd, rfl, e⟩ := devN_ge (fun c => q (Or.inl c)) (fun c => q (Or.inr c))
  obtain ⟨a4, a5, -, -, -, -, a18, he⟩ := rx_get (w3.1 d hd)
  rw [e]
  dsimp only
  have e6 := ex_86 hx hd
  refine bb_201_6 ?_
  rw [ptI_m1 hd (fun k ek => by have := (findI_lt ek).1; omega)]
  cases ef : p_findI P d x2 with
  | none =>
    have c : p_pres P (nI d) x2 = none := by
      unfold p_pres; rw [e]
      show (if s_ P 83 d = 0 then none else (p_findI P d x2).map (fun k => 6 * d + k)) = none
      rw [ef]; split <;> rfl
    exact ⟨fun _ => nop c, fun c => absurd rfl c⟩
  | some k =>
    have k6 := (findI_lt ef).1
    have k6' : k < 6 := by omega
    have ex2 := (findI_lt ef).2
    obtain ⟨-, -, -, -, -, g15, -, g17⟩ := he k k6
    have ql := ex_1 hx hd k6
    have ep : p_pres P (nI d) x2 = if s_ P 83 d = 0 then none else some (6 * d + k) := by
      unfold p_pres; rw [e]
      show (if s_ P 83 d = 0 then none else (p_findI P d x2).map (fun k => 6 * d + k)) = _
      rw [ef]; rfl
    have ib := (w1.2.2 d hd).1.2.2.1 k k6'
    have i5 := h5 d k hd k6'
    have b100 := ex_b hx 100 (6 * d + k)
    show _ ∧ _
    rw [show ptI d (some k) = nI (6 * d + k) from rfl]
    generalize hee : 6 * d + k = e at *
    have e36 : e < 36 := by omega
    have cl : (nI e).toNatClampNeg = e := nI_clamp (by omega)
    have cld : (nI d).toNatClampNeg = d := nI_clamp (by omega)
    refine ⟨fun c => (by cases c), fun _ => ⟨fun c2 => ⟨h.1, ra 4, rd_r4 h, of_eq_true (rA_4 h), of_eq_true (rN_4 h hd), ?_⟩, fun c2 => no ?_⟩⟩
    rotate_left
    · unfold p_take
      rw [ep]
      split
      · rfl
      · rw [if_neg c2]
    have b83 := ex_b hx 83 d
    rw [cld, rR_4 h, a4, li_0, nI_eq b83 (by decide)]
    refine ⟨fun c => nop (by rw [ep, if_pos c]), fun c83 => ⟨ra 15, rd_r15 h, of_eq_true (rA_15 h), of_eq_true (rN_15 h e36), ?_⟩⟩
    have pe : p_take P (nI d) x2 = (some (if 0 < (b_ P 1 (1 + e)).length then nI ((b_ P 1 (1 + e)).getD 0 0) else -1), pB P 1 (1 + e) ((b_ P 1 (1 + e)).drop 1)) := by
      unfold p_take
      rw [ep, if_neg c83]
      dsimp only
      rw [if_pos c2]
    rw [cl, rR_15 h, g15, nI_eq (by omega) (by decide)]
    have z105 : s_ P 105 e = 0 := i5 (by
      rw [← ex2, li_128, nI_ltI b100 (by decide)] at c2; exact c2)
    refine ⟨fun c => ⟨ra 17, rd_r17 h, of_eq_true (rA_17 h), ?_, ra 15, rd_r15 h, of_eq_true (rA_15 h), of_eq_true (rN_15 h e36), of_eq_true (rW_15 h), ?_⟩, fun c => ?_⟩
    · rw [li_256, pk_mul]; exact of_eq_true (rN_17 h (by omega))
    · rw [rR_15 h, g15, li_256, pk_mul, nI_clamp (by omega), rR_17 h, li_1, pk_sub (by omega)]
      have g0 := g17 0 (by omega)
      rw [Nat.add_zero] at g0
      rw [g0]
      rw [pe, if_pos (by omega)] at hE ⊢
      have k1 := rm_wr h (f := 15) (j := e) (v := nI ((b_ P 1 (1 + e)).length - 1))
      have lp : ∀ (m i : Nat) (R1 : Nat → Nat → Int32) (M : sm_M), i + m = (b_ P 1 (1 + e)).length - 1 → RM a ra R1 M → (∀ j, j < i → R1 17 (256 * e + j) = R 17 (256 * e + (j + 1))) → (∀ j, i ≤ j → R1 17 (256 * e + j) = R 17 (256 * e + j)) → R1 15 e = nI ((b_ P 1 (1 + e)).length - 1) → (∀ f j, ¬ ((f = 15 ∧ j = e) ∨ (f = 17 ∧ 256 * e ≤ j ∧ j < 256 * e + 256)) → R1 f j = R f j) → sm_Run (D + 2) 201 66 [some (.inr (some a)), some (.inl (nI d)), some (.inl x2), some (.inl (nI e)), some (.inl (nI ((b_ P 1 (1 + e)).getD 0 0))), some (.inl (nI i))] [] M (CQ a ra P (some (nI ((b_ P 1 (1 + e)).getD 0 0)), pB P 1 (1 + e) ((b_ P 1 (1 + e)).drop 1))) := by
        intro m
        induction m with
        | zero =>
          intro i R1 M hi k1 k2 k3 k4 k5
          refine bb_201_66 ⟨k1.1, ra 15, rd_r15 k1, of_eq_true (rA_15 k1), of_eq_true (rN_15 k1 e36), ?_⟩
          rw [cl, rR_15 k1, k4, nI_leI (by omega) (by omega)]
          refine ⟨fun _ => ⟨rfl, R1, k1, co_q (e := e) (l := (b_ P 1 (1 + e)).drop 1) hC hE (by rw [b_B, if_neg (by omega)]; exact hB.1) (fun f j => rfl) rfl (fun c j hn => ?_) e36 (by rw [b_Bs]) (b8_drop ib) (by omega) (fun f j hf => k5 f j (by omega)) (by rw [List.length_drop]; exact k4) (fun j hj => ?_) ?_ (fun j hj => ?_), Nat.le_add_right _ _⟩, fun q => by omega⟩
          · rw [b_B, if_neg (by omega)]
          · rw [List.length_drop] at hj
            rw [k2 j (by omega), getD_dropN, Nat.add_comm 1 j]
            exact g17 _ (by omega)
          · rw [b_B, if_neg (by omega), k5 3 0 (by omega)]; exact q1
          · rw [b_B, if_neg (by omega)] at hj ⊢
            rw [k5 2 j (by omega)]; exact q2 j hj
        | succ m ih =>
          intro i R1 M hi k1 k2 k3 k4 k5
          refine bb_201_66 ⟨k1.1, ra 15, rd_r15 k1, of_eq_true (rA_15 k1), of_eq_true (rN_15 k1 e36), ?_⟩
          rw [cl, rR_15 k1, k4, nI_leI (by omega) (by omega)]
          refine ⟨fun q => by omega, fun _ => ⟨ra 17, rd_r17 k1, of_eq_true (rA_17 k1), ?_, of_eq_true (rW_17 k1), ?_, ?_⟩⟩
          · rw [li_256, pk_mul, nI_add, nI_1]; exact of_eq_true (rN_17 k1 (by omega))
          · rw [li_256, pk_mul, nI_add]; exact of_eq_true (rN_17 k1 (by omega))
          · rw [li_256, pk_mul, nI_add, nI_1, nI_1, nI_clamp (by omega), nI_clamp (by omega), rR_17 k1, show 256 * e + i + 1 = 256 * e + (i + 1) by omega, k3 (i + 1) (by omega)]
            refine ih (i + 1) (sm_u2 R1 17 (256 * e + i) (R 17 (256 * e + (i + 1)))) _ (by omega) (rm_wr k1) (fun j hj => ?_) (fun j hj => ?_) (by rw [u2_r, if_neg (by omega)]; exact k4) (fun f j hf => ?_)
            · rw [u2_r]
              by_cases c : j = i
              · rw [if_pos ⟨rfl, by omega⟩, c]
              · rw [if_neg (by omega)]; exact k2 j (by omega)
            · rw [u2_r, if_neg (by omega)]; exact k3 j (by omega)
            · rw [u2_r, if_neg (by omega)]; exact k5 f j hf
      refine lp ((b_ P 1 (1 + e)).length - 1) 0 _ _ (by omega) k1 (fun j hj => by omega) (fun j _ => by rw [u2_r, if_neg (by omega)]) (by rw [u2_r, if_pos ⟨rfl, rfl⟩]) (fun f j hf => by rw [u2_r, if_neg (by omega)])
    · have l0 : (b_ P 1 (1 + e)).length = 0 := by omega
      have e0 : b_ P 1 (1 + e) = [] := List.length_eq_zero_iff.mp l0
      rw [pe, if_neg (by omega)] at hE ⊢
      have eP : pB P 1 (1 + e) ((b_ P 1 (1 + e)).drop 1) = P := by
        rw [e0]
        show pB P 1 (1 + e) [] = P
        rw [← e0]; exact pBe
      rw [eP]
      exact cq_same h hC _ rfl
end IX_
