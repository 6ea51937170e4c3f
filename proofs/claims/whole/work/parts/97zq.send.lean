/-! Calls, both sides: send. -/
section IZ_
variable {a : Nat} {ra : Nat → Nat} {R R' : Nat → Nat → Int32} {M : sm_M} {D : Nat} {P P' Pc P1 X Z : pP} {d k t i n m e : Nat} {x x1 x2 x3 x4 x5 : Int32}
/-- INV does not look at the reel -/
theorem inv_b {l : List Nat} (hI : INV P) (h6 : ∀ d, d < 6 → s_ P 86 d ≤ 6) : INV (pB P 1 0 l) := by
  have g := hI.1
  have so : ∀ d, SO d P (pB P 1 0 l) := fun d => ⟨fun _ _ _ => rfl, fun c i o => by rw [b_B, if_neg]; rintro ⟨rfl, rfl⟩; unfold ownB at o; omega⟩
  exact inv_lift hI h6 (fun f j _ => rfl) g.2.2.1 g.2.2.2.1 g.2.2.2.2.1 g.2.2.2.2.2.2.1 rfl g.2.2.2.2.2.2.2.2.1 hI.2.2.2.2.1.1 hI.2.2.2.2.1.2 (fun t => by rw [b_B, if_neg (by omega)]) (sts_so (fun d _ => so d)) (fun d _ => zs_so (so d))
/-- send -/
theorem r_send (h : RM a ra R M) (hC : CO P R) : sm_Run (D + 2) 196 0 (sm_ent 196 [.inr (some a), .inl x1, .inl x2, .inl x3]) [] M (CQ a ra P (p_send P x1 x2 x3)) := by
  obtain ⟨⟨f1, f2, f3, f4, f5⟩, f6⟩ := id hC
  obtain ⟨w1, w2, w3, w4, hH⟩ := id f1
  have hx := exo_ex f3
  have hE : EXO (p_send P x1 x2 x3).2 := by
    obtain ⟨n0, u0, g, M, hr, hg⟩ := f3
    obtain ⟨v, M', -, g', -, k1, k2⟩ := ru_ex (c_send (D := 0) (x1 := x1) (x2 := x2) (x3 := x3) hr hg (hw_of f2 hx))
    exact ⟨n0, u0, g', M', k2, k1⟩
  have b122 := ex_122 hx
  have l1 := exo_len1 f3
  have hB := f6.2.2.2.2.2
  obtain ⟨q1, q2, q3⟩ := hH.2.2.2
  have r70 : R 70 0 = nI (s_ P 122 0) := hH.1.2.2.1
  have no : p_send P x1 x2 x3 = (some (-1), P) → CQ a ra P (p_send P x1 x2 x3) (some (.inl (-1))) M := fun c => by
    rw [c]; exact cq_same h hC _ rfl
  have noA : (x3 < 0 ∨ (128 : Int32) ≤ x2 ∨ (b_ P 1 0).length < x3.toNatClampNeg) → CQ a ra P (p_send P x1 x2 x3) (some (.inl (-1))) M := fun c => no (by unfold p_send; rw [if_pos c])
  have noB : (devN x1).bind (fun d => p_mfp P d x2 x3.toNatClampNeg) = none → CQ a ra P (p_send P x1 x2 x3) (some (.inl (-1))) M := fun c => no (by
    unfold p_send
    split
    · rfl
    · rw [c])
  refine bb_196_0 ⟨h.1, ?_⟩
  refine ru_mono (r_ppx (D := D) h hx hH) ?_
  rintro v M1 ⟨rfl, rfl⟩
  unfold ppX
  by_cases q : x1 < 0 ∨ (5 : Int32) < x1
  · have c : (devN x1).bind (fun d => p_mfp P d x2 x3.toNatClampNeg) = none := by rw [devN_no q]; rfl
    rw [devN_no q]
    exact bb_196_6 ⟨fun _ => noB c, fun _ => ⟨fun _ => noB c, fun _ => ⟨h.1, fun _ => noB c, fun _ => ⟨fun _ => noB c, fun c => absurd rfl c⟩⟩⟩⟩
  obtain ⟨d, hd, rfl, e⟩ := devN_ge (fun c => q (Or.inl c)) (fun c => q (Or.inr c))
  obtain ⟨p1, p2, p3, p4, p5⟩ := hH.2.1 d hd
  have p6 := ex_164 hx hd
  rw [e] at noB ⊢
  dsimp only
  have eb : ((some d).bind fun d => p_mfp P d x2 x3.toNatClampNeg) = p_mfp P d x2 x3.toNatClampNeg := rfl
  rw [eb] at noB
  refine bb_196_6 ⟨fun c => noA (Or.inl c), fun c1 => ?_⟩
  obtain ⟨n, hn, rfl⟩ := nI_of c1
  rw [nI_clamp hn] at noB noA
  rw [li_100, nI_ltI (by decide) hn, ptP_m1 hd (fun k ek => by have := (pfind_lt ek).1; omega), rS_3 h, q1, nI_ltI (by omega) hn]
  refine ⟨fun c => noB (by unfold p_mfp; rw [if_pos (Or.inl c)]), fun c100 => ⟨h.1, fun c => noA (Or.inr (Or.inr c)), fun cL => ?_⟩⟩
  cases ep : p_pfind P d x2 with
  | none => exact ⟨fun _ => noB (by unfold p_mfp; split; rfl; rw [ep]), fun c => absurd rfl c⟩
  | some k =>
    obtain ⟨hk, ex2⟩ := pfind_lt ep
    obtain ⟨g1, g2, g3, g4, g5, g6⟩ := p5 k hk
    refine ⟨fun c => (by cases c), fun _ => ⟨fun c => noA (Or.inr (Or.inl c)), fun c2 => ?_⟩⟩
    rw [rS_70 h, r70, li_300, nI_ltI (by omega) (by decide)]
    refine ⟨fun cT => ⟨ra 67, rd_r67 h, of_eq_true (rW_67 h), of_eq_true (rN_67 h (show 10 * d + k < 60 by omega)), ?_⟩, fun c => noB (by unfold p_mfp; rw [if_pos (Or.inr (by omega))])⟩
    have e67 : (nI (if s_ P 184 (pid P d k) = 0 then 0 else 1) = 0) = (s_ P 184 (pid P d k) = 0) := propext (by
      rw [li_0, nI_eq (by split <;> omega) (by decide)]
      constructor
      · intro z; refine Decidable.byContradiction (fun y => ?_); rw [if_neg y] at z; omega
      · intro z; rw [if_pos z])
    rw [show ptP d (some k) = nI (10 * d + k) from rfl, nI_clamp (by omega), rR_67 h, g6, e67]
    have ef : p_mfp P d x2 n = if s_ P 184 (pid P d k) = 0 then none else some (p_mk P (pid P d k) d (s_ P 182 (pid P d k)) (if x2 < 128 then 0 else 1) n 0 0 0 1) := by
      unfold p_mfp
      rw [if_neg (by omega), ep]
    refine ⟨fun c84 => ?_, fun c => noB (by rw [ef, if_pos (Decidable.not_not.mp c)])⟩
    rw [if_neg c84, if_pos (Int32.not_le.mp c2)] at ef
    generalize hXm : p_mk P (pid P d k) d (s_ P 182 (pid P d k)) 0 n 0 0 0 1 = Xm at ef
    have b36 : (b_ Xm 36 (s_ P 122 0)).length = n := by rw [← hXm]; exact pf_len
    have bm : ∀ c j, c ≠ 36 → b_ Xm c j = b_ P c j := fun c j hc => by rw [← hXm, b_mk, if_neg (fun q => hc q.1)]
    have pe : p_send P (nI d) x2 (nI n) = (lastT P, pB (pB Xm 36 (s_ P 122 0) ((b_ P 1 0).take n)) 1 0 ((b_ P 1 0).drop n)) := by
      unfold p_send
      rw [if_neg, e, eb, nI_clamp hn, ef]
      · dsimp only
        unfold p_load
        rw [b36, bm 1 0 (by decide)]
      · rw [nI_clamp hn]
        rintro (c | c | c)
        · exact c1 c
        · exact c2 c
        · exact cL c
    rw [pe] at hE ⊢
    have b180 := ex_b hx 180 (pid P d k)
    have a128 : s_ P 180 (pid P d k) < 128 := by
      have := Int32.not_le.mp c2
      rw [← ex2, li_128, nI_ltI b180 (by decide)] at this; exact this
    rw [← ex2]
    refine ru_mono (r_newT (D := D + 1) (d := d) (ad := s_ P 180 (pid P d k)) (n := n) h r70 (by omega)) ?_
    rintro v M2 ⟨rfl, k1⟩
    have dd := f2.2.2.2.2.2.2.2.2.1 d hd
    obtain ⟨u1, u2, u3, u4, u5, u6⟩ := dd.2.2.2.2.2.2.1 k hk
    have hth : (0 : Nat) = if s_ P 180 (pid P d k) < 128 then 0 else 1 := by rw [if_pos a128]
    have iv := inv_pipe (n := n) (dl := (b_ P 1 0).take n) f2 hx hd hk cT hth (b8_take hB.1)
    rw [hXm] at iv
    have s86 : ∀ d, d < 6 → s_ (pB Xm 36 (s_ P 122 0) ((b_ P 1 0).take n)) 86 d ≤ 6 := fun d hd => by rw [s_B, ← hXm, mk_o (by decide) (by decide) (by omega)]; exact ex_86 hx hd
    have iv2 := inv_b (l := (b_ P 1 0).drop n) iv s86
    have fin : ∀ (M : sm_M), RM a ra (rowU (ntR R (s_ P 122 0) d (s_ P 180 (pid P d k)) n) 81 (100 * s_ P 122 0) n (fun j => R 2 j)) M → ∀ z6 : Int32, sm_Run (D + 1) 154 0 (sm_ent 154 [.inr (some a), .inl (nI n)]) [] M (fun v M1 => sm_Run (D + 2) 196 112 [some (.inr (some a)), some (.inl (nI d)), some (.inl (nI (s_ P 180 (pid P d k)))), some (.inl (nI n)), some (.inl (nI (10 * d + k))), some (.inl (nI (s_ P 122 0))), some (.inl z6)] (v.toList ++ []) M1 (CQ a ra P (lastT P, pB (pB Xm 36 (s_ P 122 0) ((b_ P 1 0).take n)) 1 0 ((b_ P 1 0).drop n)))) := by
      intro M m1 z6
      refine ru_mono (r_drop (D := D) (L := (b_ P 1 0).length) m1 (by rw [rowU_r, if_neg (by omega), nt_r (by omega) (by omega)]; exact q1) l1 (by omega)) ?_
      rintro v M3 ⟨rfl, R3, s1, s2, s3, s4⟩
      have o : ∀ f j, ¬ (f = 2 ∨ f = 3 ∨ (f = 81 ∧ 100 * s_ P 122 0 ≤ j ∧ j < 100 * s_ P 122 0 + 100)) → R3 f j = ntR R (s_ P 122 0) d (s_ P 180 (pid P d k)) n f j := fun f j hf => by rw [s4 f j (by omega) (by omega), rowU_r, if_neg (by omega)]
      have bx : ∀ c j, c ≠ 36 → c ≠ 1 → b_ (pB (pB Xm 36 (s_ P 122 0) ((b_ P 1 0).take n)) 1 0 ((b_ P 1 0).drop n)) c j = b_ P c j := fun c j n1 n2 => by rw [b_B, if_neg (by omega), b_B, if_neg (by omega)]; exact bm c j n1
      refine bb_196_112 ⟨rfl, R3, s1, co_ho hC hE ⟨by rw [b_Bs]; exact b8_drop hB.1, by rw [bx 20 0 (by decide) (by decide)]; exact hB.2⟩ iv2 ?_ (fho_B (fho_B (by rw [← hXm]; exact fho_mk) (Or.inl rfl)) (Or.inr (Or.inr ⟨rfl, rfl⟩))) (fun f j hf => by rw [s_B, s_B, ← hXm]; exact mk_o (by omega) (by omega) (by omega)) (fun f i hf => by rw [o f i (by omega), nt_r (by omega) (by omega)]) (hrel_pnew (dl := (b_ P 1 0).take n) (n := n) (th := 0) hH f2 hx hd hk (fun f j => by rw [s_B, s_B, hXm]) (fun j => ?_) (by rw [List.length_take]; omega) (by omega) (fun f j hf h81 => o f j (by omega)) (fun _ i hi => ?_) ⟨?_, fun i hi => ?_, fun i hi => ?_⟩), ?_⟩
      · refine dr_cg (P := Xm) ?_ (fun f j _ => rfl)
        rw [← hXm]
        exact dr_mk f6.2.1 u2 (fun c => absurd c u1) (fun _ => ⟨by rw [u3]; have := dd.2.2.2.2.2.2.2.2.1 k (by have := dd.2.2.2.2.2.1; omega); omega, hth⟩)
      · rw [b_B, if_neg (by omega), b_B]
        by_cases z : j = s_ P 122 0
        · rw [if_pos ⟨rfl, z⟩, if_pos z]
        · rw [if_neg (fun q => z q.2), if_neg z, ← hXm, b_mk, if_neg (fun q => z q.2)]
      · rw [s4 81 _ (by decide) (by decide), rowU_r, if_pos (by omega), getD_takeN hi, show 100 * s_ P 122 0 + i - 100 * s_ P 122 0 = i by omega]
        exact q2 i (by omega)
      · rw [b_Bs, List.length_drop]; exact s2
      · rw [b_Bs] at hi ⊢
        rw [List.length_drop] at hi
        rw [s3 i hi, rowU_r, if_neg (by omega), nt_r (by omega) (by omega), getD_dropN]
        exact q2 _ (by omega)
      · rw [bx 20 0 (by decide) (by decide), o 1 i (by omega), nt_r (by omega) (by omega)]; exact q3 i hi
      · show s_ (pB (pB Xm 36 (s_ P 122 0) ((b_ P 1 0).take n)) 1 0 ((b_ P 1 0).drop n)) 126 0 ≤ _
        rw [s_B, s_B, ← hXm, mk_o (by decide) (by decide) (by omega)]; exact Nat.le_add_right _ _
    have lp : ∀ (m i : Nat) (M : sm_M), i + m = n → RM a ra (rowU (ntR R (s_ P 122 0) d (s_ P 180 (pid P d k)) n) 81 (100 * s_ P 122 0) i (fun j => R 2 j)) M → sm_Run (D + 2) 196 75 [some (.inr (some a)), some (.inl (nI d)), some (.inl (nI (s_ P 180 (pid P d k)))), some (.inl (nI n)), some (.inl (nI (10 * d + k))), some (.inl (nI (s_ P 122 0))), some (.inl (nI i))] [] M (CQ a ra P (lastT P, pB (pB Xm 36 (s_ P 122 0) ((b_ P 1 0).take n)) 1 0 ((b_ P 1 0).drop n))) := by
      intro m
      induction m with
      | zero =>
        intro i M hi m1
        obtain rfl : i = n := by omega
        exact bb_196_75 ⟨fun _ => ⟨m1.1, fin M m1 _⟩, fun q => absurd (nI_le (Nat.le_refl _) hn) q⟩
      | succ m ih =>
        intro i M hi m1
        have r2 : sm_I M (ra 2) i = R 2 i := by rw [rR_2 m1, rowU_r, if_neg (by omega), nt_r (by omega) (by omega)]
        refine bb_196_75 ⟨fun q => ?_, fun _ => ⟨m1.1, ra 2, rd_r2 m1, of_eq_true (rA_2 m1), of_eq_true (rN_2 m1 (by omega)), ra 81, rd_r81 m1, of_eq_true (rW_81 m1), ?_, ?_⟩⟩
        · rw [nI_leI hn (by omega)] at q; omega
        · rw [li_100, pk_mul, nI_add]; exact of_eq_true (rN_81 m1 (by omega))
        · rw [li_100, pk_mul, nI_add, nI_clamp (by omega), nI_clamp (by omega), r2, nI_1]
          have := rm_wr m1 (f := 81) (j := 100 * s_ P 122 0 + i) (v := R 2 i)
          rw [rowU_s (v := fun j => R 2 j)] at this
          exact ih (i + 1) _ (by omega) this
    refine bb_196_70 ?_
    exact lp n 0 M2 (by omega) (by rw [rowU_0]; exact k1)
end IZ_
