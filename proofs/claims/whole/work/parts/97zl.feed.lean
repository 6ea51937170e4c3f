/-! Calls, both sides: feed, end. -/
section IS_
variable {a : Nat} {ra : Nat → Nat} {R R' : Nat → Nat → Int32} {M : sm_M} {D : Nat} {P P' Pc P1 X Z : pP} {d k t i n m : Nat} {x x1 x2 x3 x4 x5 : Int32}
theorem getD_setN {l : List Nat} {k v i : Nat} (h : k < l.length) : (l.set k v).getD i 0 = if i = k then v else l.getD i 0 := by
  simp only [List.getD_eq_getElem?_getD, List.getElem?_set]
  by_cases c : k = i
  · subst c; rw [if_pos rfl, if_pos h, if_pos rfl]; rfl
  · rw [if_neg c, if_neg (fun q => c q.symm)]
/-- the cells and the reel -/
theorem hrel_b (hH : HREL P R) (hs : ∀ f j, s_ P' f j = s_ P f j) (hb : ∀ j, b_ P' 36 j = b_ P 36 j) (hr : ∀ f j, f ≠ 1 → f ≠ 2 → f ≠ 3 → f ≠ 15 → f ≠ 17 → R' f j = R f j) (hq : R' 3 0 = nI (b_ P' 1 0).length ∧ (∀ i, i < (b_ P' 1 0).length → R' 2 i = nI ((b_ P' 1 0).getD i 0)) ∧ ∀ i, i < 20 → R' 1 i = nI ((b_ P' 20 0).getD i 0)) : HREL P' R' := by
  have E : HREL P' R' ↔ ((R 0 0 = nI (s_ P 0 0) ∧ R 56 0 = nI (s_ P 125 0) ∧ R 70 0 = nI (s_ P 122 0) ∧ True) ∧ (∀ d, d < 6 → RelP P R d) ∧ (∀ t, t < s_ P 122 0 → RelT P R t) ∧ (R' 3 0 = nI (b_ P' 1 0).length ∧ (∀ i, i < (b_ P' 1 0).length → R' 2 i = nI ((b_ P' 1 0).getD i 0)) ∧ ∀ i, i < 20 → R' 1 i = nI ((b_ P' 20 0).getD i 0))) := by
    unfold HREL RelP RelQ RelT RelC su pid
    simp (disch := decide) only [hs, hb, hr]
  exact E.mpr ⟨hH.1, hH.2.1, hH.2.2.1, hq⟩
theorem co_b (hC : CO P R) (hE : EXO P') (hB : RB P') (hs : ∀ f j, s_ P' f j = s_ P f j) (hf : f_ P' = f_ P) (hb : ∀ c j, ¬ (c = 1 ∧ j = 0) → c ≠ 20 → b_ P' c j = b_ P c j) (hr : ∀ f j, f ≠ 1 → f ≠ 2 → f ≠ 3 → R' f j = R f j) (hq : R' 3 0 = nI (b_ P' 1 0).length ∧ (∀ i, i < (b_ P' 1 0).length → R' 2 i = nI ((b_ P' 1 0).getD i 0)) ∧ ∀ i, i < 20 → R' 1 i = nI ((b_ P' 20 0).getD i 0)) : CO P' R' := by
  obtain ⟨⟨f1, f2, f3, f4, f5⟩, f6, f7, f8, f9, f10, f11⟩ := hC
  obtain ⟨hX, hH⟩ := xr_xw.mp f1
  have ho : FHo P P' := ⟨fun f i _ => hs f i, fun c i n => hb c i (fun q => n (Or.inr (Or.inr q))) (fun q => n (Or.inr (Or.inl q))), hf⟩
  have h6 : ∀ d, d < 6 → s_ P 86 d ≤ 6 := fun d hd => ex_86 hX.1.1.1 hd
  have g := f2.1
  refine ⟨⟨xr_xw.mpr ⟨xw_ho hX (exo_ex hE) ho (fun f i hf => hr f i (by omega) (by omega) (by omega)), hrel_b hH hs (fun j => hb 36 j (by omega) (by decide)) (fun f j n1 n2 n3 _ _ => hr f j n1 n2 n3) hq⟩, ?_, hE, relS_cg f4 (hs 128 0) (hr 69 0 (by decide) (by decide) (by decide)), fun i => by rw [hs, hs]; exact f5 i⟩, by rw [hs, hs]; exact f6, dr_cg f7 (fun f j _ => hs f j), lc_lk f8 (lk_ho ho), lv_lk f9 (lk_ho ho), i5_j5 f10 (j5_ho ho), hB⟩
  exact inv_lift f2 h6 (fun f j _ => hs f j) (by rw [hs]; exact g.2.2.1) (by rw [hs]; exact g.2.2.2.1) (by rw [hs]; exact g.2.2.2.2.1) (by rw [hs]; exact g.2.2.2.2.2.2.1) (hs 185 0) (fun i => by rw [hs]; exact g.2.2.2.2.2.2.2.2.1 i) (fun i => by rw [hs]; exact f2.2.2.2.2.1.1 i) (fun i t h1 => by rw [hs] at h1; exact f2.2.2.2.2.1.2 i t h1) (fun t => hb 36 t (by omega) (by decide)) (sts_so (fun d _ => fho_so ho d)) (fun d _ => zs_so (fho_so ho d))
/-- more of a number -/
theorem r_mr {at_ : Nat} {l : List Nat} (ha : at_ + 4 ≤ 20) (hl : l.length = 20) (h : RM a ra R M) (h1 : ∀ i, i < 20 → R 1 i = nI (l.getD i 0)) : sm_Run (D + 1) 151 0 (sm_ent 151 [.inr (some a), .inl (nI at_), .inl x]) [] M (fun v M' => v = none ∧ ∃ R', RM a ra R' M' ∧ (∀ i, i < 20 → R' 1 i = nI ((mrL l at_ x 4).getD i 0)) ∧ ∀ f j, f ≠ 1 → R' f j = R f j) := by
  have key : ∀ (m i : Nat) (R1 : Nat → Nat → Int32) (M : sm_M), i + m = 4 → RM a ra R1 M → (∀ j, j < 20 → R1 1 j = nI ((mrL l at_ x i).getD j 0)) → (∀ f j, f ≠ 1 → R1 f j = R f j) → sm_Run (D + 1) 151 2 [some (.inr (some a)), some (.inl (nI at_)), some (.inl x), some (.inl (nI i))] [] M (fun v M' => v = none ∧ ∃ R', RM a ra R' M' ∧ (∀ i, i < 20 → R' 1 i = nI ((mrL l at_ x 4).getD i 0)) ∧ ∀ f j, f ≠ 1 → R' f j = R f j) := by
    intro m
    induction m with
    | zero =>
      intro i R1 M hi k1 k2 k3
      obtain rfl : i = 4 := by omega
      exact bb_151_2 ⟨fun _ => ⟨rfl, R1, k1, k2, k3⟩, fun q => absurd (by decide) q⟩
    | succ m ih =>
      intro i R1 M hi k1 k2 k3
      have hv : (x >>> ((24 - 8 * nI i) &&& 31)) &&& 255 = nI (byN x i) := by
        rw [show (24 : Int32) = nI 24 from rfl, li_8, pk_mul, pk_sub (by omega), pk_and _ 8 (by decide)]
        rfl
      refine bb_151_2 ⟨fun q => ?_, fun _ => ⟨k1.1, ra 1, rd_r1 k1, of_eq_true (rW_1 k1), ?_, ?_⟩⟩
      · rw [li_4, nI_leI (by decide) (by omega)] at q; omega
      · rw [nI_add]; exact of_eq_true (rN_1 k1 (by omega))
      · rw [nI_add, nI_clamp (by omega), hv, nI_1]
        refine ih (i + 1) (sm_u2 R1 1 (at_ + i) (nI (byN x i))) _ (by omega) (rm_wr k1) (fun j hj => ?_) (fun f j hf => by rw [u2_r, if_neg (fun q => hf q.1)]; exact k3 f j hf)
        show _ = nI (((mrL l at_ x i).set (at_ + i) (byN x i)).getD j 0)
        rw [u2_r, getD_setN (by rw [mrL_len]; omega)]
        by_cases c : j = at_ + i
        · rw [if_pos ⟨rfl, c⟩, if_pos c]
        · rw [if_neg (fun q => c q.2), if_neg c]; exact k2 j hj
  exact bb_151_0 (key 4 0 R M (by omega) h h1 (fun _ _ _ => rfl))
theorem exo_len20 (h : EXO P) : (b_ P 20 0).length = 20 := by
  obtain ⟨g, M, hr⟩ := exo_ex h
  exact (r_20 hr).1
theorem mr_B8 {l : List Nat} {at_ : Nat} (h : B8 l) : B8 (mrL l at_ x 4) := by
  have key : ∀ n, B8 (mrL l at_ x n) := by
    intro n
    induction n with
    | zero => exact h
    | succ n ih =>
      intro y hy
      have hy : y ∈ (mrL l at_ x n).set (at_ + n) (byN x n) := hy
      rcases List.mem_or_eq_of_mem_set hy with c | c
      · exact ih y c
      · rw [c]; exact Nat.mod_lt _ (by decide)
  exact key 4
/-- feed -/
theorem r_feed (h : RM a ra R M) (hC : CO P R) : sm_Run (D + 2) 152 0 (sm_ent 152 [.inr (some a), .inl x1, .inl x2, .inl x3, .inl x4, .inl x5]) [] M (CQ a ra P (none, p_feed P x1 x2 x3 x4 x5)) := by
  obtain ⟨⟨f1, f2, f3, f4, f5⟩, f6⟩ := id hC
  have hE : EXO (p_feed P x1 x2 x3 x4 x5) := by
    obtain ⟨n0, u0, g, M, hr, hg⟩ := f3
    obtain ⟨v, M', -, k⟩ := ru_ex (c_feed (D := 0) (a := x1) (b := x2) (c := x3) (d := x4) (e := x5) hr)
    exact ⟨n0, u0, g, M', k, gO_cg hg rfl rfl⟩
  have l20 := exo_len20 f3
  obtain ⟨q1, q2, q3⟩ := f1.2.2.2.2.2.2.2
  have z0 : (0 : Int32) = nI 0 := rfl
  refine bb_152_0 ⟨h.1, ?_⟩
  refine ru_mono (r_mr (D := D) (at_ := 0) (x := x1) (by decide) l20 h q3) ?_
  rintro v M1 ⟨rfl, R1, k1, k2, k3⟩
  refine bb_152_6 ⟨k1.1, ?_⟩
  refine ru_mono (r_mr (D := D) (at_ := 4) (x := x2) (by decide) (by rw [mrL_len]; exact l20) k1 k2) ?_
  rintro v M2 ⟨rfl, R2, m1, m2, m3⟩
  refine bb_152_12 ⟨m1.1, ?_⟩
  refine ru_mono (r_mr (D := D) (at_ := 8) (x := x3) (by decide) (by rw [mrL_len, mrL_len]; exact l20) m1 m2) ?_
  rintro v M3 ⟨rfl, R3, n1, n2, n3⟩
  refine bb_152_19 ⟨n1.1, ?_⟩
  refine ru_mono (r_mr (D := D) (at_ := 12) (x := x4) (by decide) (by rw [mrL_len, mrL_len, mrL_len]; exact l20) n1 n2) ?_
  rintro v M4 ⟨rfl, R4, o1, o2, o3⟩
  refine bb_152_27 ⟨o1.1, ?_⟩
  refine ru_mono (r_mr (D := D) (at_ := 16) (x := x5) (by decide) (by rw [mrL_len, mrL_len, mrL_len, mrL_len]; exact l20) o1 o2) ?_
  rintro v M5 ⟨rfl, R5, s1, s2, s3⟩
  have e20 : b_ (p_feed P x1 x2 x3 x4 x5) 20 0 = mrL (mrL (mrL (mrL (mrL (b_ P 20 0) 0 x1 4) 4 x2 4) 8 x3 4) 12 x4 4) 16 x5 4 := by
    unfold p_feed p_mr
    simp only [b_Bs]
  have er : ∀ f j, f ≠ 1 → R5 f j = R f j := fun f j hf => by rw [s3 f j hf, o3 f j hf, n3 f j hf, m3 f j hf, k3 f j hf]
  have eb : ∀ c j, c ≠ 20 → b_ (p_feed P x1 x2 x3 x4 x5) c j = b_ P c j := fun c j hc => by
    unfold p_feed p_mr
    rw [b_B, if_neg (fun q => hc q.1), b_B, if_neg (fun q => hc q.1), b_B, if_neg (fun q => hc q.1), b_B, if_neg (fun q => hc q.1), b_B, if_neg (fun q => hc q.1)]
  have hB := f6.2.2.2.2.2
  have rb : RB (p_feed P x1 x2 x3 x4 x5) := by
    refine ⟨by rw [eb 1 0 (by decide)]; exact hB.1, ?_⟩
    rw [e20]
    exact mr_B8 (mr_B8 (mr_B8 (mr_B8 (mr_B8 hB.2))))
  refine bb_152_35 ⟨rfl, R5, s1, co_b hC hE rb (fun f j => rfl) rfl (fun c j _ hc => eb c j hc) (fun f j hf _ _ => er f j hf) ⟨?_, ?_, ?_⟩, Nat.le_add_right _ _⟩
  · rw [er 3 0 (by decide), eb 1 0 (by decide)]; exact q1
  · intro i hi
    rw [eb 1 0 (by decide)] at hi ⊢
    rw [er 2 i (by decide)]; exact q2 i hi
  · rw [e20]; exact s2
theorem exo_len1 (h : EXO P) : (b_ P 1 0).length ≤ 200 := by
  obtain ⟨g, M, hr⟩ := exo_ex h
  exact rg_len hr (rc_st hr (by decide))
/-- end -/
theorem r_end (h : RM a ra R M) (hC : CO P R) : sm_Run (D + 1) 153 0 (sm_ent 153 [.inr (some a), .inl x]) [] M (CQ a ra P (p_end P x)) := by
  obtain ⟨⟨f1, f2, f3, f4, f5⟩, f6⟩ := id hC
  have hE : EXO (p_end P x).2 := by
    obtain ⟨n0, u0, g, M, hr, hg⟩ := f3
    obtain ⟨v, M', -, k⟩ := ru_ex (c_end (D := 0) (x := x) hr)
    refine ⟨n0, u0, g, M', k, gO_cg hg ?_ ?_⟩
    · unfold p_end; split <;> rfl
    · unfold p_end; split <;> rfl
  have l1 := exo_len1 f3
  have l20 := exo_len20 f3
  obtain ⟨q1, q2, q3⟩ := f1.2.2.2.2.2.2.2
  have no : (x < 0 ∨ (20 : Int32) < x ∨ 200 - (b_ P 1 0).length < x.toNatClampNeg) → CQ a ra P (p_end P x) (some (.inl (-1))) M := fun c => by
    unfold p_end; rw [if_pos c]; exact cq_same h hC _ rfl
  refine bb_153_0 ⟨fun q => no (Or.inl q), fun q => ⟨fun q20 => no (Or.inr (Or.inl q20)), fun q20 => ⟨h.1, ?_⟩⟩⟩
  obtain ⟨n, hn, rfl⟩ := nI_of q
  have n20 : n ≤ 20 := by rw [li_20, nI_ltI (by decide) hn] at q20; omega
  rw [rS_3 h, q1, nI_add, li_200, nI_leI (by omega) (by decide)]
  refine ⟨fun c => ?_, fun c => no (Or.inr (Or.inr (by rw [nI_clamp hn]; omega)))⟩
  have e : p_end P (nI n) = (some (nI ((b_ P 1 0).length + n)), pB (pB P 1 0 (b_ P 1 0 ++ (b_ P 20 0).take n)) 20 0 (List.replicate 20 0)) := by
    unfold p_end
    rw [nI_clamp hn, if_neg]
    rintro (c1 | c1 | c1)
    · exact q c1
    · exact q20 c1
    · omega
  rw [e] at hE ⊢
  have hB := f6.2.2.2.2.2
  have rb : RB (pB (pB P 1 0 (b_ P 1 0 ++ (b_ P 20 0).take n)) 20 0 (List.replicate 20 0)) := by
    refine ⟨?_, ?_⟩
    · rw [b_B, if_neg (by omega), b_Bs]
      intro y hy
      rcases List.mem_append.mp hy with c | c
      · exact hB.1 y c
      · exact hB.2 y (List.mem_of_mem_take c)
    · rw [b_Bs]
      intro y hy
      rw [(List.mem_replicate.mp hy).2]; decide
  have lp2 : ∀ (m i : Nat) (R2 R3 : Nat → Nat → Int32) (M : sm_M) (x1 : Int32), i + m = 20 → RM a ra R3 M → R3 3 0 = nI ((b_ P 1 0).length + n) → (∀ j, j < (b_ P 1 0).length + n → R3 2 j = nI ((b_ P 1 0 ++ (b_ P 20 0).take n).getD j 0)) → (∀ j, j < i → R3 1 j = nI 0) → (∀ f j, f ≠ 1 → f ≠ 2 → f ≠ 3 → R3 f j = R f j) → sm_Run (D + 1) 153 66 [some (.inr (some a)), some (.inl x1), some (.inl (nI i))] [] M (CQ a ra P (some (nI ((b_ P 1 0).length + n)), pB (pB P 1 0 (b_ P 1 0 ++ (b_ P 20 0).take n)) 20 0 (List.replicate 20 0))) := by
    intro m
    induction m with
    | zero =>
      intro i R2 R3 M x1 hi k1 k2 k3 k4 k5
      obtain rfl : i = 20 := by omega
      refine bb_153_66 ⟨fun _ => ⟨k1.1, ?_⟩, fun q => absurd (by decide) q⟩
      rw [rS_3 k1, k2]
      refine ⟨rfl, R3, k1, co_b hC hE rb (fun f j => rfl) rfl (fun c j n1 n2 => ?_) k5 ⟨?_, ?_, ?_⟩, Nat.le_add_right _ _⟩
      · rw [b_B, if_neg (fun q => n2 q.1), b_B, if_neg n1]
      · rw [b_B, if_neg (by omega), b_Bs, List.length_append, List.length_take, l20, Nat.min_eq_left n20]; exact k2
      · rw [b_B, if_neg (by omega), b_Bs]
        intro j hj
        rw [List.length_append, List.length_take, l20, Nat.min_eq_left n20] at hj
        exact k3 j hj
      · intro j hj
        rw [b_Bs, k4 j hj]
        congr 1
        simp only [List.getD_eq_getElem?_getD, List.getElem?_replicate, if_pos hj]
        rfl
    | succ m ih =>
      intro i R2 R3 M x1 hi k1 k2 k3 k4 k5
      refine bb_153_66 ⟨fun q => ?_, fun _ => ⟨k1.1, ra 1, rd_r1 k1, of_eq_true (rW_1 k1), of_eq_true (rN_1 k1 (by omega)), ?_⟩⟩
      · rw [li_20, nI_leI (by decide) (by omega)] at q; omega
      rw [nI_clamp (by omega), nI_1]
      refine ih (i + 1) R2 (sm_u2 R3 1 i (nI 0)) _ x1 (by omega) (rm_wr k1) ?_ (fun j hj => ?_) (fun j hj => ?_) (fun f j n1 n2 n3 => ?_)
      · rw [u2_r, if_neg (by omega)]; exact k2
      · rw [u2_r, if_neg (by omega)]; exact k3 j hj
      · rw [u2_r]
        split
        · rfl
        · exact k4 j (by omega)
      · rw [u2_r, if_neg (by omega)]; exact k5 f j n1 n2 n3
  have lp1 : ∀ (m i : Nat) (M : sm_M), i + m = n → RM a ra (rowU R 2 (b_ P 1 0).length i (fun j => R 1 j)) M → sm_Run (D + 1) 153 26 [some (.inr (some a)), some (.inl (nI n)), some (.inl (nI i))] [] M (CQ a ra P (some (nI ((b_ P 1 0).length + n)), pB (pB P 1 0 (b_ P 1 0 ++ (b_ P 20 0).take n)) 20 0 (List.replicate 20 0))) := by
    intro m
    induction m with
    | zero =>
      intro i M hi k1
      obtain rfl : i = n := by omega
      have e3 : sm_I M a 3 = nI (b_ P 1 0).length := by rw [rS_3 k1, rowU_r, if_neg (by omega)]; exact q1
      refine bb_153_26 ⟨fun _ => ⟨k1.1, ?_⟩, fun q => absurd (nI_le (Nat.le_refl _) hn) q⟩
      rw [e3, nI_add]
      refine lp2 20 0 R _ _ _ (by omega) (rm_sr k1) (by rw [u2_r, if_pos ⟨rfl, rfl⟩]) (fun j hj => ?_) (fun j hj => by omega) (fun f j n1 n2 n3 => ?_)
      · rw [u2_r, if_neg (by omega), rowU_r]
        by_cases z : j < (b_ P 1 0).length
        · rw [if_neg (by omega), getD_appL z]; exact q2 j z
        · rw [if_pos (by omega), getD_appR (by omega), getD_takeN (by omega)]; exact q3 _ (by omega)
      · rw [u2_r, if_neg (by omega), rowU_r, if_neg (by omega)]
    | succ m ih =>
      intro i M hi k1
      have e3 : sm_I M a 3 = nI (b_ P 1 0).length := by rw [rS_3 k1, rowU_r, if_neg (by omega)]; exact q1
      refine bb_153_26 ⟨fun q => ?_, fun _ => ⟨k1.1, ra 1, rd_r1 k1, of_eq_true (rA_1 k1), of_eq_true (rN_1 k1 (by omega)), ra 2, rd_r2 k1, of_eq_true (rW_2 k1), ?_, ?_⟩⟩
      · rw [nI_leI hn (by omega)] at q; omega
      · rw [e3, nI_add]; exact of_eq_true (rN_2 k1 (by omega))
      · rw [e3, nI_add, nI_clamp (by omega), nI_clamp (by omega), rR_1 k1, nI_1, rowU_r, if_neg (by omega)]
        have := rm_wr k1 (f := 2) (j := (b_ P 1 0).length + i) (v := R 1 i)
        rw [rowU_s (v := fun j => R 1 j)] at this
        exact ih (i + 1) _ (by omega) this
  exact lp1 n 0 M (by omega) (by rw [rowU_0]; exact h)
end IS_
