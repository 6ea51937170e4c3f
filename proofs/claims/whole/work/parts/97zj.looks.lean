/-! Calls, both sides: transfer, state, point. -/
section IP_
variable {a : Nat} {ra : Nat → Nat} {R R' : Nat → Nat → Int32} {M : sm_M} {D : Nat} {P Pc P1 X Z : pP} {d k t i n m : Nat} {x x1 x2 x3 x4 x5 : Int32}
theorem devN_ge (q : ¬ x < 0) (q5 : ¬ (5 : Int32) < x) : ∃ d, d < 6 ∧ x = nI d ∧ devN x = some d := by
  obtain ⟨d, hd, rfl⟩ := nI_of q
  rw [li_5, nI_ltI (by decide) hd] at q5
  refine ⟨d, by omega, rfl, ?_⟩
  unfold devN
  rw [if_neg, nI_clamp hd]
  rintro (c | c)
  · exact q c
  · rw [li_6, nI_leI (by decide) hd] at c; omega
theorem devN_no (q : x < 0 ∨ (5 : Int32) < x) : devN x = none := by
  unfold devN
  rw [if_pos]
  rcases q with q | q
  · exact Or.inl q
  · right
    by_cases c : x < 0
    · exact absurd q (fun q' => by
        have a1 := Int32.lt_iff_toInt_lt.mp c
        have a2 := Int32.lt_iff_toInt_lt.mp q'
        have b0 : (0 : Int32).toInt = 0 := rfl
        have b5 : (5 : Int32).toInt = 5 := rfl
        omega)
    · obtain ⟨n, hn, rfl⟩ := nI_of c
      rw [li_5, nI_ltI (by decide) hn] at q
      rw [li_6, nI_leI (by decide) hn]
      omega
/-- transfer -/
theorem r_transfer (h : RM a ra R M) (hC : CO P R) : sm_Run (D + 1) 204 0 (sm_ent 204 [.inr (some a), .inl x1, .inl x2]) [] M (fun v M' => v = some (.inl (p_transfer P x1 x2)) ∧ M = M') := by
  obtain ⟨⟨f1, f2, f3, -, -⟩, -, hD, -⟩ := id hC
  obtain ⟨w1, w2, w3, w4, hH⟩ := id f1
  have hx := exo_ex f3
  have r70 : R 70 0 = nI (s_ P 122 0) := hH.1.2.2.1
  have b122 := ex_122 hx
  unfold p_transfer
  refine bb_204_0 ⟨fun q => ?_, fun q => ⟨h.1, ?_⟩⟩
  · rw [if_pos q]; exact ⟨rfl, rfl⟩
  rw [if_neg q]
  obtain ⟨t, ht0, rfl⟩ := nI_of q
  rw [rS_70 h, r70, nI_leI (by omega) ht0, nI_clamp ht0]
  refine ⟨fun q1 => ?_, fun q1 => ?_⟩
  · rw [if_pos q1]; exact ⟨rfl, rfl⟩
  rw [if_neg q1]
  have ht : t < s_ P 122 0 := by omega
  obtain ⟨t1, t2, t3, t4, t5, t6, t7, t8⟩ := hH.2.2.1 t ht
  obtain ⟨d1, d2, d3⟩ := hD.2 t ht
  have tt := f2.2.1 t ht
  have l100 := ex_36 hx ht
  have ho : s_ P 210 t ≤ (b_ P 36 t).length := tt.2.1
  have i71 : sm_in_ M (ra 71) (nI t) := of_eq_true (rN_71 h (by omega))
  have i72 : sm_in_ M (ra 72) (nI t) := of_eq_true (rN_72 h (by omega))
  have i73 : sm_in_ M (ra 73) (nI t) := of_eq_true (rN_73 h (by omega))
  have i74 : sm_in_ M (ra 74) (nI t) := of_eq_true (rN_74 h (by omega))
  have i75 : sm_in_ M (ra 75) (nI t) := of_eq_true (rN_75 h (by omega))
  have i76 : sm_in_ M (ra 76) (nI t) := of_eq_true (rN_76 h (by omega))
  unfold p_trf
  refine ⟨fun q2 => ⟨fun z => ⟨ra 71, rd_r71 h, of_eq_true (rA_71 h), i71, ?_, rfl⟩, fun z => ⟨ra 72, rd_r72 h, of_eq_true (rA_72 h), i72, ?_, rfl⟩, fun z => ⟨ra 73, rd_r73 h, of_eq_true (rA_73 h), i73, ?_, rfl⟩, fun z => ⟨ra 74, rd_r74 h, of_eq_true (rA_74 h), i74, ?_, rfl⟩, fun z => ⟨ra 75, rd_r75 h, of_eq_true (rA_75 h), i75, ?_, rfl⟩, fun z => ⟨ra 76, rd_r76 h, of_eq_true (rA_76 h), i76, ?_, rfl⟩, fun z0 z1 z2 z3 z4 z5 => ⟨ra 72, rd_r72 h, of_eq_true (rA_72 h), i72, ?_⟩⟩, fun q2 => ?_⟩
  · subst z; rw [rR_71 h, t1]; rfl
  · subst z; rw [rR_72 h, t2]; rfl
  · subst z; rw [rR_73 h, t3]; rfl
  · subst z; rw [rR_74 h, t4]; rfl
  · subst z; rw [rR_75 h, t5]; rfl
  · subst z; rw [rR_76 h, t6]; rfl
  · rw [if_neg z0, if_neg z1, if_neg z2, if_neg z3, if_neg z4, if_neg z5]
    have q2' : ¬ x2 < 0 := fun c => by
      have a1 := Int32.lt_iff_toInt_lt.mp c
      have a2 := Int32.le_iff_toInt_le.mp q2
      omega
    obtain ⟨y, hy, rfl⟩ := nI_of q2'
    have n6 : 6 ≤ y := by
      refine Decidable.byContradiction (fun c => ?_)
      have : y = 0 ∨ y = 1 ∨ y = 2 ∨ y = 3 ∨ y = 4 ∨ y = 5 := by omega
      rcases this with rfl | rfl | rfl | rfl | rfl | rfl
      · exact z0 rfl
      · exact z1 rfl
      · exact z2 rfl
      · exact z3 rfl
      · exact z4 rfl
      · exact z5 rfl
    rw [if_neg (by rw [li_6, nI_leI (by decide) hy]; omega), nI_clamp hy, rR_72 h, t2]
    have es : nI y - 6 = nI (y - 6) := by rw [li_6, pk_sub n6]
    have ei : nI 100 * nI t + nI y - 6 = nI (100 * t + y - 6) := by rw [li_6, pk_mul, nI_add, pk_sub (by omega)]
    have fin : ∀ L, L = hav P t → L ≤ 100 → ((nI L ≤ nI y - 6 → (some (Sum.inl (-1)) : Option sm_V) = some (.inl (if y - 6 < hav P t then nI ((b_ P 36 t).getD (y - 6) 0) else -1)) ∧ M = M) ∧ (¬ nI L ≤ nI y - 6 → ∃ b, sm_R M a 81 = some b ∧ sm_iA M b ∧ sm_in_ M b (100 * nI t + nI y - 6) ∧ (some (Sum.inl (sm_I M b (100 * nI t + nI y - 6).toNatClampNeg)) : Option sm_V) = some (.inl (if y - 6 < hav P t then nI ((b_ P 36 t).getD (y - 6) 0) else -1)) ∧ M = M)) := by
      intro L hL l1
      rw [es, li_100, ei, nI_leI (by omega) (by omega), hL]
      refine ⟨fun c => ⟨by rw [if_neg (by omega)], rfl⟩, fun c => ⟨ra 81, rd_r81 h, of_eq_true (rA_81 h), of_eq_true (rN_81 h (by omega)), ?_, rfl⟩⟩
      have lh : hav P t ≤ (b_ P 36 t).length := by unfold hav; split <;> omega
      have hv : s_ P 203 t = 0 ∨ y - 6 < s_ P 210 t := by
        by_cases z : s_ P 203 t = 0
        · exact Or.inl z
        · right
          have : hav P t = s_ P 210 t := by unfold hav; rw [if_neg z]
          omega
      rw [if_pos (by omega), nI_clamp (by omega), rR_81 h, show 100 * t + y - 6 = 100 * t + (y - 6) by omega, t7 (y - 6) (by omega) hv]
    have b180 := ex_b hx 180 (s_ P 213 t)
    have hl := hD.2 t ht
    have go134 : s_ P 203 t ≠ 0 → sm_Run (D + 1) 204 134 [some (.inr (some a)), some (.inl (nI t)), some (.inl (nI y)), none] [] M (fun v M' => v = some (.inl (if y - 6 < hav P t then nI ((b_ P 36 t).getD (y - 6) 0) else -1)) ∧ M = M') := by
      intro c
      refine bb_204_134 ⟨h.1, ra 74, rd_r74 h, of_eq_true (rA_74 h), i74, ?_⟩
      rw [nI_clamp ht0, rR_74 h, t4]
      exact fin (s_ P 210 t) (by unfold hav; rw [if_neg c]) (by omega)
    have go138 : s_ P 203 t = 0 → sm_Run (D + 1) 204 138 [some (.inr (some a)), some (.inl (nI t)), some (.inl (nI y)), none] [] M (fun v M' => v = some (.inl (if y - 6 < hav P t then nI ((b_ P 36 t).getD (y - 6) 0) else -1)) ∧ M = M') := by
      intro c
      refine bb_204_138 ⟨h.1, ra 75, rd_r75 h, of_eq_true (rA_75 h), i75, ?_⟩
      rw [nI_clamp ht0, rR_75 h, t5]
      exact fin (b_ P 36 t).length (by unfold hav; rw [if_pos c]) (by omega)
    refine ⟨fun c => go134 ?_, fun c => ⟨ra 72, rd_r72 h, of_eq_true (rA_72 h), i72, ?_⟩⟩
    · rw [li_128, nI_leI (by decide) b180] at c
      have z : s_ P 213 t ≠ 0 := fun z => by rw [z, f2.1.2.2.2.2.2.1] at c; omega
      rw [(d3 z).2, if_neg (by omega)]; decide
    · rw [li_128, nI_leI (by decide) b180] at c
      rw [rR_72 h, t2, li_0, nI_eq b180 (by decide)]
      refine ⟨fun c0 => go138 ?_, fun c0 => ⟨ra 80, rd_r80 h, of_eq_true (rA_80 h), of_eq_true (by rw [li_8, pk_mul]; exact rN_80 h (by omega)), ?_⟩⟩
      · have z : s_ P 213 t ≠ 0 := fun z => by rw [z, f2.1.2.2.2.2.2.1] at c0; omega
        rw [(d3 z).2, if_pos (by omega)]
      · have c0' : s_ P 180 (s_ P 213 t) = 0 := by omega
        have z : s_ P 213 t = 0 := Decidable.byContradiction (fun z => (d3 z).1 c0')
        have r80 : R 80 (8 * t) = nI (s_ P 205 t / 256) := (t8 z).2.1 0 (by decide)
        have w16 := tt.2.2.2.2.2.2.1
        rw [li_8, pk_mul, nI_clamp (by omega), rR_80 h, r80, li_128, nI_ltI (by omega) (by decide)]
        have e3 := d2 z
        refine ⟨fun c => go138 ?_, fun c => go134 ?_⟩
        · rw [e3, if_pos (by omega)]
        · rw [e3, if_neg (by omega)]; decide
  · have z : ∀ n : Nat, n < 2 ^ 31 → ¬ x2 = nI n := fun n hn c => q2 (by rw [c, li_0]; exact nI_le (Nat.zero_le _) hn)
    rw [if_neg (show ¬ x2 = 0 from z 0 (by decide)), if_neg (show ¬ x2 = 1 from z 1 (by decide)), if_neg (show ¬ x2 = 2 from z 2 (by decide)), if_neg (show ¬ x2 = 3 from z 3 (by decide)), if_neg (show ¬ x2 = 4 from z 4 (by decide)), if_neg (show ¬ x2 = 5 from z 5 (by decide)), if_pos (fun c => q2 ?_)]
    · exact ⟨rfl, rfl⟩
    · have a2 := Int32.le_iff_toInt_le.mp c
      have b6 : (6 : Int32).toInt = 6 := rfl
      have b0 : (0 : Int32).toInt = 0 := rfl
      exact Int32.le_iff_toInt_le.mpr (by omega)
theorem rx_get (h : RelX P R d) : R 4 d = nI (s_ P 83 d) ∧ R 5 d = nI (s_ P 84 d) ∧ R 6 d = nI (s_ P 80 d) ∧ R 7 d = nI (s_ P 81 d) ∧ R 8 d = nI (s_ P 82 d) ∧ R 9 d = nI (s_ P 86 d) ∧ (∀ j, j < 64 → R 18 (64 * d + j) = nI ((b_ P 28 d).getD j 0)) ∧ ∀ k, k < s_ P 86 d → RelE P R (6 * d + k) := by
  obtain ⟨⟨a4, a5, a6, a7, a8, a9, -, -, a18⟩, -, he⟩ := h
  rw [sdR_s (by decide), sh_s (by decide)] at a4 a5 a6 a7 a8 a9
  refine ⟨a4, a5, a6, a7, a8, a9, fun j hj => by have := a18 j hj; rw [sdR_s (by decide), sh_b] at this; exact this, fun k hk => ?_⟩
  have := he k (by rw [sh_s (by decide)]; exact hk)
  unfold RelE at this ⊢
  simp (disch := decide) only [sdR_s, sh_s, sh_b] at this
  exact this
def ptX (P : pP) (x1 x2 : Int32) : Int32 := match devN x1 with
  | none => -1
  | some d => ptI d (p_findI P d x2)
def ppX (P : pP) (x1 x2 : Int32) : Int32 := match devN x1 with
  | none => -1
  | some d => ptP d (p_pfind P d x2)
theorem r_ptx (h : RM a ra R M) (hx : EX P) (hr : ∀ d, d < 6 → RelX P R d) : sm_Run (D + 1) 155 0 (sm_ent 155 [.inr (some a), .inl x1, .inl x2]) [] M (fun v M' => v = some (.inl (ptX P x1 x2)) ∧ M = M') := by
  unfold ptX
  by_cases q : x1 < 0 ∨ (5 : Int32) < x1
  · rw [devN_no q]
    refine bb_155_0 ⟨fun _ => ⟨rfl, rfl⟩, fun q1 => ⟨fun q2 => ?_, fun _ => ⟨rfl, rfl⟩⟩⟩
    rcases q with q | q
    · exact absurd q q1
    · have a1 := Int32.lt_iff_toInt_lt.mp q
      have a2 := Int32.le_iff_toInt_le.mp q2
      omega
  · obtain ⟨d, hd, rfl, e⟩ := devN_ge (fun c => q (Or.inl c)) (fun c => q (Or.inr c))
    rw [e]
    obtain ⟨-, -, -, -, -, a9, -, he⟩ := rx_get (hr d hd)
    exact r_ptA h hx a9 he hd
theorem r_ppx (h : RM a ra R M) (hx : EX P) (hH : HREL P R) : sm_Run (D + 1) 177 0 (sm_ent 177 [.inr (some a), .inl x1, .inl x2]) [] M (fun v M' => v = some (.inl (ppX P x1 x2)) ∧ M = M') := by
  unfold ppX
  by_cases q : x1 < 0 ∨ (5 : Int32) < x1
  · rw [devN_no q]
    refine bb_177_0 ⟨fun _ => ⟨rfl, rfl⟩, fun q1 => ⟨fun q2 => ?_, fun _ => ⟨rfl, rfl⟩⟩⟩
    rcases q with q | q
    · exact absurd q q1
    · have a1 := Int32.lt_iff_toInt_lt.mp q
      have a2 := Int32.le_iff_toInt_le.mp q2
      omega
  · obtain ⟨d, hd, rfl, e⟩ := devN_ge (fun c => q (Or.inl c)) (fun c => q (Or.inr c))
    rw [e]
    obtain ⟨p1, p2, p3, p4, p5⟩ := hH.2.1 d hd
    exact r_pipeOf h p4 (ex_164 hx hd) (fun k hk => (p5 k hk).1) hd
/-- state -/
theorem r_state (h : RM a ra R M) (hC : CO P R) : sm_Run (D + 1) 205 0 (sm_ent 205 [.inr (some a), .inl x1, .inl x2]) [] M (fun v M' => v = some (.inl (p_state P x1 x2)) ∧ M = M') := by
  obtain ⟨⟨f1, f2, f3, -, -⟩, -, hD, -⟩ := id hC
  obtain ⟨w1, w2, w3, w4, hH⟩ := id f1
  unfold p_state
  refine bb_205_0 ⟨fun q => ?_, fun q => ⟨fun q5 => ?_, fun q5 => ?_⟩⟩
  · rw [devN_no (Or.inl q)]; exact ⟨rfl, rfl⟩
  · rw [devN_no (Or.inr q5)]; exact ⟨rfl, rfl⟩
  obtain ⟨d, hd, rfl, e⟩ := devN_ge q q5
  obtain ⟨a4, a5, -, -, -, -, a18, -⟩ := rx_get (w3.1 d hd)
  obtain ⟨p1, p2, p3, p4, p5⟩ := hH.2.1 d hd
  have cl : (nI d).toNatClampNeg = d := nI_clamp (by omega)
  rw [e]
  unfold p_std
  dsimp only
  rw [cl]
  refine ⟨fun q2 => ?_, fun q2 => ⟨fun q8 => ⟨fun z => ⟨h.1, ra 4, rd_r4 h, of_eq_true (rA_4 h), of_eq_true (rN_4 h hd), ?_, rfl⟩, fun z => ⟨h.1, ra 5, rd_r5 h, of_eq_true (rA_5 h), of_eq_true (rN_5 h hd), ?_, rfl⟩, fun z => ⟨h.1, ra 57, rd_r57 h, of_eq_true (rA_57 h), of_eq_true (rN_57 h hd), ?_, rfl⟩, fun z => ⟨h.1, ra 58, rd_r58 h, of_eq_true (rA_58 h), of_eq_true (rN_58 h hd), ?_, rfl⟩, fun z => ⟨h.1, ra 61, rd_r61 h, of_eq_true (rA_61 h), of_eq_true (rN_61 h hd), ?_, rfl⟩, fun z0 z1 z2 z3 z4 => ⟨h.1, ra 18, rd_r18 h, of_eq_true (rA_18 h), ?_⟩⟩, fun q8 => ?_⟩⟩
  · have n : ∀ n : Nat, n < 2 ^ 31 → ¬ x2 = nI n := fun n hn c => by
      rw [c, li_0, nI_ltI hn (by decide)] at q2; omega
    rw [if_neg (show ¬ x2 = 0 from n 0 (by decide)), if_neg (show ¬ x2 = 1 from n 1 (by decide)), if_neg (show ¬ x2 = 2 from n 2 (by decide)), if_neg (show ¬ x2 = 3 from n 3 (by decide)), if_neg (show ¬ x2 = 4 from n 4 (by decide)), if_pos]
    · exact ⟨rfl, rfl⟩
    · have a1 := Int32.lt_iff_toInt_lt.mp q2
      have b5 : (5 : Int32).toInt = 5 := rfl
      have b0 : (0 : Int32).toInt = 0 := rfl
      exact Int32.lt_iff_toInt_lt.mpr (by omega)
  · subst z; rw [rR_4 h, a4]; rfl
  · subst z; rw [rR_5 h, a5]; rfl
  · subst z; rw [rR_57 h, p1]; rfl
  · subst z; rw [rR_58 h, p2]; rfl
  · subst z; rw [rR_61 h, p4]; rfl
  · rw [if_neg z0, if_neg z1, if_neg z2, if_neg z3, if_neg z4]
    obtain ⟨y, hy, rfl⟩ := nI_of q2
    rw [show (68 : Int32) = nI 68 from rfl, nI_leI hy (by decide)] at q8
    have n5 : 5 ≤ y := by
      refine Decidable.byContradiction (fun c => ?_)
      have : y = 0 ∨ y = 1 ∨ y = 2 ∨ y = 3 ∨ y = 4 := by omega
      rcases this with rfl | rfl | rfl | rfl | rfl
      · exact z0 rfl
      · exact z1 rfl
      · exact z2 rfl
      · exact z3 rfl
      · exact z4 rfl
    have ei : 64 * nI d + nI y - 5 = nI (64 * d + (y - 5)) := by rw [li_64, li_5, pk_mul, nI_add, pk_sub (by omega)]; congr 1; omega
    rw [ei, nI_clamp (by omega), nI_clamp hy, if_neg (by rw [li_5, nI_ltI hy (by decide)]; omega), if_pos (by omega), rR_18 h, a18 _ (by omega)]
    exact ⟨of_eq_true (rN_18 h (by omega)), rfl, rfl⟩
  · obtain ⟨y, hy, rfl⟩ := nI_of q2
    rw [show (68 : Int32) = nI 68 from rfl, nI_leI hy (by decide)] at q8
    have n : ∀ n : Nat, n < 68 → ¬ nI y = nI n := fun n hn c => by rw [nI_eq hy (by omega)] at c; omega
    rw [if_neg (show ¬ nI y = 0 from n 0 (by decide)), if_neg (show ¬ nI y = 1 from n 1 (by decide)), if_neg (show ¬ nI y = 2 from n 2 (by decide)), if_neg (show ¬ nI y = 3 from n 3 (by decide)), if_neg (show ¬ nI y = 4 from n 4 (by decide)), if_neg (by rw [li_5, nI_ltI hy (by decide)]; omega), nI_clamp hy, if_neg (by omega)]
    exact ⟨rfl, rfl⟩
theorem ptI_m1 {o : Option Nat} (hd : d < 6) (ho : ∀ k, o = some k → k < 6) : (ptI d o = -1) = (o = none) := propext (by
  cases o with
  | none => exact ⟨fun _ => rfl, fun _ => rfl⟩
  | some k =>
    have := ho k rfl
    refine ⟨fun c => absurd c ?_, fun c => by cases c⟩
    show ¬ nI (6 * d + k) = nE 0
    exact fun c => by rw [nI_nE (by omega) (by decide)] at c; omega)
theorem ptP_m1 {o : Option Nat} (hd : d < 6) (ho : ∀ k, o = some k → k < 6) : (ptP d o = -1) = (o = none) := propext (by
  cases o with
  | none => exact ⟨fun _ => rfl, fun _ => rfl⟩
  | some k =>
    have := ho k rfl
    refine ⟨fun c => absurd c ?_, fun c => by cases c⟩
    show ¬ nI (10 * d + k) = nE 0
    exact fun c => by rw [nI_nE (by omega) (by decide)] at c; omega)
/-- point -/
theorem r_point (h : RM a ra R M) (hC : CO P R) : sm_Run (D + 2) 206 0 (sm_ent 206 [.inr (some a), .inl x1, .inl x2, .inl x3]) [] M (fun v M' => v = some (.inl (p_point P x1 x2 x3)) ∧ M = M') := by
  obtain ⟨⟨f1, f2, f3, -, -⟩, -, hD, -⟩ := id hC
  obtain ⟨w1, w2, w3, w4, hH⟩ := id f1
  have hx := exo_ex f3
  unfold p_point
  refine bb_206_0 ⟨h.1, ?_⟩
  refine ru_mono (r_ptx (D := D) h hx w3.1) ?_
  rintro v M1 ⟨rfl, rfl⟩
  unfold ptX
  by_cases q : x1 < 0 ∨ (5 : Int32) < x1
  · rw [devN_no q]
    exact bb_206_6 ⟨fun _ => ⟨rfl, rfl⟩, fun c => absurd rfl c⟩
  obtain ⟨d, hd, rfl, e⟩ := devN_ge (fun c => q (Or.inl c)) (fun c => q (Or.inr c))
  obtain ⟨a4, a5, -, -, -, -, a18, he⟩ := rx_get (w3.1 d hd)
  obtain ⟨p1, p2, p3, p4, p5⟩ := hH.2.1 d hd
  rw [e]
  dsimp only
  have e6 := ex_86 hx hd
  have p6 := ex_164 hx hd
  refine bb_206_6 ?_
  rw [ptI_m1 hd (fun k ek => by have := (findI_lt ek).1; omega)]
  cases ef : p_findI P d x2 with
  | none => exact ⟨fun _ => ⟨rfl, rfl⟩, fun c => absurd rfl c⟩
  | some k =>
    have k6 := (findI_lt ef).1
    obtain ⟨-, -, -, g13, g14, g15, -, -⟩ := he k k6
    dsimp only
    unfold p_ptd
    refine ⟨fun c => (by cases c), fun _ => ⟨fun c3 => ?_, fun c3 => ⟨fun c4 => ⟨h.1, ?_⟩, fun c4 => ?_⟩⟩⟩
    · have n : ∀ n : Nat, n < 2 ^ 31 → ¬ x3 = nI n := fun n hn c => by
        rw [c, li_0, nI_ltI hn (by decide)] at c3; omega
      rw [if_neg (show ¬ x3 = 0 from n 0 (by decide)), if_neg (show ¬ x3 = 1 from n 1 (by decide)), if_neg (show ¬ x3 = 2 from n 2 (by decide)), if_neg (show ¬ x3 = 3 from n 3 (by decide)), if_neg (show ¬ x3 = 4 from n 4 (by decide))]
      exact ⟨rfl, rfl⟩
    · refine ru_mono (r_pipeOf (D := D + 1) (x := x2) h p4 p6 (fun k hk => (p5 k hk).1) hd) ?_
      rintro v M1 ⟨rfl, rfl⟩
      have cl : (nI (6 * d + k)).toNatClampNeg = 6 * d + k := nI_clamp (by omega)
      have b104 := ex_b hx 104 (6 * d + k)
      refine bb_206_31 ?_
      rw [ptP_m1 hd (fun k ek => by have := (pfind_lt ek).1; omega)]
      show _ ∧ _
      rw [show ptI d (some k) = nI (6 * d + k) from rfl, cl]
      refine ⟨fun z => ⟨h.1, ra 13, rd_r13 h, of_eq_true (rA_13 h), of_eq_true (rN_13 h (by omega)), ?_, rfl⟩, fun z => ⟨h.1, ra 14, rd_r14 h, of_eq_true (rW_14 h), of_eq_true (rN_14 h (by omega)), ?_⟩, fun z => ⟨h.1, ra 15, rd_r15 h, of_eq_true (rA_15 h), of_eq_true (rN_15 h (by omega)), ?_, rfl⟩, fun z => ?_, fun z0 z1 z2 z3 => ?_⟩
      · subst z; rw [rR_13 h, g13]; rfl
      · subst z; rw [rR_14 h, g14, li_0, nI_eq b104 (by decide)]
        refine ⟨fun c => ⟨?_, rfl⟩, fun c => ⟨?_, rfl⟩⟩
        · rw [if_neg (by decide), if_pos rfl, if_pos c]
        · rw [if_neg (by decide), if_pos rfl, if_neg c]
      · subst z; rw [rR_15 h, g15]; rfl
      · subst z
        rw [if_neg (by decide), if_neg (by decide), if_neg (by decide), if_pos rfl]
        cases ep : p_pfind P d x2 with
        | none => exact ⟨fun c => absurd rfl c, fun _ => ⟨rfl, rfl⟩⟩
        | some i =>
          have i6 := (pfind_lt ep).1
          refine ⟨fun _ => ⟨h.1, ra 66, rd_r66 h, of_eq_true (rA_66 h), of_eq_true (rN_66 h (show 10 * d + i < 60 by omega)), ?_, rfl⟩, fun c => absurd (fun c' => by cases c') c⟩
          rw [show ptP d (some i) = nI (10 * d + i) from rfl, nI_clamp (by omega), rR_66 h, (p5 i i6).2.2.2.2.1]
      · obtain ⟨y, hy, rfl⟩ := nI_of c3
        have y4 : y = 4 := by
          rw [li_4, nI_leI hy (by decide)] at c4
          refine Decidable.byContradiction (fun c => ?_)
          have : y = 0 ∨ y = 1 ∨ y = 2 ∨ y = 3 := by omega
          rcases this with rfl | rfl | rfl | rfl
          · exact z0 rfl
          · exact z1 rfl
          · exact z2 rfl
          · exact z3 rfl
        subst y4
        rw [if_neg z0, if_neg z1, if_neg z2, if_neg z3, if_pos (show nI 4 = 4 from rfl)]
        cases ep : p_pfind P d x2 with
        | none => exact ⟨fun c => absurd rfl c, fun _ => ⟨rfl, rfl⟩⟩
        | some i =>
          have i6 := (pfind_lt ep).1
          refine ⟨fun _ => ⟨h.1, ra 67, rd_r67 h, of_eq_true (rW_67 h), of_eq_true (rN_67 h (show 10 * d + i < 60 by omega)), ?_⟩, fun c => absurd (fun c' => by cases c') c⟩
          have e67 : (nI (if s_ P 184 (pid P d i) = 0 then 0 else 1) = 0) = (s_ P 184 (pid P d i) = 0) := propext (by
            rw [li_0, nI_eq (by split <;> omega) (by decide)]
            constructor
            · intro z; refine Decidable.byContradiction (fun y => ?_); rw [if_neg y] at z; omega
            · intro z; rw [if_pos z])
          rw [show ptP d (some i) = nI (10 * d + i) from rfl, nI_clamp (by omega), rR_67 h, (p5 i i6).2.2.2.2.2, e67]
          dsimp only
          refine ⟨fun c => ⟨by rw [if_pos c], rfl⟩, fun c => ⟨by rw [if_neg c], rfl⟩⟩
    · have n : ∀ n : Nat, n < 5 → ¬ x3 = nI n := fun n hn c => c4 (by rw [c, li_4, nI_leI (by omega) (by decide)]; omega)
      rw [if_neg (show ¬ x3 = 0 from n 0 (by decide)), if_neg (show ¬ x3 = 1 from n 1 (by decide)), if_neg (show ¬ x3 = 2 from n 2 (by decide)), if_neg (show ¬ x3 = 3 from n 3 (by decide)), if_neg (show ¬ x3 = 4 from n 4 (by decide))]
      exact ⟨rfl, rfl⟩
end IP_
