/-! The reference's device: what it tells of itself. -/
section RT
variable {a : Nat} {ra : Nat → Nat} {R R0 : Nat → Nat → Int32} {M : sm_M} {D : Nat} {P : pP}
theorem nI_a255 {x : Nat} (h : x < 2 ^ 31) : nI x &&& nI 255 = nI (x % 256) := pk_andN (by omega) 8 (by decide)
theorem nI_s8 {x : Nat} (h : x < 2 ^ 31) : nI x >>> (nI 8 &&& 31) = nI (x / 256) := pk_shrN h _ 8 (by decide)
/-- WireBusModel.byteAt -/
theorem r_byteAt {j i : Nat} (h : RM a ra R M) (h50 : R 50 0 = nI j) (hj : j < 60) (hi : i < 64) (hk : i < (b_ P 7 j).length) (hK : RelK P R j) : sm_Run D 168 0 (sm_ent 168 [.inr (some a), .inl (nI i)]) [] M (fun v M' => v = some (.inl (nI ((b_ P 7 j).getD i 0))) ∧ M = M') := by
  have := hK.2.2.2.2.2.1 i hk
  refine bb_168_0 ?_
  simp (disch := first | assumption | omega | decide) only [rd_r42 h, rR_42 h, rN_42 h, rA_42 h, rS_50 h, rk_39 h, h50, this, li_100, nI_add, pk_mul, nI_clamp, Option.some.injEq, exists_eq_left', and_true]
/-- the bytes that are ready -/
def ZL (R : Nat → Nat → Int32) (d : Nat) (l : List Nat) : Prop := R 25 d = nI l.length ∧ ∀ i, i < l.length → R 29 (100 * d + i) = nI (l.getD i 0)
def Zt (d : Nat) (R R' : Nat → Nat → Int32) : Prop := ∀ f i, ¬ ((f = 25 ∧ i = d) ∨ (f = 29 ∧ 100 * d ≤ i ∧ i < 100 * d + 100)) → R' f i = R f i
def ZS (a : Nat) (ra : Nat → Nat) (R0 : Nat → Nat → Int32) (d : Nat) (l : List Nat) (M : sm_M) : Prop := ∃ R, RM a ra R M ∧ ZL R d l ∧ Zt d R0 R
theorem zs_0 {d : Nat} (h : RM a ra R M) (h25 : R 25 d = nI 0) : ZS a ra R d [] M := ⟨R, h, ⟨h25, fun i hi => absurd hi (Nat.not_lt_zero _)⟩, fun _ _ _ => rfl⟩
theorem r_zPut {d v : Nat} {l : List Nat} (h : ZS a ra R0 d l M) (hd : d < 6) (hl : l.length < 99) : sm_Run D 169 0 (sm_ent 169 [.inr (some a), .inl (nI d), .inl (nI v)]) [] M (fun v' M' => v' = none ∧ ZS a ra R0 d (l ++ [v]) M') := by
  obtain ⟨R, h, ⟨h25, h29⟩, ht⟩ := h
  refine bb_169_0 ?_
  simp (disch := first | assumption | omega | decide) only [rd_r25 h, rR_25 h, rN_25 h, rW_25 h, rA_25 h, rd_r29 h, rN_29 h, rW_29 h, rk_39 h, h25, li_1, li_100, nI_add, pk_mul, nI_clamp, Option.some.injEq, exists_eq_left', true_and, Ip_r h, Rp_i]
  refine ⟨_, rm_wr (rm_wr h), ⟨?_, fun i hi => ?_⟩, fun f i hn => ?_⟩
  · simp only [u2_r, List.length_append, List.length_singleton, Nat.reduceEqDiff, false_and, and_self, if_true, if_false]
  · simp only [u2_r, Nat.reduceEqDiff, false_and, true_and, if_false]
    rw [List.length_append, List.length_singleton] at hi
    rw [app_gd]
    by_cases q : i < l.length
    · rw [if_neg (by omega), if_pos q]; exact h29 i q
    · obtain rfl : i = l.length := by omega
      rw [if_pos rfl, if_neg (by omega), Nat.sub_self]; rfl
  · rw [u2_r, u2_r, if_neg (by omega), if_neg (by omega)]
    exact ht f i hn
theorem zs_r {d f i : Nat} {l : List Nat} (h : ZS a ra R0 d l M) (hf : f ≠ 25 ∧ f ≠ 29) : ∃ R, RM a ra R M ∧ R f i = R0 f i := by
  obtain ⟨R, h, -, ht⟩ := h
  exact ⟨R, h, ht f i (by omega)⟩
/-- WireBusModel.describe -/
theorem r_describe {d : Nat} (hx : EX P) (h : ZS a ra R0 d [] M) (hd : d < 6) (a6 : R0 6 d = nI (s_ P 80 d)) (a7 : R0 7 d = nI (s_ P 81 d)) (a8 : R0 8 d = nI (s_ P 82 d)) : sm_Run (D + 1) 172 0 (sm_ent 172 [.inr (some a), .inl (nI d)]) [] M (fun v' M' => v' = none ∧ ZS a ra R0 d (p_desc P d) M') := by
  have b81 := ex_b hx 81 d
  have b82 := ex_b hx 82 d
  unfold p_desc
  obtain ⟨R1, h1, e1⟩ := zs_r (f := 6) (i := d) h (by decide)
  refine bb_172_0 ?_
  simp (disch := first | assumption | omega | decide) only [rk_39 h1, li_18, true_and]
  clear h1 e1 R1
  refine ru_mono (r_zPut h hd (show 0 < 99 by decide)) ?_
  clear h
  rintro v M ⟨rfl, h⟩
  obtain ⟨R1, h1, e1⟩ := zs_r (f := 6) (i := d) h (by decide)
  refine bb_172_7 ?_
  simp (disch := first | assumption | omega | decide) only [rk_39 h1, li_1, true_and]
  clear h1 e1 R1
  refine ru_mono (r_zPut h hd (show 1 < 99 by decide)) ?_
  clear h
  rintro v M ⟨rfl, h⟩
  obtain ⟨R1, h1, e1⟩ := zs_r (f := 6) (i := d) h (by decide)
  refine bb_172_13 ?_
  simp (disch := first | assumption | omega | decide) only [rk_39 h1, li_0, true_and]
  clear h1 e1 R1
  refine ru_mono (r_zPut h hd (show 2 < 99 by decide)) ?_
  clear h
  rintro v M ⟨rfl, h⟩
  obtain ⟨R1, h1, e1⟩ := zs_r (f := 6) (i := d) h (by decide)
  refine bb_172_19 ?_
  simp (disch := first | assumption | omega | decide) only [rk_39 h1, li_2, true_and]
  clear h1 e1 R1
  refine ru_mono (r_zPut h hd (show 3 < 99 by decide)) ?_
  clear h
  rintro v M ⟨rfl, h⟩
  obtain ⟨R1, h1, e1⟩ := zs_r (f := 6) (i := d) h (by decide)
  refine bb_172_25 ?_
  simp (disch := first | assumption | omega | decide) only [rk_39 h1, li_255, true_and]
  clear h1 e1 R1
  refine ru_mono (r_zPut h hd (show 4 < 99 by decide)) ?_
  clear h
  rintro v M ⟨rfl, h⟩
  obtain ⟨R1, h1, e1⟩ := zs_r (f := 6) (i := d) h (by decide)
  refine bb_172_33 ?_
  simp (disch := first | assumption | omega | decide) only [rk_39 h1, li_0, true_and]
  clear h1 e1 R1
  refine ru_mono (r_zPut h hd (show 5 < 99 by decide)) ?_
  clear h
  rintro v M ⟨rfl, h⟩
  obtain ⟨R1, h1, e1⟩ := zs_r (f := 6) (i := d) h (by decide)
  refine bb_172_39 ?_
  simp (disch := first | assumption | omega | decide) only [rk_39 h1, li_0, true_and]
  clear h1 e1 R1
  refine ru_mono (r_zPut h hd (show 6 < 99 by decide)) ?_
  clear h
  rintro v M ⟨rfl, h⟩
  obtain ⟨R1, h1, e1⟩ := zs_r (f := 6) (i := d) h (by decide)
  rw [a6] at e1
  refine bb_172_45 ?_
  simp (disch := first | assumption | omega | decide) only [rd_r6 h1, rR_6 h1, rN_6 h1, rA_6 h1, rk_39 h1, e1, nI_clamp, Option.some.injEq, exists_eq_left', true_and]
  clear h1 e1 R1
  refine ru_mono (r_zPut h hd (show 7 < 99 by decide)) ?_
  clear h
  rintro v M ⟨rfl, h⟩
  obtain ⟨R1, h1, e1⟩ := zs_r (f := 7) (i := d) h (by decide)
  rw [a7] at e1
  refine bb_172_56 ?_
  simp (disch := first | assumption | omega | decide) only [rd_r7 h1, rR_7 h1, rN_7 h1, rA_7 h1, rk_39 h1, e1, nI_a255, li_255, nI_clamp, Option.some.injEq, exists_eq_left', true_and]
  clear h1 e1 R1
  refine ru_mono (r_zPut h hd (show 8 < 99 by decide)) ?_
  clear h
  rintro v M ⟨rfl, h⟩
  obtain ⟨R1, h1, e1⟩ := zs_r (f := 7) (i := d) h (by decide)
  rw [a7] at e1
  refine bb_172_71 ?_
  simp (disch := first | assumption | omega | decide) only [rd_r7 h1, rR_7 h1, rN_7 h1, rA_7 h1, rk_39 h1, e1, nI_s8, li_8, nI_clamp, Option.some.injEq, exists_eq_left', true_and]
  clear h1 e1 R1
  refine ru_mono (r_zPut h hd (show 9 < 99 by decide)) ?_
  clear h
  rintro v M ⟨rfl, h⟩
  obtain ⟨R1, h1, e1⟩ := zs_r (f := 8) (i := d) h (by decide)
  rw [a8] at e1
  refine bb_172_85 ?_
  simp (disch := first | assumption | omega | decide) only [rd_r8 h1, rR_8 h1, rN_8 h1, rA_8 h1, rk_39 h1, e1, nI_a255, li_255, nI_clamp, Option.some.injEq, exists_eq_left', true_and]
  clear h1 e1 R1
  refine ru_mono (r_zPut h hd (show 10 < 99 by decide)) ?_
  clear h
  rintro v M ⟨rfl, h⟩
  obtain ⟨R1, h1, e1⟩ := zs_r (f := 8) (i := d) h (by decide)
  rw [a8] at e1
  refine bb_172_100 ?_
  simp (disch := first | assumption | omega | decide) only [rd_r8 h1, rR_8 h1, rN_8 h1, rA_8 h1, rk_39 h1, e1, nI_s8, li_8, nI_clamp, Option.some.injEq, exists_eq_left', true_and]
  clear h1 e1 R1
  refine ru_mono (r_zPut h hd (show 11 < 99 by decide)) ?_
  clear h
  rintro v M ⟨rfl, h⟩
  obtain ⟨R1, h1, e1⟩ := zs_r (f := 6) (i := d) h (by decide)
  refine bb_172_114 ?_
  simp (disch := first | assumption | omega | decide) only [rk_39 h1, li_0, true_and]
  clear h1 e1 R1
  refine ru_mono (r_zPut h hd (show 12 < 99 by decide)) ?_
  clear h
  rintro v M ⟨rfl, h⟩
  obtain ⟨R1, h1, e1⟩ := zs_r (f := 6) (i := d) h (by decide)
  refine bb_172_120 ?_
  simp (disch := first | assumption | omega | decide) only [rk_39 h1, li_1, true_and]
  clear h1 e1 R1
  refine ru_mono (r_zPut h hd (show 13 < 99 by decide)) ?_
  clear h
  rintro v M ⟨rfl, h⟩
  obtain ⟨R1, h1, e1⟩ := zs_r (f := 6) (i := d) h (by decide)
  refine bb_172_126 ?_
  simp (disch := first | assumption | omega | decide) only [rk_39 h1, li_0, true_and]
  clear h1 e1 R1
  refine ru_mono (r_zPut h hd (show 14 < 99 by decide)) ?_
  clear h
  rintro v M ⟨rfl, h⟩
  obtain ⟨R1, h1, e1⟩ := zs_r (f := 6) (i := d) h (by decide)
  refine bb_172_132 ?_
  simp (disch := first | assumption | omega | decide) only [rk_39 h1, li_0, true_and]
  clear h1 e1 R1
  refine ru_mono (r_zPut h hd (show 15 < 99 by decide)) ?_
  clear h
  rintro v M ⟨rfl, h⟩
  obtain ⟨R1, h1, e1⟩ := zs_r (f := 6) (i := d) h (by decide)
  refine bb_172_138 ?_
  simp (disch := first | assumption | omega | decide) only [rk_39 h1, li_0, true_and]
  clear h1 e1 R1
  refine ru_mono (r_zPut h hd (show 16 < 99 by decide)) ?_
  clear h
  rintro v M ⟨rfl, h⟩
  obtain ⟨R1, h1, e1⟩ := zs_r (f := 6) (i := d) h (by decide)
  refine bb_172_144 ?_
  simp (disch := first | assumption | omega | decide) only [rk_39 h1, li_1, true_and]
  clear h1 e1 R1
  refine ru_mono (r_zPut h hd (show 17 < 99 by decide)) ?_
  clear h
  rintro v M ⟨rfl, h⟩
  exact bb_172_150 ⟨rfl, h⟩
def hd0 : List Nat := [9, 2, 0, 0, 1, 1, 0, 128, 50, 9, 4, 0, 0, 0, 255, 0, 0, 0]
theorem head_gd {c i : Nat} (h : i < 18) (h2 : i ≠ 2) (h13 : i ≠ 13) : (p_head c).getD i 0 = hd0.getD i 0 := by
  have : i = 0 ∨ i = 1 ∨ i = 3 ∨ i = 4 ∨ i = 5 ∨ i = 6 ∨ i = 7 ∨ i = 8 ∨ i = 9 ∨ i = 10 ∨ i = 11 ∨ i = 12 ∨ i = 14 ∨ i = 15 ∨ i = 16 ∨ i = 17 := by omega
  rcases this with rfl | rfl | rfl | rfl | rfl | rfl | rfl | rfl | rfl | rfl | rfl | rfl | rfl | rfl | rfl | rfl <;> rfl
theorem r_head {d : Nat} {Q : Option sm_V → sm_M → Prop} (hx : EX P) (hd : d < 6) (a9 : R0 9 d = nI (s_ P 86 d)) (h55 : ∀ i, i < 18 → R0 55 i = nI (hd0.getD i 0)) (hQ : ∀ M, ZS a ra R0 d (p_head (s_ P 86 d)) M → sm_Run (D + 1) 173 2 [some (.inr (some a)), some (.inl (nI d)), some (.inl (nI 18))] [] M Q) : ∀ (m i : Nat) (M : sm_M), i + m = 18 → ZS a ra R0 d ((p_head (s_ P 86 d)).take i) M → sm_Run (D + 1) 173 2 [some (.inr (some a)), some (.inl (nI d)), some (.inl (nI i))] [] M Q := by
  have h86 := ex_86 hx hd
  intro m
  induction m with
  | zero =>
    intro i M hi h
    obtain rfl : i = 18 := by omega
    exact hQ M h
  | succ m ih =>
    intro i M hi h
    have go : ∀ M v, v = (p_head (s_ P 86 d)).getD i 0 → ZS a ra R0 d ((p_head (s_ P 86 d)).take i) M → sm_Run D 169 0 (sm_ent 169 [.inr (some a), .inl (nI d), .inl (nI v)]) [] M (fun v M1 => sm_Run (D + 1) 173 54 [some (.inr (some a)), some (.inl (nI d)), some (.inl (nI i))] (v.toList ++ []) M1 Q) := by
      intro M v hv h
      refine ru_mono (r_zPut h hd (by rw [List.length_take]; omega)) ?_
      rintro v' M1 ⟨rfl, h1⟩
      refine bb_173_54 ?_
      rw [nI_1]
      refine ih (i + 1) M1 (by omega) ?_
      rw [take_sN (show i < 18 by omega), ← hv]; exact h1
    obtain ⟨R1, h1, e9⟩ := zs_r (f := 9) (i := d) h (by decide)
    have e55 : R1 55 i = nI (hd0.getD i 0) := by
      rw [← h55 i (by omega)]
      obtain ⟨R2, h2, e2⟩ := zs_r (f := 55) (i := i) h (by decide)
      rw [← e2, ← rR_55 h1, ← rR_55 h2]
    rw [a9] at e9
    refine bb_173_2 ?_
    simp (disch := first | assumption | omega | decide) only [rd_r9 h1, rR_9 h1, rN_9 h1, rA_9 h1, rd_r55 h1, rR_55 h1, rN_55 h1, rA_55 h1, rk_39 h1, e9, e55, li_2, li_6, li_7, li_13, li_18, nI_add, pk_mul, nI_eq, nI_leI, nI_clamp, Decidable.not_not, Option.some.injEq, exists_eq_left', true_and]
    refine ⟨fun q => by omega, fun _ => ⟨fun q2 => ⟨fun q13 => go M _ (head_gd (by omega) q2 q13).symm h, fun q13 => go M _ (by rw [q13]; rfl) h⟩, fun q2 => go M _ (by rw [q2]; rfl) h⟩⟩
theorem r_rows {d : Nat} (hx : EX P) (hd : d < 6) (a9 : R0 9 d = nI (s_ P 86 d)) (he : ∀ k, k < s_ P 86 d → RelE P R0 (6 * d + k)) : ∀ (m i : Nat) (M : sm_M), i + m = s_ P 86 d → ZS a ra R0 d (p_head (s_ P 86 d) ++ p_rows P d i) M → sm_Run (D + 1) 173 65 [some (.inr (some a)), some (.inl (nI d)), some (.inl (nI (6 * d + i)))] [] M (fun v M' => v = none ∧ ZS a ra R0 d (p_conf P d) M') := by
  have h86 := ex_86 hx hd
  intro m
  induction m with
  | zero =>
    intro i M hi h
    obtain rfl : i = s_ P 86 d := by omega
    obtain ⟨R1, h1, e9⟩ := zs_r (f := 9) (i := d) h (by decide)
    rw [a9] at e9
    refine bb_173_65 ?_
    simp (disch := first | assumption | omega | decide) only [rd_r9 h1, rR_9 h1, rN_9 h1, rA_9 h1, rk_39 h1, e9, li_6, li_7, nI_add, pk_mul, nI_leI, nI_clamp, Option.some.injEq, exists_eq_left', true_and]
    exact ⟨fun _ => h, fun q => by omega⟩
  | succ m ih =>
    intro i M hi h
    have hi' : i < s_ P 86 d := by omega
    obtain ⟨e10, e11, e12, e13, e14, e15, e16, e17⟩ := he i hi'
    have b102 := ex_b hx 102 (6 * d + i)
    have ll : (p_head (s_ P 86 d) ++ p_rows P d i).length ≤ 60 := by
      rw [List.length_append, rows_len]
      show 18 + 7 * i ≤ 60
      omega
    obtain ⟨R1, h1, e9⟩ := zs_r (f := 9) (i := d) h (by decide)
    rw [a9] at e9
    refine bb_173_65 ?_
    simp (disch := first | assumption | omega | decide) only [rd_r9 h1, rR_9 h1, rN_9 h1, rA_9 h1, rk_39 h1, e9, li_6, li_7, nI_add, pk_mul, nI_leI, nI_clamp, Option.some.injEq, exists_eq_left', true_and]
    refine ⟨fun q => by omega, fun _ => ?_⟩
    clear h1 e9 R1
    refine ru_mono (r_zPut h hd (by omega)) ?_
    clear h
    rintro v M ⟨rfl, h⟩
    obtain ⟨R1, h1, e1⟩ := zs_r (f := 9) (i := d) h (by decide)
    refine bb_173_87 ?_
    simp (disch := first | assumption | omega | decide) only [rk_39 h1, li_5, true_and]
    clear h1 e1 R1
    refine ru_mono (r_zPut h hd (by simp only [List.length_append, List.length_singleton] at *; omega)) ?_
    clear h
    rintro v M ⟨rfl, h⟩
    obtain ⟨R1, h1, e1⟩ := zs_r (f := 10) (i := 6 * d + i) h (by decide)
    rw [e10] at e1
    refine bb_173_93 ?_
    simp (disch := first | assumption | omega | decide) only [rd_r10 h1, rR_10 h1, rN_10 h1, rA_10 h1, rk_39 h1, e1, nI_clamp, Option.some.injEq, exists_eq_left', true_and]
    clear h1 e1 R1
    refine ru_mono (r_zPut h hd (by simp only [List.length_append, List.length_singleton] at *; omega)) ?_
    clear h
    rintro v M ⟨rfl, h⟩
    obtain ⟨R1, h1, e1⟩ := zs_r (f := 12) (i := 6 * d + i) h (by decide)
    rw [e12] at e1
    have key : ∀ M v, v = (if s_ P 102 (6 * d + i) = 0 then 2 else 3) → ZS a ra R0 d (p_head (s_ P 86 d) ++ p_rows P d i ++ [7] ++ [5] ++ [s_ P 100 (6 * d + i)]) M → sm_Run D 169 0 (sm_ent 169 [.inr (some a), .inl (nI d), .inl (nI v)]) [] M (fun v M1 => sm_Run (D + 1) 173 123 [some (.inr (some a)), some (.inl (nI d)), some (.inl (nI (6 * d + i)))] (v.toList ++ []) M1 (fun v M' => v = none ∧ ZS a ra R0 d (p_conf P d) M')) := by
      intro M v hv h
      refine ru_mono (r_zPut h hd (by simp only [List.length_append, List.length_singleton] at *; omega)) ?_
      clear h
      rintro v M ⟨rfl, h⟩
      obtain ⟨R1, h1, e1⟩ := zs_r (f := 11) (i := 6 * d + i) h (by decide)
      rw [e11] at e1
      refine bb_173_123 ?_
      simp (disch := first | assumption | omega | decide) only [rd_r11 h1, rR_11 h1, rN_11 h1, rA_11 h1, rk_39 h1, e1, nI_clamp, Option.some.injEq, exists_eq_left', true_and]
      clear h1 e1 R1
      refine ru_mono (r_zPut h hd (by simp only [List.length_append, List.length_singleton] at *; omega)) ?_
      clear h
      rintro v M ⟨rfl, h⟩
      obtain ⟨R1, h1, e1⟩ := zs_r (f := 9) (i := d) h (by decide)
      refine bb_173_134 ?_
      simp (disch := first | assumption | omega | decide) only [rk_39 h1, li_0, true_and]
      clear h1 e1 R1
      refine ru_mono (r_zPut h hd (by simp only [List.length_append, List.length_singleton] at *; omega)) ?_
      clear h
      rintro v M ⟨rfl, h⟩
      obtain ⟨R1, h1, e1⟩ := zs_r (f := 12) (i := 6 * d + i) h (by decide)
      rw [e12] at e1
      refine bb_173_140 ?_
      simp (disch := first | assumption | omega | decide) only [rd_r12 h1, rR_12 h1, rN_12 h1, rA_12 h1, rk_39 h1, e1, nI_clamp, Option.some.injEq, exists_eq_left', true_and]
      clear h1 e1 R1
      refine ru_mono (r_zPut h hd (by simp only [List.length_append, List.length_singleton] at *; omega)) ?_
      clear h
      rintro v M ⟨rfl, h⟩
      refine bb_173_151 ?_
      rw [nI_1]
      refine ih (i + 1) M (by omega) ?_
      have e : p_head (s_ P 86 d) ++ p_rows P d (i + 1) = p_head (s_ P 86 d) ++ p_rows P d i ++ [7] ++ [5] ++ [s_ P 100 (6 * d + i)] ++ [if s_ P 102 (6 * d + i) = 0 then 2 else 3] ++ [s_ P 101 (6 * d + i)] ++ [0] ++ [s_ P 102 (6 * d + i)] := by
        show p_head (s_ P 86 d) ++ (p_rows P d i ++ p_row P (6 * d + i)) = _
        unfold p_row
        simp only [List.append_assoc, List.cons_append, List.nil_append]
      rw [e, ← hv]; exact h
    refine bb_173_104 ?_
    simp (disch := first | assumption | omega | decide) only [rd_r12 h1, rR_12 h1, rN_12 h1, rA_12 h1, rk_39 h1, e1, li_0, li_2, li_3, nI_eq, nI_clamp, Decidable.not_not, Option.some.injEq, exists_eq_left', true_and]
    refine ⟨fun q => key M _ (by rw [if_neg q]) h, fun q => key M _ (by rw [if_pos q]) h⟩
/-- WireBusModel.configure -/
theorem r_configure {d : Nat} (hx : EX P) (h : ZS a ra R0 d [] M) (hd : d < 6) (a9 : R0 9 d = nI (s_ P 86 d)) (h55 : ∀ i, i < 18 → R0 55 i = nI (hd0.getD i 0)) (he : ∀ k, k < s_ P 86 d → RelE P R0 (6 * d + k)) : sm_Run (D + 1) 173 0 (sm_ent 173 [.inr (some a), .inl (nI d)]) [] M (fun v' M' => v' = none ∧ ZS a ra R0 d (p_conf P d) M') := by
  refine bb_173_0 (r_head hx hd a9 h55 (fun M1 h1 => ?_) 18 0 M (by omega) h)
  obtain ⟨R1, h2, e1⟩ := zs_r (f := 9) (i := d) h1 (by decide)
  refine bb_173_2 ?_
  simp (disch := first | assumption | omega | decide) only [rk_39 h2, Nat.le_refl, li_2, li_6, li_7, li_13, li_18, pk_mul, nI_eq, nI_leI, nI_clamp, false_implies, forall_const, true_and, and_true, not_false_eq_true, not_true_eq_false, Nat.reduceEqDiff]
  refine r_rows hx hd a9 he (s_ P 86 d) 0 M1 (by omega) ?_
  rw [show p_rows P d 0 = [] from rfl, List.append_nil]; exact h1
end RT
