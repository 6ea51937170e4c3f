/-! The first state: RC -/
section RS
variable {M : sm_M} {n r N U : Nat}
theorem s0 {f i : Nat} : s_ (P0 r) f i = if f = 0 then r else if f = 80 ∨ f = 162 then 8 else if f = 128 then 35 else if f = 184 ∨ f = 130 ∨ f = 63 ∨ f = 140 then 1 else 0 := rfl
theorem b0 {c i : Nat} : b_ (P0 r) c i = if c = 20 then List.replicate 20 0 else if c = 28 then List.replicate 64 0 else [] := rfl
theorem lv0_s {c i : Nat} (h : i < stn c) : lv0 c i = true := decide_eq_true (Or.inl h)
theorem lv0_n {c i : Nat} (h1 : ¬ i < stn c) (h2 : ¬ ((c = 7 ∨ c = 27) ∧ i = 66)) : lv0 c i = false := decide_eq_false (fun q => q.elim h1 h2)
theorem ar_z {a k : Nat} (h : sm_I M a = z0) : arr M a (List.replicate k 0) := by
  intro j hj
  rw [List.length_replicate] at hj
  rw [h, List.getD_eq_getElem?_getD, List.getElem?_replicate_of_lt hj]
  rfl
theorem iv_a0 (h : buF M n (nI r)) (hr : r ≤ 40) : iv_a (g0 n N U) (P0 r) M := by
  intro c i k hl hf h7
  have hl : lv0 c i = true := hl
  obtain ⟨b1, b2, b3, hW, b5⟩ := h
  have hW' := hW
  obtain ⟨h1, h2, h3, h4, h5, h6, h7', h8, h9, h10⟩ := hW
  obtain ⟨p1, p2, p3, p4, p5⟩ := b5
  refine ⟨?_, by rw [s0]; repeat' split
                 all_goals omega⟩
  show sm_I M (n + off c i) k = enc c k (s_ (P0 r) (20 * c + k) i)
  obtain ⟨hc, hi⟩ := lv0_c hl
  match c, hc with
  | 0, _ =>
    simp [fi] at hf
    subst hf
    show sm_I M (n + 0) 0 = _
    rw [show sm_I M (n + 0) = sm_I M n from rfl, b1.2.2.1]
    rfl
  | 1, _ => simp [fi] at hf
  | 2, _ => simp [fi] at hf
  | 3, _ =>
    have hi : i < 6 := hi
    have e := (h10 i hi).2.2.2.1.1.2.2.1
    rw [show n + 4 + 131 + 7 * i + 3 = n + off 3 i by simp only [off]; try omega] at e
    rw [e]
    simp [fi] at hf
    rcases hf with rfl | rfl | rfl | rfl | rfl | rfl | rfl | rfl | rfl <;> first | rfl | (show (0 : Int32) = nI 1 - 1; decide)
  | 4, _ =>
    have hi : i < 6 := hi
    have e := (h10 i hi).1.2.2.1
    rw [show n + 4 + 131 + 7 * i = n + off 4 i by simp only [off]; try omega] at e
    rw [e]
    simp [fi] at hf
    rcases hf with rfl | rfl | rfl | rfl | rfl | rfl | rfl | rfl | rfl <;> first | rfl | (show (0 : Int32) = nI 1 - 1; decide)
  | 5, _ => exact absurd hi (Nat.not_lt_zero _)
  | 6, _ =>
    show sm_I M (n + 177) k = _
    rw [p1.2.2.1]
    simp [fi] at hf
    rcases hf with rfl | rfl | rfl | rfl | rfl | rfl <;> first | rfl | (show (0 : Int32) = nI 1 - 1; decide)
  | 7, _ =>
    have hi : i < 67 := hi
    rw [(pk_at hW' hi).1.1.2.2.1]
    simp [fi] at hf
    rcases hf with rfl | rfl | rfl | rfl | rfl | rfl <;> first | rfl | (show (0 : Int32) = nI 1 - 1; decide)
  | 8, _ =>
    have hi : i < 6 := hi
    have e := (p5 i hi).1.2.2.1
    rw [show n + 177 + 4 + 2 * i = n + off 8 i by simp only [off]; try omega] at e
    rw [e]
    simp [fi] at hf
    rcases hf with rfl | rfl | rfl | rfl <;> rfl
  | 9, _ =>
    obtain ⟨a0, a1, a2, a3, a4, a5, a6, a7, a8⟩ := p4
    show sm_I M (n + 177 + 3) k = _
    simp [fi] at hf
    rcases hf with rfl | rfl | rfl | rfl | rfl | rfl | rfl | rfl
    · rw [a1]; rfl
    · rw [a2]; rfl
    · rw [a3]; rfl
    · rw [a4]; rfl
    · rw [a5]; rfl
    · rw [a6]; rfl
    · rw [a7]; rfl
    · rw [a8]; rfl
  | 10, _ => exact absurd hi (Nat.not_lt_zero _)
  | 11, _ =>
    show sm_I M (n + 4) k = _
    rw [h1.2.2.1]
    simp [fi] at hf
    rcases hf with rfl | rfl <;> rfl
  | c + 12, _ =>
    have := fi_c hf
    omega
theorem rc_start (h : buF M n (nI r)) (hr : r ≤ 40) (hN : sm_N M = N) (hU : sm_U M = U) (hn : n + 193 ≤ N) (ht : tbl M) : RC (g0 n N U) (P0 r) M := by
  have hK := fun {c i} (hl : lv0 c i = true) => KL0 h hl
  have hva := iv_a0 (N := N) (U := U) h hr
  obtain ⟨b1, b2, b3, hW, b5⟩ := h
  have hW' := hW
  obtain ⟨h1, h2, h3, h4, h5, h6, h7, h8, h9, h10⟩ := hW
  obtain ⟨p1, p2, p3, p4, p5⟩ := b5
  refine ⟨⟨⟨hN, hU, fun c i hi => lv0_s hi, fun c i hl => ?_, fun c i i' hl hl' he => ?_, fun c i hl h0 => (hK hl).2.1 h0⟩, ?_, ?_⟩, hva, ?_, ?_, ?_, ?_, ?_, ht, ?_⟩
  · have := hK hl
    exact ⟨this.1, this.2.2.2, by show n + off c i < N; omega⟩
  · exact off_inj hl hl' (by have : n + off c i = n + off c i' := he; omega)
  · -- rf_b
    have q1 : ∀ k, sm_R M (n + 0) k = _ := fun k => congrFun b1.2.2.2 k
    have q11 : ∀ k, sm_R M (n + 4) k = _ := fun k => congrFun h1.2.2.2 k
    have q2 : ∀ k, sm_R M (n + 4 + 4) k = _ := fun k => congrFun h4.1.2.2.2 k
    have q6 : ∀ k, sm_R M (n + 177) k = _ := fun k => congrFun p1.2.2.2 k
    refine ⟨⟨rfl, rfl⟩, ⟨q1 1, q1 2, q1 3, q1 4⟩, ⟨q11 0, q11 1, q11 2, q11 3, q11 4, q11 5, q11 6⟩, ⟨q2 0, q2 2⟩, ⟨q6 0, q6 1, q6 4⟩, fun i hi => ?_, fun j hj => ?_, fun d hd => ?_⟩
    · show sm_R M (n + 5) i = some (n + off 7 i)
      have : sm_R M (n + 4 + 1) i = rfs (n + 4 + 11) 2 60 i := congrFun h2.2.2.2 i
      rw [show n + 5 = n + 4 + 1 from rfl, this]
      unfold rfs
      rw [if_pos hi]
      simp only [off]
      rw [if_pos hi]
      congr 1; omega
    · show sm_R M (n + off 7 j) 3 = some (n + off 27 j)
      obtain ⟨a1, a2⟩ := pk_at hW' hj
      rw [a1.1.2.2.2, a2]
      rfl
    · have hd10 := h10 d hd
      have e4 : n + 4 + 131 + 7 * d = n + off 4 d := by simp only [off]; try omega
      have e3 : n + 4 + 131 + 7 * d + 3 = n + off 3 d := by simp only [off]; try omega
      have e8 : n + 177 + 4 + 2 * d = n + off 8 d := by simp only [off]; try omega
      have r4 := hd10.1.2.2.2
      rw [e4] at r4
      have r3 := hd10.2.2.2.1.1.2.2.2
      rw [e3] at r3
      have r8 := (p5 d hd).1.2.2.2
      rw [e8] at r8
      refine ⟨?_, ?_, ?_, ?_, ?_, ?_, ?_, ?_⟩
      · show sm_R M (n + 11) d = some (n + off 4 d)
        have : sm_R M (n + 4 + 7) d = rfs (n + 4 + 131) 7 6 d := congrFun h5.2.2.2 d
        rw [show n + 11 = n + 4 + 7 from rfl, this]
        unfold rfs
        rw [if_pos hd, e4]
      · show sm_R M (n + off 4 d) 5 = some (n + off 26 d)
        rw [r4]
        show some (n + off 4 d + 1) = _
        congr 1; simp only [off]; try omega
      · show sm_R M (n + off 4 d) 7 = some (n + off 28 d)
        rw [r4]
        show some (n + off 4 d + 2) = _
        congr 1; simp only [off]; try omega
      · show sm_R M (n + off 4 d) 8 = some (n + off 3 d)
        rw [r4]
        show some (n + off 4 d + 3) = _
        congr 1; simp only [off]; try omega
      · show sm_R M (n + off 4 d) 12 = some (n + off 7 (60 + d))
        rw [r4]
        show some (n + off 4 d + 5) = _
        congr 1; simp only [off]
        rw [if_neg (by omega), if_pos (by omega)]; omega
      · show sm_R M (n + off 3 d) 2 = some (n + off 29 d)
        rw [r3]
        show some (n + off 3 d + 1) = _
        congr 1; simp only [off]; try omega
      · show sm_R M (n + 178) d = some (n + off 8 d)
        have : sm_R M (n + 177 + 1) d = rfs (n + 177 + 4) 2 6 d := congrFun p2.2.2.2 d
        rw [show n + 178 = n + 177 + 1 from rfl, this]
        unfold rfs
        rw [if_pos hd, e8]
      · show sm_R M (n + off 8 d) 3 = some (n + off 35 d)
        rw [r8]
        show some (n + off 8 d + 1) = _
        congr 1; simp only [off]; try omega
  · -- rf_c
    have l5 : ∀ e, lv0 5 e = false := fun e => lv0_n (show ¬ e < 0 from Nat.not_lt_zero _) (by omega)
    refine ⟨fun j hj => ?_, fun d hd => ⟨?_, ?_, fun k hk => ?_⟩, fun e he => ?_, ⟨?_, fun t ht => ?_⟩, fun d hd => ⟨?_, fun k hk => ?_⟩, fun d hd => ⟨?_, ?_⟩⟩
    · have hj : j < 1 := (lv0_c hj).2
      obtain rfl : j = 0 := by omega
      refine ⟨?_, rfl⟩
      exact congrFun b3.1.2.2.2 0
    · exact Nat.zero_le _
    · intro k hk
      exact absurd hk (Nat.not_lt_zero _)
    · have : (g0 n N U).2.1 5 (6 * d + k) = false := l5 (6 * d + k)
      rw [this, if_neg (by decide)]
      have e : n + 4 + 131 + 7 * d + 1 = n + off 26 d := by simp only [off]; try omega
      show sm_R M (n + off 26 d) k = none
      rw [← e, (h10 d hd).2.1.2.2.2]
    · have he : lv0 5 e = true := he
      rw [l5] at he; cases he
    · exact Nat.zero_le _
    · exact absurd ht (Nat.not_lt_zero _)
    · exact Nat.zero_le _
    · exact absurd hk (Nat.not_lt_zero _)
    · exact Nat.zero_le _
    · have e8 : n + 177 + 4 + 2 * d = n + off 8 d := by simp only [off]; try omega
      show sm_R M (n + off 8 d) 5 = _
      rw [← e8, (p5 d hd).1.2.2.2]
      rfl
  · -- iv_b
    intro j hj
    obtain ⟨a1, a2⟩ := pk_at hW' (show j < 67 by omega)
    refine ⟨?_, by rw [b0]; decide, fun i hi => ?_⟩
    · show sm_I M (n + off 7 j) 4 = _
      rw [a1.1.2.2.1]; rfl
    · rw [b0, if_neg (by decide), if_neg (by decide)] at hi
      exact absurd hi (Nat.not_lt_zero _)
  · -- iv_c
    intro j hj
    have hj : j < 1 := (lv0_c hj).2
    obtain rfl : j = 0 := by omega
    refine ⟨b3.1.1, congrFun b3.1.2.2.2 0, b3.2.1, b3.2.2.1, by rw [b0]; decide, by decide, ?_, 0, by decide, ?_, fun i hi => ?_⟩
    · show sm_I M (n + 2) 2 = _
      rw [b3.1.2.2.1]; rfl
    · show sm_I M (n + 2) 1 = _
      rw [b3.1.2.2.1]; rfl
    · rw [b0, if_neg (by decide), if_neg (by decide)] at hi
      exact absurd hi (Nat.not_lt_zero _)
  · -- iv_d
    refine ⟨?_, ?_, fun d hd => ⟨?_, ?_, ?_, ?_⟩, fun t ht => absurd ht (Nat.not_lt_zero _)⟩
    · rw [b0, if_pos rfl, List.length_replicate]
    · rw [b0, if_pos rfl]
      exact ar_z b2.2.2.1
    · rw [b0, if_neg (by decide), if_pos rfl, List.length_replicate]
    · rw [b0, if_neg (by decide), if_pos rfl]
      have e : n + 4 + 131 + 7 * d + 2 = n + off 28 d := by simp only [off]; try omega
      show arr M (n + off 28 d) _
      rw [← e]
      exact ar_z (h10 d hd).2.2.1.2.2.1
    · rw [b0, if_neg (by decide), if_neg (by decide)]; exact Nat.zero_le _
    · rw [b0, if_neg (by decide), if_neg (by decide)]
      intro j hj
      exact absurd hj (Nat.not_lt_zero _)
  · -- iv_e
    refine ⟨?_, Nat.zero_le _, fun i hi => ?_, fun i j hi => ?_, fun p w hp => ?_⟩
    · show sm_I M (n + 4) 7 = _
      rw [h1.2.2.1]; rfl
    · exact absurd hi (Nat.not_lt_zero _)
    · exact absurd hi (Nat.not_lt_zero _)
    · cases hp
  · -- iv_f
    refine ⟨?_, by rw [b0]; decide, fun i hi => ?_⟩
    · show sm_I M (n + 8) 3 = _
      rw [show n + 8 = n + 4 + 4 from rfl, h4.1.2.2.1]; rfl
    · rw [b0, if_neg (by decide), if_neg (by decide)] at hi
      exact absurd hi (Nat.not_lt_zero _)
  · intro f i
    rw [s0]
    repeat' split
    all_goals omega
theorem gO_start : gO N U (g0 n N U) (P0 r) := by
  have l5 : ∀ e, lv0 5 e = false := fun e => lv0_n (show ¬ e < 0 from Nat.not_lt_zero _) (by omega)
  have l10 : ∀ e, lv0 10 e = false := fun e => lv0_n (show ¬ e < 0 from Nat.not_lt_zero _) (by omega)
  have l36 : ∀ e, lv0 36 e = false := fun e => lv0_n (show ¬ e < 0 from Nat.not_lt_zero _) (by omega)
  refine ⟨fun t _ => ⟨l10 t, l36 t⟩, fun i hi => ?_, fun e _ => ⟨?_, ?_⟩, ?_, ?_⟩
  · have : (1 : Nat) ≤ i := hi
    exact lv0_n (show ¬ i < 1 by omega) (by omega)
  · exact lv0_n (show ¬ 1 + e < 1 by omega) (by omega)
  · exact lv0_n (show ¬ 1 + e < 1 by omega) (by omega)
  · show N ≤ _; omega
  · show U ≤ _; omega
end RS
