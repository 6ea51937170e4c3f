theorem en_fst {k : Nat} (hk : k < 16) : (nI k : Int32) + (16 * (15 - nI k)) = nI (k + 16 * (15 - k)) := by
  rw [show (15 : Int32) = nI 15 from rfl, show (16 : Int32) = nI 16 from rfl, pk_sub (by omega), pk_mul, nI_add]
theorem bI_0 {b : Bool} : bI b = 0 ↔ b = false := by cases b <;> decide
theorem en_lay {d : Nat} {M : sm_M} {a bA lA : Nat} {l : List Bool} (hS : co_S M a bA lA) (hB : co_B M a bA l) (hL : co_L M a lA []) (hl : l.length ≤ 40) : sm_Run (d + 1) 44 0 (sm_ent 44 [.inr (some a)]) [] M (fun w M' => w = none ∧ co_L M' a lA (co_lev true 0 l) ∧ sm_Ch (co_TL a lA) M M') := by
  refine co_layLevels hS hB hL ?_
  have := pu_st_len l 0 (by omega)
  omega
/-- encode(p): the levels of p -/
theorem co_encode {d : Nat} {M : sm_M} {a bA lA p pb k n : Nat} {l : List Nat} (hS : co_S M a bA lA) (hp : pa_C M p pb k n l) :
    sm_Run (d + 3) 38 0 (sm_ent 38 [.inr (some a), .inr (some p)]) [] M (fun w M' => w = none ∧ co_L M' a lA (co_lev true 0 (pk_bits k n l)) ∧ sm_Ch (co_TT a bA lA) M M') := by
  refine bb_38_0 ⟨hS.1, ?_⟩
  have hC0 : sm_Ch (co_TT a bA lA) M (sm_putI (sm_putI M a 1 0) a 3 0) := ch_tr (ch_put (Or.inl rfl)) (ch_put (Or.inl rfl))
  have hS0 := co_S_ch hS hC0
  have hp0 := pa_C_ch hS hp hC0
  have hB0 : co_B (sm_putI (sm_putI M a 1 0) a 3 0) a bA [] := ⟨by rw [I_put_k (by decide), I_put_s]; rfl, Nat.zero_le _, fun i hi => absurd hi (Nat.not_lt_zero _)⟩
  have hL0 : co_L (sm_putI (sm_putI M a 1 0) a 3 0) a lA [] := ⟨I_put_s, Nat.zero_le _, fun i hi => absurd hi (Nat.not_lt_zero _)⟩
  generalize sm_putI (sm_putI M a 1 0) a 3 0 = M0 at hC0 hS0 hp0 hB0 hL0 ⊢
  refine ru_mono (co_addNumber (n := 128) (w := 8) hS0 hB0 (by decide) (by decide) (by decide)) (fun w M1 hw => ?_)
  obtain ⟨rfl, hB1, hC1⟩ := hw
  have hS1 := co_S_ch hS0 hC1
  have hp1 := pa_C_ch hS0 hp0 (ch_T hC1)
  have hL1 := co_L_T hS0 hL0 hC1
  have hk := hp.2.2.2.2.2.2.2.2.1
  have hn := hp.2.2.2.2.2.2.2.2.2.1
  refine bb_38_19 ⟨p, rfl, hp1.1, hS1.1, ?_⟩
  rw [hp1.2.2.2.2.1, en_fst hk]
  refine ru_mono (co_addNumber (w := 8) hS1 hB1 (by omega) (by decide) (by rw [List.nil_append, nuB_len]; decide)) (fun w M2 hw => ?_)
  obtain ⟨rfl, hB2, hC2⟩ := hw
  have hS2 := co_S_ch hS1 hC2
  have hp2 := pa_C_ch hS1 hp1 (ch_T hC2)
  have hL2 := co_L_T hS1 hL1 hC2
  have hB2 : co_B M2 a bA (pk_head k) := hB2
  have hC : sm_Ch (co_TT a bA lA) M M2 := ch_tr (ch_tr hC0 (ch_T hC1)) (ch_T hC2)
  refine bb_38_40 ⟨p, rfl, hp2.1, ?_⟩
  rw [hp2.2.2.2.2.1]
  refine ru_mono (he_isData (by omega)) (fun w M3 hw => ?_)
  obtain ⟨rfl, rfl⟩ := hw
  refine bb_38_47 ⟨fun hc => ⟨p, rfl, hp2.1, ?_⟩, fun hc => ?_⟩
  · rw [bI_0, decide_eq_false_iff_not] at hc
    rw [hp2.2.2.2.2.1]
    refine ru_mono (he_isHand (by omega)) (fun w M3 hw => ?_)
    obtain ⟨rfl, rfl⟩ := hw
    refine bb_38_93 ⟨fun hh => ⟨hS2.1, ?_⟩, fun hh => ⟨p, rfl, hp2.1, hS2.1, ?_⟩⟩
    · rw [bI_0, Bool.not_eq_false, decide_eq_true_eq] at hh
      refine ru_mono (en_lay hS2 hB2 hL2 (by rw [pk_head_len]; decide)) (fun w M4 hw => ?_)
      obtain ⟨rfl, hL4, hC4⟩ := hw
      refine bb_38_115 ⟨rfl, ?_, ch_tr hC (ch_TL hC4)⟩
      unfold pk_bits
      rw [if_neg hc, if_pos hh, List.append_nil]
      exact hL4
    · rw [Decidable.not_not, bI_0, decide_eq_false_iff_not] at hh
      rw [hp2.2.2.2.2.2.1]
      refine ru_mono (co_addNumber (w := 11) hS2 hB2 (by omega) (by decide) (by rw [pk_head_len]; decide)) (fun w M4 hw => ?_)
      obtain ⟨rfl, hB4, hC4⟩ := hw
      have hS4 := co_S_ch hS2 hC4
      have hL4 := co_L_T hS2 hL2 hC4
      have hlen : (pk_head k ++ nuB n 11).length = 27 := by rw [List.length_append, pk_head_len, nuB_len]
      refine bb_38_106 ⟨hS4.1, ?_⟩
      refine ru_mono (co_addCheck (w := 5) hS4 hB4 (Or.inl rfl) (by rw [hlen]; decide) (by rw [hlen]; decide)) (fun w M5 hw => ?_)
      obtain ⟨rfl, hB5, hC5⟩ := hw
      have hS5 := co_S_ch hS4 hC5
      have hL5 := co_L_T hS4 hL4 hC5
      rw [show (pk_head k ++ nuB n 11).drop 16 = nuB n 11 by rw [← pk_head_len k, List.drop_left], List.append_assoc] at hB5
      refine bb_38_111 ⟨hS5.1, ?_⟩
      refine ru_mono (en_lay hS5 hB5 hL5 (by simp [pk_head_len, nuB_len, cr_b_len])) (fun w M6 hw => ?_)
      obtain ⟨rfl, hL6, hC6⟩ := hw
      refine bb_38_115 ⟨rfl, ?_, ch_tr (ch_tr (ch_tr hC (ch_T hC4)) (ch_T hC5)) (ch_TL hC6)⟩
      unfold pk_bits
      rw [if_neg hc, if_neg hh]
      exact hL6
  · rw [bI_0, Bool.not_eq_false, decide_eq_true_eq] at hc
    refine ru_mono (en_loop (h0 := pk_head k) (pk_head_len k) l.length 0 _ (by omega) hS2 (by simpa [pk_dat] using hB2) hL2 hp2) (fun w M3 hw => ?_)
    refine ⟨hw.1, ?_, ch_tr hC hw.2.2⟩
    unfold pk_bits
    rw [if_pos hc]
    exact hw.2.1
