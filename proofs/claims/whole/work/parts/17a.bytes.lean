/-! WireBus$Bytes.<init>:(I)V -/
theorem sm_a29_0 : sm_at 29 0 = some (.aload_n 0, 1, (0, 0, 0, 0)) := by decide +kernel
theorem sm_a29_1 : sm_at 29 1 = some (.invokespecial 3, 3, (1, 0, 0, 110)) := by decide +kernel
theorem sm_a29_4 : sm_at 29 4 = some (.aload_n 0, 1, (0, 0, 0, 0)) := by decide +kernel
theorem sm_a29_5 : sm_at 29 5 = some (.iconst 1, 1, (0, 0, 0, 0)) := by decide +kernel
theorem sm_a29_6 : sm_at 29 6 = some (.iload_n 1, 1, (0, 0, 0, 0)) := by decide +kernel
theorem sm_a29_7 : sm_at 29 7 = some (.invokestatic 9, 3, (2, 0, 0, 111)) := by decide +kernel
theorem sm_a29_10 : sm_at 29 10 = some (.newarray .int, 2, (1, 0, 0, 0)) := by decide +kernel
theorem sm_a29_12 : sm_at 29 12 = some (.putfield 15, 3, (1, 0, 0, 114)) := by decide +kernel
theorem sm_a29_15 : sm_at 29 15 = some (.return_, 1, (0, 0, 0, 0)) := by decide +kernel
theorem bb_29_0 {d : Nat} {M : sm_M} {Q : Option sm_V → sm_M → Prop} {a0 : Nat} {x1 : Int32}
    (h : (0 ≤ (if 1 < x1 then x1 else 1).toInt ∧ (if 1 < x1 then x1 else 1).toInt ≤ 100000) ∧ sm_K (sm_new M 5 (if 1 < x1 then x1 else 1).toNatClampNeg (if 1 < x1 then x1 else 1).toNatClampNeg) a0 = 6 ∧ Q none (sm_putR (sm_new M 5 (if 1 < x1 then x1 else 1).toNatClampNeg (if 1 < x1 then x1 else 1).toNatClampNeg) a0 0 (some (sm_N M)))) :
    sm_Run (d + 1) 29 0 [some (.inr (some a0)), some (.inl x1)] [] M Q := by
  refine ru_go (t := (1, [some (.inr (some a0)), some (.inl x1)], [.inr (some a0)], M)) sm_a29_0 rfl rfl rfl ?_
  refine ru_go (t := (4, [some (.inr (some a0)), some (.inl x1)], [], M)) sm_a29_1 rfl rfl (st_oi (Nat.le_of_ble_eq_true rfl)) ?_
  refine ru_go (t := (5, [some (.inr (some a0)), some (.inl x1)], [.inr (some a0)], M)) sm_a29_4 rfl rfl rfl ?_
  refine ru_go (t := (6, [some (.inr (some a0)), some (.inl x1)], [.inl 1, .inr (some a0)], M)) sm_a29_5 rfl rfl (st_iconst (by decide)) ?_
  refine ru_go (t := (7, [some (.inr (some a0)), some (.inl x1)], [.inl x1, .inl 1, .inr (some a0)], M)) sm_a29_6 rfl rfl rfl ?_
  refine ru_go (t := (10, [some (.inr (some a0)), some (.inl x1)], [.inl (if 1 < x1 then x1 else 1), .inr (some a0)], M)) sm_a29_7 rfl rfl (st_max (Nat.le_of_ble_eq_true rfl)) ?_
  obtain ⟨h_1, h⟩ := h
  refine ru_go (t := (12, [some (.inr (some a0)), some (.inl x1)], [.inr (some (sm_N M)), .inr (some a0)], sm_new M 5 (if 1 < x1 then x1 else 1).toNatClampNeg (if 1 < x1 then x1 else 1).toNatClampNeg)) sm_a29_10 rfl rfl (st_newa h_1) ?_
  obtain ⟨h_2, h⟩ := h
  refine ru_go (t := (15, [some (.inr (some a0)), some (.inl x1)], [], sm_putR (sm_new M 5 (if 1 < x1 then x1 else 1).toNatClampNeg (if 1 < x1 then x1 else 1).toNatClampNeg) a0 0 (some (sm_N M)))) sm_a29_12 rfl rfl (st_putR h_2 rfl) ?_
  exact ru_ret sm_a29_15 (sm_rvv rfl) h

/-! WireBus$Bytes.space:()I -/
theorem sm_a30_0 : sm_at 30 0 = some (.aload_n 0, 1, (0, 0, 0, 0)) := by decide +kernel
theorem sm_a30_1 : sm_at 30 1 = some (.getfield 15, 3, (1, 0, 0, 114)) := by decide +kernel
theorem sm_a30_4 : sm_at 30 4 = some (.arraylength, 1, (0, 0, 0, 0)) := by decide +kernel
theorem sm_a30_5 : sm_at 30 5 = some (.aload_n 0, 1, (0, 0, 0, 0)) := by decide +kernel
theorem sm_a30_6 : sm_at 30 6 = some (.getfield 21, 3, (1, 2, 0, 116)) := by decide +kernel
theorem sm_a30_9 : sm_at 30 9 = some (.isub, 1, (0, 0, 0, 0)) := by decide +kernel
theorem sm_a30_10 : sm_at 30 10 = some (.ireturn, 1, (0, 0, 0, 0)) := by decide +kernel
theorem bb_30_0 {d : Nat} {M : sm_M} {Q : Option sm_V → sm_M → Prop} {a0 : Nat}
    (h : sm_K M a0 = 6 ∧ ∃ b_2, sm_R M a0 0 = some b_2 ∧ (1 ≤ sm_K M b_2 ∧ sm_K M b_2 % 3 ≠ 0) ∧ Q (some (.inl ((Int32.ofNat (sm_L M b_2)) - (sm_I M a0 2)))) M) :
    sm_Run d 30 0 [some (.inr (some a0))] [] M Q := by
  refine ru_go (t := (1, [some (.inr (some a0))], [.inr (some a0)], M)) sm_a30_0 rfl rfl rfl ?_
  obtain ⟨h_1, h⟩ := h
  refine ru_go (t := (4, [some (.inr (some a0))], [.inr (sm_R M a0 0)], M)) sm_a30_1 rfl rfl (st_getR h_1 rfl rfl) ?_
  obtain ⟨b_2, hb_3, h⟩ := h
  rw [hb_3]
  obtain ⟨h_4, h⟩ := h
  refine ru_go (t := (5, [some (.inr (some a0))], [.inl (Int32.ofNat (sm_L M b_2))], M)) sm_a30_4 rfl rfl (st_alen h_4) ?_
  refine ru_go (t := (6, [some (.inr (some a0))], [.inr (some a0), .inl (Int32.ofNat (sm_L M b_2))], M)) sm_a30_5 rfl rfl rfl ?_
  refine ru_go (t := (9, [some (.inr (some a0))], [.inl (sm_I M a0 2), .inl (Int32.ofNat (sm_L M b_2))], M)) sm_a30_6 rfl rfl (st_getI h_1 rfl) ?_
  refine ru_go (t := (10, [some (.inr (some a0))], [.inl ((Int32.ofNat (sm_L M b_2)) - (sm_I M a0 2))], M)) sm_a30_9 rfl rfl rfl ?_
  exact ru_ret sm_a30_10 rfl h

/-! WireBus$Bytes.clear:()V -/
theorem sm_a31_0 : sm_at 31 0 = some (.aload_n 0, 1, (0, 0, 0, 0)) := by decide +kernel
theorem sm_a31_1 : sm_at 31 1 = some (.iconst 0, 1, (0, 0, 0, 0)) := by decide +kernel
theorem sm_a31_2 : sm_at 31 2 = some (.putfield 25, 3, (1, 1, 0, 115)) := by decide +kernel
theorem sm_a31_5 : sm_at 31 5 = some (.aload_n 0, 1, (0, 0, 0, 0)) := by decide +kernel
theorem sm_a31_6 : sm_at 31 6 = some (.iconst 0, 1, (0, 0, 0, 0)) := by decide +kernel
theorem sm_a31_7 : sm_at 31 7 = some (.putfield 21, 3, (1, 2, 0, 116)) := by decide +kernel
theorem sm_a31_10 : sm_at 31 10 = some (.return_, 1, (0, 0, 0, 0)) := by decide +kernel
theorem bb_31_0 {d : Nat} {M : sm_M} {Q : Option sm_V → sm_M → Prop} {a0 : Nat}
    (h : sm_K M a0 = 6 ∧ Q none (sm_putI (sm_putI M a0 1 0) a0 2 0)) :
    sm_Run d 31 0 [some (.inr (some a0))] [] M Q := by
  refine ru_go (t := (1, [some (.inr (some a0))], [.inr (some a0)], M)) sm_a31_0 rfl rfl rfl ?_
  refine ru_go (t := (2, [some (.inr (some a0))], [.inl 0, .inr (some a0)], M)) sm_a31_1 rfl rfl (st_iconst (by decide)) ?_
  obtain ⟨h_1, h⟩ := h
  refine ru_go (t := (5, [some (.inr (some a0))], [], sm_putI M a0 1 0)) sm_a31_2 rfl rfl (st_putI h_1 rfl) ?_
  refine ru_go (t := (6, [some (.inr (some a0))], [.inr (some a0)], sm_putI M a0 1 0)) sm_a31_5 rfl rfl rfl ?_
  refine ru_go (t := (7, [some (.inr (some a0))], [.inl 0, .inr (some a0)], sm_putI M a0 1 0)) sm_a31_6 rfl rfl (st_iconst (by decide)) ?_
  refine ru_go (t := (10, [some (.inr (some a0))], [], sm_putI (sm_putI M a0 1 0) a0 2 0)) sm_a31_7 rfl rfl (st_putI h_1 rfl) ?_
  exact ru_ret sm_a31_10 (sm_rvv rfl) h

/-! WireBus$Bytes.place:(I)I -/
theorem sm_a32_0 : sm_at 32 0 = some (.aload_n 0, 1, (0, 0, 0, 0)) := by decide +kernel
theorem sm_a32_1 : sm_at 32 1 = some (.getfield 25, 3, (1, 1, 0, 115)) := by decide +kernel
theorem sm_a32_4 : sm_at 32 4 = some (.iload_n 1, 1, (0, 0, 0, 0)) := by decide +kernel
theorem sm_a32_5 : sm_at 32 5 = some (.iadd, 1, (0, 0, 0, 0)) := by decide +kernel
theorem sm_a32_6 : sm_at 32 6 = some (.istore_n 2, 1, (0, 0, 0, 0)) := by decide +kernel
theorem sm_a32_7 : sm_at 32 7 = some (.iload_n 2, 1, (0, 0, 0, 0)) := by decide +kernel
theorem sm_a32_8 : sm_at 32 8 = some (.aload_n 0, 1, (0, 0, 0, 0)) := by decide +kernel
theorem sm_a32_9 : sm_at 32 9 = some (.getfield 15, 3, (1, 0, 0, 114)) := by decide +kernel
theorem sm_a32_12 : sm_at 32 12 = some (.arraylength, 1, (0, 0, 0, 0)) := by decide +kernel
theorem sm_a32_13 : sm_at 32 13 = some (.if_icmp .ge 7, 3, (0, 0, 0, 0)) := by decide +kernel
theorem sm_a32_16 : sm_at 32 16 = some (.iload_n 2, 1, (0, 0, 0, 0)) := by decide +kernel
theorem sm_a32_17 : sm_at 32 17 = some (.goto 10, 3, (0, 0, 0, 0)) := by decide +kernel
theorem sm_a32_20 : sm_at 32 20 = some (.iload_n 2, 1, (0, 0, 0, 0)) := by decide +kernel
theorem sm_a32_21 : sm_at 32 21 = some (.aload_n 0, 1, (0, 0, 0, 0)) := by decide +kernel
theorem sm_a32_22 : sm_at 32 22 = some (.getfield 15, 3, (1, 0, 0, 114)) := by decide +kernel
theorem sm_a32_25 : sm_at 32 25 = some (.arraylength, 1, (0, 0, 0, 0)) := by decide +kernel
theorem sm_a32_26 : sm_at 32 26 = some (.isub, 1, (0, 0, 0, 0)) := by decide +kernel
theorem sm_a32_27 : sm_at 32 27 = some (.ireturn, 1, (0, 0, 0, 0)) := by decide +kernel
theorem bb_32_0 {d : Nat} {M : sm_M} {Q : Option sm_V → sm_M → Prop} {a0 : Nat} {x1 : Int32} {z2 : Option sm_V}
    (h : sm_K M a0 = 6 ∧ ∃ b_2, sm_R M a0 0 = some b_2 ∧ (1 ≤ sm_K M b_2 ∧ sm_K M b_2 % 3 ≠ 0) ∧ (((Int32.ofNat (sm_L M b_2)) ≤ ((sm_I M a0 1) + x1) → ∃ b_6, sm_R M a0 0 = some b_6 ∧ (1 ≤ sm_K M b_6 ∧ sm_K M b_6 % 3 ≠ 0) ∧ Q (some (.inl (((sm_I M a0 1) + x1) - (Int32.ofNat (sm_L M b_6))))) M) ∧ (¬ ((Int32.ofNat (sm_L M b_2)) ≤ ((sm_I M a0 1) + x1)) → Q (some (.inl ((sm_I M a0 1) + x1))) M))) :
    sm_Run d 32 0 [some (.inr (some a0)), some (.inl x1), z2] [] M Q := by
  refine ru_go (t := (1, [some (.inr (some a0)), some (.inl x1), z2], [.inr (some a0)], M)) sm_a32_0 rfl rfl rfl ?_
  obtain ⟨h_1, h⟩ := h
  refine ru_go (t := (4, [some (.inr (some a0)), some (.inl x1), z2], [.inl (sm_I M a0 1)], M)) sm_a32_1 rfl rfl (st_getI h_1 rfl) ?_
  refine ru_go (t := (5, [some (.inr (some a0)), some (.inl x1), z2], [.inl x1, .inl (sm_I M a0 1)], M)) sm_a32_4 rfl rfl rfl ?_
  refine ru_go (t := (6, [some (.inr (some a0)), some (.inl x1), z2], [.inl ((sm_I M a0 1) + x1)], M)) sm_a32_5 rfl rfl rfl ?_
  refine ru_go (t := (7, [some (.inr (some a0)), some (.inl x1), some (.inl ((sm_I M a0 1) + x1))], [], M)) sm_a32_6 rfl rfl rfl ?_
  refine ru_go (t := (8, [some (.inr (some a0)), some (.inl x1), some (.inl ((sm_I M a0 1) + x1))], [.inl ((sm_I M a0 1) + x1)], M)) sm_a32_7 rfl rfl rfl ?_
  refine ru_go (t := (9, [some (.inr (some a0)), some (.inl x1), some (.inl ((sm_I M a0 1) + x1))], [.inr (some a0), .inl ((sm_I M a0 1) + x1)], M)) sm_a32_8 rfl rfl rfl ?_
  refine ru_go (t := (12, [some (.inr (some a0)), some (.inl x1), some (.inl ((sm_I M a0 1) + x1))], [.inr (sm_R M a0 0), .inl ((sm_I M a0 1) + x1)], M)) sm_a32_9 rfl rfl (st_getR h_1 rfl rfl) ?_
  obtain ⟨b_2, hb_3, h⟩ := h
  rw [hb_3]
  obtain ⟨h_4, h⟩ := h
  refine ru_go (t := (13, [some (.inr (some a0)), some (.inl x1), some (.inl ((sm_I M a0 1) + x1))], [.inl (Int32.ofNat (sm_L M b_2)), .inl ((sm_I M a0 1) + x1)], M)) sm_a32_12 rfl rfl (st_alen h_4) ?_
  refine ru_icmp (pc := 13) (p := 20) (p2 := 16) sm_a32_13 (by decide) rfl ⟨fun hc_5 => ?_, fun hc_5 => ?_⟩
  · have h := h.1 hc_5
    refine ru_go (t := (21, [some (.inr (some a0)), some (.inl x1), some (.inl ((sm_I M a0 1) + x1))], [.inl ((sm_I M a0 1) + x1)], M)) sm_a32_20 rfl rfl rfl ?_
    refine ru_go (t := (22, [some (.inr (some a0)), some (.inl x1), some (.inl ((sm_I M a0 1) + x1))], [.inr (some a0), .inl ((sm_I M a0 1) + x1)], M)) sm_a32_21 rfl rfl rfl ?_
    refine ru_go (t := (25, [some (.inr (some a0)), some (.inl x1), some (.inl ((sm_I M a0 1) + x1))], [.inr (sm_R M a0 0), .inl ((sm_I M a0 1) + x1)], M)) sm_a32_22 rfl rfl (st_getR h_1 rfl rfl) ?_
    obtain ⟨b_6, hb_7, h⟩ := h
    rw [hb_7]
    obtain ⟨h_8, h⟩ := h
    refine ru_go (t := (26, [some (.inr (some a0)), some (.inl x1), some (.inl ((sm_I M a0 1) + x1))], [.inl (Int32.ofNat (sm_L M b_6)), .inl ((sm_I M a0 1) + x1)], M)) sm_a32_25 rfl rfl (st_alen h_8) ?_
    refine ru_go (t := (27, [some (.inr (some a0)), some (.inl x1), some (.inl ((sm_I M a0 1) + x1))], [.inl (((sm_I M a0 1) + x1) - (Int32.ofNat (sm_L M b_6)))], M)) sm_a32_26 rfl rfl rfl ?_
    exact ru_ret sm_a32_27 rfl h
  · have h := h.2 hc_5
    refine ru_go (t := (17, [some (.inr (some a0)), some (.inl x1), some (.inl ((sm_I M a0 1) + x1))], [.inl ((sm_I M a0 1) + x1)], M)) sm_a32_16 rfl rfl rfl ?_
    refine ru_go (t := (27, [some (.inr (some a0)), some (.inl x1), some (.inl ((sm_I M a0 1) + x1))], [.inl ((sm_I M a0 1) + x1)], M)) sm_a32_17 rfl rfl (st_goto (pc := 17) (by decide)) ?_
    exact ru_ret sm_a32_27 rfl h

/-! WireBus$Bytes.add:(I)V -/
theorem sm_a33_0 : sm_at 33 0 = some (.aload_n 0, 1, (0, 0, 0, 0)) := by decide +kernel
theorem sm_a33_1 : sm_at 33 1 = some (.getfield 21, 3, (1, 2, 0, 116)) := by decide +kernel
theorem sm_a33_4 : sm_at 33 4 = some (.aload_n 0, 1, (0, 0, 0, 0)) := by decide +kernel
theorem sm_a33_5 : sm_at 33 5 = some (.getfield 15, 3, (1, 0, 0, 114)) := by decide +kernel
theorem sm_a33_8 : sm_at 33 8 = some (.arraylength, 1, (0, 0, 0, 0)) := by decide +kernel
theorem sm_a33_9 : sm_at 33 9 = some (.if_icmp .ge 27, 3, (0, 0, 0, 0)) := by decide +kernel
theorem sm_a33_12 : sm_at 33 12 = some (.aload_n 0, 1, (0, 0, 0, 0)) := by decide +kernel
theorem sm_a33_13 : sm_at 33 13 = some (.getfield 15, 3, (1, 0, 0, 114)) := by decide +kernel
theorem sm_a33_16 : sm_at 33 16 = some (.aload_n 0, 1, (0, 0, 0, 0)) := by decide +kernel
theorem sm_a33_17 : sm_at 33 17 = some (.aload_n 0, 1, (0, 0, 0, 0)) := by decide +kernel
theorem sm_a33_18 : sm_at 33 18 = some (.getfield 21, 3, (1, 2, 0, 116)) := by decide +kernel
theorem sm_a33_21 : sm_at 33 21 = some (.invokevirtual 28, 3, (10, 32, 1, 497)) := by decide +kernel
theorem sm_a33_24 : sm_at 33 24 = some (.iload_n 1, 1, (0, 0, 0, 0)) := by decide +kernel
theorem sm_a33_25 : sm_at 33 25 = some (.iastore, 1, (0, 0, 0, 0)) := by decide +kernel
theorem sm_a33_26 : sm_at 33 26 = some (.aload_n 0, 1, (0, 0, 0, 0)) := by decide +kernel
theorem sm_a33_27 : sm_at 33 27 = some (.dup, 1, (0, 0, 0, 0)) := by decide +kernel
theorem sm_a33_28 : sm_at 33 28 = some (.getfield 21, 3, (1, 2, 0, 116)) := by decide +kernel
theorem sm_a33_31 : sm_at 33 31 = some (.iconst 1, 1, (0, 0, 0, 0)) := by decide +kernel
theorem sm_a33_32 : sm_at 33 32 = some (.iadd, 1, (0, 0, 0, 0)) := by decide +kernel
theorem sm_a33_33 : sm_at 33 33 = some (.putfield 21, 3, (1, 2, 0, 116)) := by decide +kernel
theorem sm_a33_36 : sm_at 33 36 = some (.return_, 1, (0, 0, 0, 0)) := by decide +kernel
theorem bb_33_0 {d : Nat} {M : sm_M} {Q : Option sm_V → sm_M → Prop} {a0 : Nat} {x1 : Int32}
    (h : sm_K M a0 = 6 ∧ ∃ b_2, sm_R M a0 0 = some b_2 ∧ (1 ≤ sm_K M b_2 ∧ sm_K M b_2 % 3 ≠ 0) ∧ (((Int32.ofNat (sm_L M b_2)) ≤ (sm_I M a0 2) → Q none M) ∧ (¬ ((Int32.ofNat (sm_L M b_2)) ≤ (sm_I M a0 2)) → sm_Run d 32 0 (sm_ent 32 [.inr (some a0), .inl (sm_I M a0 2)]) [] M (fun v M1 => sm_Run (d + 1) 33 24 [some (.inr (some a0)), some (.inl x1)] (v.toList ++ [.inr (sm_R M a0 0)]) M1 Q)))) :
    sm_Run (d + 1) 33 0 [some (.inr (some a0)), some (.inl x1)] [] M Q := by
  refine ru_go (t := (1, [some (.inr (some a0)), some (.inl x1)], [.inr (some a0)], M)) sm_a33_0 rfl rfl rfl ?_
  obtain ⟨h_1, h⟩ := h
  refine ru_go (t := (4, [some (.inr (some a0)), some (.inl x1)], [.inl (sm_I M a0 2)], M)) sm_a33_1 rfl rfl (st_getI h_1 rfl) ?_
  refine ru_go (t := (5, [some (.inr (some a0)), some (.inl x1)], [.inr (some a0), .inl (sm_I M a0 2)], M)) sm_a33_4 rfl rfl rfl ?_
  refine ru_go (t := (8, [some (.inr (some a0)), some (.inl x1)], [.inr (sm_R M a0 0), .inl (sm_I M a0 2)], M)) sm_a33_5 rfl rfl (st_getR h_1 rfl rfl) ?_
  obtain ⟨b_2, hb_3, h⟩ := h
  rw [hb_3]
  obtain ⟨h_4, h⟩ := h
  refine ru_go (t := (9, [some (.inr (some a0)), some (.inl x1)], [.inl (Int32.ofNat (sm_L M b_2)), .inl (sm_I M a0 2)], M)) sm_a33_8 rfl rfl (st_alen h_4) ?_
  refine ru_icmp (pc := 9) (p := 36) (p2 := 12) sm_a33_9 (by decide) rfl ⟨fun hc_5 => ?_, fun hc_5 => ?_⟩
  · have h := h.1 hc_5
    exact ru_ret sm_a33_36 (sm_rvv rfl) h
  · have h := h.2 hc_5
    refine ru_go (t := (13, [some (.inr (some a0)), some (.inl x1)], [.inr (some a0)], M)) sm_a33_12 rfl rfl rfl ?_
    refine ru_go (t := (16, [some (.inr (some a0)), some (.inl x1)], [.inr (sm_R M a0 0)], M)) sm_a33_13 rfl rfl (st_getR h_1 rfl rfl) ?_
    refine ru_go (t := (17, [some (.inr (some a0)), some (.inl x1)], [.inr (some a0), .inr (sm_R M a0 0)], M)) sm_a33_16 rfl rfl rfl ?_
    refine ru_go (t := (18, [some (.inr (some a0)), some (.inl x1)], [.inr (some a0), .inr (some a0), .inr (sm_R M a0 0)], M)) sm_a33_17 rfl rfl rfl ?_
    refine ru_go (t := (21, [some (.inr (some a0)), some (.inl x1)], [.inl (sm_I M a0 2), .inr (some a0), .inr (sm_R M a0 0)], M)) sm_a33_18 rfl rfl (st_getI h_1 rfl) ?_
    exact ru_call (p := 24) sm_a33_21 rfl (sc_virt (Or.inl rfl) rfl rfl h_1 (Nat.le_of_ble_eq_true rfl)) rfl h
theorem bb_33_24 {d : Nat} {M : sm_M} {Q : Option sm_V → sm_M → Prop} {a0 : Nat} {x1 : Int32} {y0 : Int32} {t1 : Option Nat}
    (h : ∃ b_1, t1 = some b_1 ∧ sm_wA 0 M b_1 ∧ sm_in_ M b_1 y0 ∧ sm_K M a0 = 6 ∧ Q none (sm_putI (sm_putI M b_1 (y0).toNatClampNeg x1) a0 2 ((sm_I (sm_putI M b_1 (y0).toNatClampNeg x1) a0 2) + 1))) :
    sm_Run (d + 1) 33 24 [some (.inr (some a0)), some (.inl x1)] [.inl y0, .inr t1] M Q := by
  refine ru_go (t := (25, [some (.inr (some a0)), some (.inl x1)], [.inl x1, .inl y0, .inr t1], M)) sm_a33_24 rfl rfl rfl ?_
  obtain ⟨b_1, hb_2, h⟩ := h
  rw [hb_2]
  obtain ⟨h_3, h⟩ := h
  obtain ⟨h_4, h⟩ := h
  refine ru_go (t := (26, [some (.inr (some a0)), some (.inl x1)], [], sm_putI M b_1 (y0).toNatClampNeg x1)) sm_a33_25 rfl rfl (st_iast h_3 h_4) ?_
  refine ru_go (t := (27, [some (.inr (some a0)), some (.inl x1)], [.inr (some a0)], sm_putI M b_1 (y0).toNatClampNeg x1)) sm_a33_26 rfl rfl rfl ?_
  refine ru_go (t := (28, [some (.inr (some a0)), some (.inl x1)], [.inr (some a0), .inr (some a0)], sm_putI M b_1 (y0).toNatClampNeg x1)) sm_a33_27 rfl rfl rfl ?_
  obtain ⟨h_5, h⟩ := h
  refine ru_go (t := (31, [some (.inr (some a0)), some (.inl x1)], [.inl (sm_I (sm_putI M b_1 (y0).toNatClampNeg x1) a0 2), .inr (some a0)], sm_putI M b_1 (y0).toNatClampNeg x1)) sm_a33_28 rfl rfl (st_getI h_5 rfl) ?_
  refine ru_go (t := (32, [some (.inr (some a0)), some (.inl x1)], [.inl 1, .inl (sm_I (sm_putI M b_1 (y0).toNatClampNeg x1) a0 2), .inr (some a0)], sm_putI M b_1 (y0).toNatClampNeg x1)) sm_a33_31 rfl rfl (st_iconst (by decide)) ?_
  refine ru_go (t := (33, [some (.inr (some a0)), some (.inl x1)], [.inl ((sm_I (sm_putI M b_1 (y0).toNatClampNeg x1) a0 2) + 1), .inr (some a0)], sm_putI M b_1 (y0).toNatClampNeg x1)) sm_a33_32 rfl rfl rfl ?_
  refine ru_go (t := (36, [some (.inr (some a0)), some (.inl x1)], [], sm_putI (sm_putI M b_1 (y0).toNatClampNeg x1) a0 2 ((sm_I (sm_putI M b_1 (y0).toNatClampNeg x1) a0 2) + 1))) sm_a33_33 rfl rfl (st_putI h_5 rfl) ?_
  exact ru_ret sm_a33_36 (sm_rvv rfl) h

/-! WireBus$Bytes.at:(I)I -/
theorem sm_a34_0 : sm_at 34 0 = some (.iload_n 1, 1, (0, 0, 0, 0)) := by decide +kernel
theorem sm_a34_1 : sm_at 34 1 = some (.ifCond .lt 24, 3, (0, 0, 0, 0)) := by decide +kernel
theorem sm_a34_4 : sm_at 34 4 = some (.iload_n 1, 1, (0, 0, 0, 0)) := by decide +kernel
theorem sm_a34_5 : sm_at 34 5 = some (.aload_n 0, 1, (0, 0, 0, 0)) := by decide +kernel
theorem sm_a34_6 : sm_at 34 6 = some (.getfield 21, 3, (1, 2, 0, 116)) := by decide +kernel
theorem sm_a34_9 : sm_at 34 9 = some (.if_icmp .ge 16, 3, (0, 0, 0, 0)) := by decide +kernel
theorem sm_a34_12 : sm_at 34 12 = some (.aload_n 0, 1, (0, 0, 0, 0)) := by decide +kernel
theorem sm_a34_13 : sm_at 34 13 = some (.getfield 15, 3, (1, 0, 0, 114)) := by decide +kernel
theorem sm_a34_16 : sm_at 34 16 = some (.aload_n 0, 1, (0, 0, 0, 0)) := by decide +kernel
theorem sm_a34_17 : sm_at 34 17 = some (.iload_n 1, 1, (0, 0, 0, 0)) := by decide +kernel
theorem sm_a34_18 : sm_at 34 18 = some (.invokevirtual 28, 3, (10, 32, 1, 497)) := by decide +kernel
theorem sm_a34_21 : sm_at 34 21 = some (.iaload, 1, (0, 0, 0, 0)) := by decide +kernel
theorem sm_a34_22 : sm_at 34 22 = some (.goto 4, 3, (0, 0, 0, 0)) := by decide +kernel
theorem sm_a34_25 : sm_at 34 25 = some (.iconst (-1), 1, (0, 0, 0, 0)) := by decide +kernel
theorem sm_a34_26 : sm_at 34 26 = some (.ireturn, 1, (0, 0, 0, 0)) := by decide +kernel
theorem bb_34_0 {d : Nat} {M : sm_M} {Q : Option sm_V → sm_M → Prop} {a0 : Nat} {x1 : Int32}
    (h : ((x1 < 0 → Q (some (.inl (-1))) M) ∧ (¬ (x1 < 0) → sm_K M a0 = 6 ∧ (((sm_I M a0 2) ≤ x1 → Q (some (.inl (-1))) M) ∧ (¬ ((sm_I M a0 2) ≤ x1) → sm_Run d 32 0 (sm_ent 32 [.inr (some a0), .inl x1]) [] M (fun v M1 => sm_Run (d + 1) 34 21 [some (.inr (some a0)), some (.inl x1)] (v.toList ++ [.inr (sm_R M a0 0)]) M1 Q)))))) :
    sm_Run (d + 1) 34 0 [some (.inr (some a0)), some (.inl x1)] [] M Q := by
  refine ru_go (t := (1, [some (.inr (some a0)), some (.inl x1)], [.inl x1], M)) sm_a34_0 rfl rfl rfl ?_
  refine ru_if (pc := 1) (p := 25) (p2 := 4) sm_a34_1 (by decide) rfl ⟨fun hc_1 => ?_, fun hc_1 => ?_⟩
  · have h := h.1 hc_1
    refine ru_go (t := (26, [some (.inr (some a0)), some (.inl x1)], [.inl (-1)], M)) sm_a34_25 rfl rfl (st_iconst (by decide)) ?_
    exact ru_ret sm_a34_26 rfl h
  · have h := h.2 hc_1
    refine ru_go (t := (5, [some (.inr (some a0)), some (.inl x1)], [.inl x1], M)) sm_a34_4 rfl rfl rfl ?_
    refine ru_go (t := (6, [some (.inr (some a0)), some (.inl x1)], [.inr (some a0), .inl x1], M)) sm_a34_5 rfl rfl rfl ?_
    obtain ⟨h_2, h⟩ := h
    refine ru_go (t := (9, [some (.inr (some a0)), some (.inl x1)], [.inl (sm_I M a0 2), .inl x1], M)) sm_a34_6 rfl rfl (st_getI h_2 rfl) ?_
    refine ru_icmp (pc := 9) (p := 25) (p2 := 12) sm_a34_9 (by decide) rfl ⟨fun hc_3 => ?_, fun hc_3 => ?_⟩
    · have h := h.1 hc_3
      refine ru_go (t := (26, [some (.inr (some a0)), some (.inl x1)], [.inl (-1)], M)) sm_a34_25 rfl rfl (st_iconst (by decide)) ?_
      exact ru_ret sm_a34_26 rfl h
    · have h := h.2 hc_3
      refine ru_go (t := (13, [some (.inr (some a0)), some (.inl x1)], [.inr (some a0)], M)) sm_a34_12 rfl rfl rfl ?_
      refine ru_go (t := (16, [some (.inr (some a0)), some (.inl x1)], [.inr (sm_R M a0 0)], M)) sm_a34_13 rfl rfl (st_getR h_2 rfl rfl) ?_
      refine ru_go (t := (17, [some (.inr (some a0)), some (.inl x1)], [.inr (some a0), .inr (sm_R M a0 0)], M)) sm_a34_16 rfl rfl rfl ?_
      refine ru_go (t := (18, [some (.inr (some a0)), some (.inl x1)], [.inl x1, .inr (some a0), .inr (sm_R M a0 0)], M)) sm_a34_17 rfl rfl rfl ?_
      exact ru_call (p := 21) sm_a34_18 rfl (sc_virt (Or.inl rfl) rfl rfl h_2 (Nat.le_of_ble_eq_true rfl)) rfl h
theorem bb_34_21 {d : Nat} {M : sm_M} {Q : Option sm_V → sm_M → Prop} {a0 : Nat} {x1 : Int32} {y0 : Int32} {t1 : Option Nat}
    (h : ∃ b_1, t1 = some b_1 ∧ sm_iA M b_1 ∧ sm_in_ M b_1 y0 ∧ Q (some (.inl (sm_I M b_1 (y0).toNatClampNeg))) M) :
    sm_Run (d + 1) 34 21 [some (.inr (some a0)), some (.inl x1)] [.inl y0, .inr t1] M Q := by
  obtain ⟨b_1, hb_2, h⟩ := h
  rw [hb_2]
  obtain ⟨h_3, h⟩ := h
  obtain ⟨h_4, h⟩ := h
  refine ru_go (t := (22, [some (.inr (some a0)), some (.inl x1)], [.inl (sm_I M b_1 (y0).toNatClampNeg)], M)) sm_a34_21 rfl rfl (st_iald h_3 h_4) ?_
  refine ru_go (t := (26, [some (.inr (some a0)), some (.inl x1)], [.inl (sm_I M b_1 (y0).toNatClampNeg)], M)) sm_a34_22 rfl rfl (st_goto (pc := 22) (by decide)) ?_
  exact ru_ret sm_a34_26 rfl h

/-! WireBus$Bytes.poll:()I -/
theorem sm_a35_0 : sm_at 35 0 = some (.aload_n 0, 1, (0, 0, 0, 0)) := by decide +kernel
theorem sm_a35_1 : sm_at 35 1 = some (.iconst 0, 1, (0, 0, 0, 0)) := by decide +kernel
theorem sm_a35_2 : sm_at 35 2 = some (.invokevirtual 32, 3, (10, 34, 1, 718)) := by decide +kernel
theorem sm_a35_5 : sm_at 35 5 = some (.istore_n 1, 1, (0, 0, 0, 0)) := by decide +kernel
theorem sm_a35_6 : sm_at 35 6 = some (.aload_n 0, 1, (0, 0, 0, 0)) := by decide +kernel
theorem sm_a35_7 : sm_at 35 7 = some (.iconst 1, 1, (0, 0, 0, 0)) := by decide +kernel
theorem sm_a35_8 : sm_at 35 8 = some (.invokevirtual 35, 3, (10, 36, 1, 722)) := by decide +kernel
theorem sm_a35_11 : sm_at 35 11 = some (.iload_n 1, 1, (0, 0, 0, 0)) := by decide +kernel
theorem sm_a35_12 : sm_at 35 12 = some (.ireturn, 1, (0, 0, 0, 0)) := by decide +kernel
theorem bb_35_0 {d : Nat} {M : sm_M} {Q : Option sm_V → sm_M → Prop} {a0 : Nat} {z1 : Option sm_V}
    (h : sm_K M a0 = 6 ∧ sm_Run d 34 0 (sm_ent 34 [.inr (some a0), .inl 0]) [] M (fun v M1 => sm_Run (d + 1) 35 5 [some (.inr (some a0)), z1] (v.toList ++ []) M1 Q)) :
    sm_Run (d + 1) 35 0 [some (.inr (some a0)), z1] [] M Q := by
  refine ru_go (t := (1, [some (.inr (some a0)), z1], [.inr (some a0)], M)) sm_a35_0 rfl rfl rfl ?_
  refine ru_go (t := (2, [some (.inr (some a0)), z1], [.inl 0, .inr (some a0)], M)) sm_a35_1 rfl rfl (st_iconst (by decide)) ?_
  obtain ⟨h_1, h⟩ := h
  exact ru_call (p := 5) sm_a35_2 rfl (sc_virt (Or.inl rfl) rfl rfl h_1 (Nat.le_of_ble_eq_true rfl)) rfl h
theorem bb_35_5 {d : Nat} {M : sm_M} {Q : Option sm_V → sm_M → Prop} {a0 : Nat} {z1 : Option sm_V} {y0 : Int32}
    (h : sm_K M a0 = 6 ∧ sm_Run d 36 0 (sm_ent 36 [.inr (some a0), .inl 1]) [] M (fun v M1 => sm_Run (d + 1) 35 11 [some (.inr (some a0)), some (.inl y0)] (v.toList ++ []) M1 Q)) :
    sm_Run (d + 1) 35 5 [some (.inr (some a0)), z1] [.inl y0] M Q := by
  refine ru_go (t := (6, [some (.inr (some a0)), some (.inl y0)], [], M)) sm_a35_5 rfl rfl rfl ?_
  refine ru_go (t := (7, [some (.inr (some a0)), some (.inl y0)], [.inr (some a0)], M)) sm_a35_6 rfl rfl rfl ?_
  refine ru_go (t := (8, [some (.inr (some a0)), some (.inl y0)], [.inl 1, .inr (some a0)], M)) sm_a35_7 rfl rfl (st_iconst (by decide)) ?_
  obtain ⟨h_1, h⟩ := h
  exact ru_call (p := 11) sm_a35_8 rfl (sc_virt (Or.inl rfl) rfl rfl h_1 (Nat.le_of_ble_eq_true rfl)) rfl h
theorem bb_35_11 {d : Nat} {M : sm_M} {Q : Option sm_V → sm_M → Prop} {a0 : Nat} {x1 : Int32}
    (h : Q (some (.inl x1)) M) :
    sm_Run (d + 1) 35 11 [some (.inr (some a0)), some (.inl x1)] [] M Q := by
  refine ru_go (t := (12, [some (.inr (some a0)), some (.inl x1)], [.inl x1], M)) sm_a35_11 rfl rfl rfl ?_
  exact ru_ret sm_a35_12 rfl h

/-! WireBus$Bytes.drop:(I)V -/
theorem sm_a36_0 : sm_at 36 0 = some (.iconst 0, 1, (0, 0, 0, 0)) := by decide +kernel
theorem sm_a36_1 : sm_at 36 1 = some (.iload_n 1, 1, (0, 0, 0, 0)) := by decide +kernel
theorem sm_a36_2 : sm_at 36 2 = some (.aload_n 0, 1, (0, 0, 0, 0)) := by decide +kernel
theorem sm_a36_3 : sm_at 36 3 = some (.getfield 21, 3, (1, 2, 0, 116)) := by decide +kernel
theorem sm_a36_6 : sm_at 36 6 = some (.invokestatic 39, 3, (3, 0, 0, 726)) := by decide +kernel
theorem sm_a36_9 : sm_at 36 9 = some (.invokestatic 9, 3, (2, 0, 0, 111)) := by decide +kernel
theorem sm_a36_12 : sm_at 36 12 = some (.istore_n 2, 1, (0, 0, 0, 0)) := by decide +kernel
theorem sm_a36_13 : sm_at 36 13 = some (.aload_n 0, 1, (0, 0, 0, 0)) := by decide +kernel
theorem sm_a36_14 : sm_at 36 14 = some (.aload_n 0, 1, (0, 0, 0, 0)) := by decide +kernel
theorem sm_a36_15 : sm_at 36 15 = some (.iload_n 2, 1, (0, 0, 0, 0)) := by decide +kernel
theorem sm_a36_16 : sm_at 36 16 = some (.invokevirtual 28, 3, (10, 32, 1, 497)) := by decide +kernel
theorem sm_a36_19 : sm_at 36 19 = some (.putfield 25, 3, (1, 1, 0, 115)) := by decide +kernel
theorem sm_a36_22 : sm_at 36 22 = some (.aload_n 0, 1, (0, 0, 0, 0)) := by decide +kernel
theorem sm_a36_23 : sm_at 36 23 = some (.dup, 1, (0, 0, 0, 0)) := by decide +kernel
theorem sm_a36_24 : sm_at 36 24 = some (.getfield 21, 3, (1, 2, 0, 116)) := by decide +kernel
theorem sm_a36_27 : sm_at 36 27 = some (.iload_n 2, 1, (0, 0, 0, 0)) := by decide +kernel
theorem sm_a36_28 : sm_at 36 28 = some (.isub, 1, (0, 0, 0, 0)) := by decide +kernel
theorem sm_a36_29 : sm_at 36 29 = some (.putfield 21, 3, (1, 2, 0, 116)) := by decide +kernel
theorem sm_a36_32 : sm_at 36 32 = some (.return_, 1, (0, 0, 0, 0)) := by decide +kernel
theorem bb_36_0 {d : Nat} {M : sm_M} {Q : Option sm_V → sm_M → Prop} {a0 : Nat} {x1 : Int32} {z2 : Option sm_V}
    (h : sm_K M a0 = 6 ∧ sm_Run d 32 0 (sm_ent 32 [.inr (some a0), .inl (if 0 < if sm_I M a0 2 < x1 then sm_I M a0 2 else x1 then if sm_I M a0 2 < x1 then sm_I M a0 2 else x1 else 0)]) [] M (fun v M1 => sm_Run (d + 1) 36 19 [some (.inr (some a0)), some (.inl x1), some (.inl (if 0 < if sm_I M a0 2 < x1 then sm_I M a0 2 else x1 then if sm_I M a0 2 < x1 then sm_I M a0 2 else x1 else 0))] (v.toList ++ [.inr (some a0)]) M1 Q)) :
    sm_Run (d + 1) 36 0 [some (.inr (some a0)), some (.inl x1), z2] [] M Q := by
  refine ru_go (t := (1, [some (.inr (some a0)), some (.inl x1), z2], [.inl 0], M)) sm_a36_0 rfl rfl (st_iconst (by decide)) ?_
  refine ru_go (t := (2, [some (.inr (some a0)), some (.inl x1), z2], [.inl x1, .inl 0], M)) sm_a36_1 rfl rfl rfl ?_
  refine ru_go (t := (3, [some (.inr (some a0)), some (.inl x1), z2], [.inr (some a0), .inl x1, .inl 0], M)) sm_a36_2 rfl rfl rfl ?_
  obtain ⟨h_1, h⟩ := h
  refine ru_go (t := (6, [some (.inr (some a0)), some (.inl x1), z2], [.inl (sm_I M a0 2), .inl x1, .inl 0], M)) sm_a36_3 rfl rfl (st_getI h_1 rfl) ?_
  refine ru_go (t := (9, [some (.inr (some a0)), some (.inl x1), z2], [.inl (if sm_I M a0 2 < x1 then sm_I M a0 2 else x1), .inl 0], M)) sm_a36_6 rfl rfl (st_min (Nat.le_of_ble_eq_true rfl)) ?_
  refine ru_go (t := (12, [some (.inr (some a0)), some (.inl x1), z2], [.inl (if 0 < if sm_I M a0 2 < x1 then sm_I M a0 2 else x1 then if sm_I M a0 2 < x1 then sm_I M a0 2 else x1 else 0)], M)) sm_a36_9 rfl rfl (st_max (Nat.le_of_ble_eq_true rfl)) ?_
  refine ru_go (t := (13, [some (.inr (some a0)), some (.inl x1), some (.inl (if 0 < if sm_I M a0 2 < x1 then sm_I M a0 2 else x1 then if sm_I M a0 2 < x1 then sm_I M a0 2 else x1 else 0))], [], M)) sm_a36_12 rfl rfl rfl ?_
  refine ru_go (t := (14, [some (.inr (some a0)), some (.inl x1), some (.inl (if 0 < if sm_I M a0 2 < x1 then sm_I M a0 2 else x1 then if sm_I M a0 2 < x1 then sm_I M a0 2 else x1 else 0))], [.inr (some a0)], M)) sm_a36_13 rfl rfl rfl ?_
  refine ru_go (t := (15, [some (.inr (some a0)), some (.inl x1), some (.inl (if 0 < if sm_I M a0 2 < x1 then sm_I M a0 2 else x1 then if sm_I M a0 2 < x1 then sm_I M a0 2 else x1 else 0))], [.inr (some a0), .inr (some a0)], M)) sm_a36_14 rfl rfl rfl ?_
  refine ru_go (t := (16, [some (.inr (some a0)), some (.inl x1), some (.inl (if 0 < if sm_I M a0 2 < x1 then sm_I M a0 2 else x1 then if sm_I M a0 2 < x1 then sm_I M a0 2 else x1 else 0))], [.inl (if 0 < if sm_I M a0 2 < x1 then sm_I M a0 2 else x1 then if sm_I M a0 2 < x1 then sm_I M a0 2 else x1 else 0), .inr (some a0), .inr (some a0)], M)) sm_a36_15 rfl rfl rfl ?_
  exact ru_call (p := 19) sm_a36_16 rfl (sc_virt (Or.inl rfl) rfl rfl h_1 (Nat.le_of_ble_eq_true rfl)) rfl h
theorem bb_36_19 {d : Nat} {M : sm_M} {Q : Option sm_V → sm_M → Prop} {a0 : Nat} {x1 : Int32} {x2 : Int32} {y0 : Int32} {b1 : Nat}
    (h : sm_K M b1 = 6 ∧ sm_K M a0 = 6 ∧ Q none (sm_putI (sm_putI M b1 1 y0) a0 2 ((sm_I (sm_putI M b1 1 y0) a0 2) - x2))) :
    sm_Run (d + 1) 36 19 [some (.inr (some a0)), some (.inl x1), some (.inl x2)] [.inl y0, .inr (some b1)] M Q := by
  obtain ⟨h_1, h⟩ := h
  refine ru_go (t := (22, [some (.inr (some a0)), some (.inl x1), some (.inl x2)], [], sm_putI M b1 1 y0)) sm_a36_19 rfl rfl (st_putI h_1 rfl) ?_
  refine ru_go (t := (23, [some (.inr (some a0)), some (.inl x1), some (.inl x2)], [.inr (some a0)], sm_putI M b1 1 y0)) sm_a36_22 rfl rfl rfl ?_
  refine ru_go (t := (24, [some (.inr (some a0)), some (.inl x1), some (.inl x2)], [.inr (some a0), .inr (some a0)], sm_putI M b1 1 y0)) sm_a36_23 rfl rfl rfl ?_
  obtain ⟨h_2, h⟩ := h
  refine ru_go (t := (27, [some (.inr (some a0)), some (.inl x1), some (.inl x2)], [.inl (sm_I (sm_putI M b1 1 y0) a0 2), .inr (some a0)], sm_putI M b1 1 y0)) sm_a36_24 rfl rfl (st_getI h_2 rfl) ?_
  refine ru_go (t := (28, [some (.inr (some a0)), some (.inl x1), some (.inl x2)], [.inl x2, .inl (sm_I (sm_putI M b1 1 y0) a0 2), .inr (some a0)], sm_putI M b1 1 y0)) sm_a36_27 rfl rfl rfl ?_
  refine ru_go (t := (29, [some (.inr (some a0)), some (.inl x1), some (.inl x2)], [.inl ((sm_I (sm_putI M b1 1 y0) a0 2) - x2), .inr (some a0)], sm_putI M b1 1 y0)) sm_a36_28 rfl rfl rfl ?_
  refine ru_go (t := (32, [some (.inr (some a0)), some (.inl x1), some (.inl x2)], [], sm_putI (sm_putI M b1 1 y0) a0 2 ((sm_I (sm_putI M b1 1 y0) a0 2) - x2))) sm_a36_29 rfl rfl (st_putI h_2 rfl) ?_
  exact ru_ret sm_a36_32 (sm_rvv rfl) h
