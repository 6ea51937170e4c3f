/-! WireBus$Packet.<init>:()V -/
theorem sm_a104_0 : sm_at 104 0 = some (.aload_n 0, 1, (0, 0, 0, 0)) := by decide +kernel
theorem sm_a104_1 : sm_at 104 1 = some (.invokespecial 3, 3, (1, 0, 0, 139)) := by decide +kernel
theorem sm_a104_4 : sm_at 104 4 = some (.aload_n 0, 1, (0, 0, 0, 0)) := by decide +kernel
theorem sm_a104_5 : sm_at 104 5 = some (.bipush 64, 2, (0, 0, 0, 0)) := by decide +kernel
theorem sm_a104_7 : sm_at 104 7 = some (.newarray .int, 2, (6, 0, 0, 0)) := by decide +kernel
theorem sm_a104_9 : sm_at 104 9 = some (.putfield 9, 3, (7, 3, 0, 156)) := by decide +kernel
theorem sm_a104_12 : sm_at 104 12 = some (.return_, 1, (0, 0, 0, 0)) := by decide +kernel
theorem bb_104_0 {d : Nat} {M : sm_M} {Q : Option sm_V → sm_M → Prop} {a0 : Nat}
    (h : sm_K (sm_new M 20 (64 : Int32).toNatClampNeg (64 : Int32).toNatClampNeg) a0 = 24 ∧ Q none (sm_putR (sm_new M 20 (64 : Int32).toNatClampNeg (64 : Int32).toNatClampNeg) a0 3 (some (sm_N M)))) :
    sm_Run (d + 1) 104 0 [some (.inr (some a0))] [] M Q := by
  refine ru_go (t := (1, [some (.inr (some a0))], [.inr (some a0)], M)) sm_a104_0 rfl rfl rfl ?_
  refine ru_go (t := (4, [some (.inr (some a0))], [], M)) sm_a104_1 rfl rfl (st_oi (Nat.le_of_ble_eq_true rfl)) ?_
  refine ru_go (t := (5, [some (.inr (some a0))], [.inr (some a0)], M)) sm_a104_4 rfl rfl rfl ?_
  refine ru_go (t := (7, [some (.inr (some a0))], [.inl 64, .inr (some a0)], M)) sm_a104_5 rfl rfl (st_bipush (by decide)) ?_
  refine ru_go (t := (9, [some (.inr (some a0))], [.inr (some (sm_N M)), .inr (some a0)], sm_new M 20 (64 : Int32).toNatClampNeg (64 : Int32).toNatClampNeg)) sm_a104_7 rfl rfl (st_newa (by decide)) ?_
  obtain ⟨h_1, h⟩ := h
  refine ru_go (t := (12, [some (.inr (some a0))], [], sm_putR (sm_new M 20 (64 : Int32).toNatClampNeg (64 : Int32).toNatClampNeg) a0 3 (some (sm_N M)))) sm_a104_9 rfl rfl (st_putR h_1 rfl) ?_
  exact ru_ret sm_a104_12 (sm_rvv rfl) h

/-! WireBus$Packet.restart:(II)V -/
theorem sm_a105_0 : sm_at 105 0 = some (.aload_n 0, 1, (0, 0, 0, 0)) := by decide +kernel
theorem sm_a105_1 : sm_at 105 1 = some (.iload_n 1, 1, (0, 0, 0, 0)) := by decide +kernel
theorem sm_a105_2 : sm_at 105 2 = some (.putfield 15, 3, (7, 0, 0, 140)) := by decide +kernel
theorem sm_a105_5 : sm_at 105 5 = some (.aload_n 0, 1, (0, 0, 0, 0)) := by decide +kernel
theorem sm_a105_6 : sm_at 105 6 = some (.iload_n 2, 1, (0, 0, 0, 0)) := by decide +kernel
theorem sm_a105_7 : sm_at 105 7 = some (.putfield 19, 3, (7, 1, 0, 143)) := by decide +kernel
theorem sm_a105_10 : sm_at 105 10 = some (.aload_n 0, 1, (0, 0, 0, 0)) := by decide +kernel
theorem sm_a105_11 : sm_at 105 11 = some (.iconst 0, 1, (0, 0, 0, 0)) := by decide +kernel
theorem sm_a105_12 : sm_at 105 12 = some (.putfield 22, 3, (7, 2, 0, 152)) := by decide +kernel
theorem sm_a105_15 : sm_at 105 15 = some (.aload_n 0, 1, (0, 0, 0, 0)) := by decide +kernel
theorem sm_a105_16 : sm_at 105 16 = some (.iconst 0, 1, (0, 0, 0, 0)) := by decide +kernel
theorem sm_a105_17 : sm_at 105 17 = some (.putfield 25, 3, (7, 4, 0, 157)) := by decide +kernel
theorem sm_a105_20 : sm_at 105 20 = some (.aload_n 0, 1, (0, 0, 0, 0)) := by decide +kernel
theorem sm_a105_21 : sm_at 105 21 = some (.iconst 0, 1, (0, 0, 0, 0)) := by decide +kernel
theorem sm_a105_22 : sm_at 105 22 = some (.putfield 28, 3, (7, 5, 0, 163)) := by decide +kernel
theorem sm_a105_25 : sm_at 105 25 = some (.return_, 1, (0, 0, 0, 0)) := by decide +kernel
theorem bb_105_0 {d : Nat} {M : sm_M} {Q : Option sm_V → sm_M → Prop} {a0 : Nat} {x1 : Int32} {x2 : Int32}
    (h : sm_K M a0 = 24 ∧ Q none (sm_putI (sm_putI (sm_putI (sm_putI (sm_putI M a0 0 x1) a0 1 x2) a0 2 0) a0 4 0) a0 5 0)) :
    sm_Run d 105 0 [some (.inr (some a0)), some (.inl x1), some (.inl x2)] [] M Q := by
  refine ru_go (t := (1, [some (.inr (some a0)), some (.inl x1), some (.inl x2)], [.inr (some a0)], M)) sm_a105_0 rfl rfl rfl ?_
  refine ru_go (t := (2, [some (.inr (some a0)), some (.inl x1), some (.inl x2)], [.inl x1, .inr (some a0)], M)) sm_a105_1 rfl rfl rfl ?_
  obtain ⟨h_1, h⟩ := h
  refine ru_go (t := (5, [some (.inr (some a0)), some (.inl x1), some (.inl x2)], [], sm_putI M a0 0 x1)) sm_a105_2 rfl rfl (st_putI h_1 rfl) ?_
  refine ru_go (t := (6, [some (.inr (some a0)), some (.inl x1), some (.inl x2)], [.inr (some a0)], sm_putI M a0 0 x1)) sm_a105_5 rfl rfl rfl ?_
  refine ru_go (t := (7, [some (.inr (some a0)), some (.inl x1), some (.inl x2)], [.inl x2, .inr (some a0)], sm_putI M a0 0 x1)) sm_a105_6 rfl rfl rfl ?_
  refine ru_go (t := (10, [some (.inr (some a0)), some (.inl x1), some (.inl x2)], [], sm_putI (sm_putI M a0 0 x1) a0 1 x2)) sm_a105_7 rfl rfl (st_putI h_1 rfl) ?_
  refine ru_go (t := (11, [some (.inr (some a0)), some (.inl x1), some (.inl x2)], [.inr (some a0)], sm_putI (sm_putI M a0 0 x1) a0 1 x2)) sm_a105_10 rfl rfl rfl ?_
  refine ru_go (t := (12, [some (.inr (some a0)), some (.inl x1), some (.inl x2)], [.inl 0, .inr (some a0)], sm_putI (sm_putI M a0 0 x1) a0 1 x2)) sm_a105_11 rfl rfl (st_iconst (by decide)) ?_
  refine ru_go (t := (15, [some (.inr (some a0)), some (.inl x1), some (.inl x2)], [], sm_putI (sm_putI (sm_putI M a0 0 x1) a0 1 x2) a0 2 0)) sm_a105_12 rfl rfl (st_putI h_1 rfl) ?_
  refine ru_go (t := (16, [some (.inr (some a0)), some (.inl x1), some (.inl x2)], [.inr (some a0)], sm_putI (sm_putI (sm_putI M a0 0 x1) a0 1 x2) a0 2 0)) sm_a105_15 rfl rfl rfl ?_
  refine ru_go (t := (17, [some (.inr (some a0)), some (.inl x1), some (.inl x2)], [.inl 0, .inr (some a0)], sm_putI (sm_putI (sm_putI M a0 0 x1) a0 1 x2) a0 2 0)) sm_a105_16 rfl rfl (st_iconst (by decide)) ?_
  refine ru_go (t := (20, [some (.inr (some a0)), some (.inl x1), some (.inl x2)], [], sm_putI (sm_putI (sm_putI (sm_putI M a0 0 x1) a0 1 x2) a0 2 0) a0 4 0)) sm_a105_17 rfl rfl (st_putI h_1 rfl) ?_
  refine ru_go (t := (21, [some (.inr (some a0)), some (.inl x1), some (.inl x2)], [.inr (some a0)], sm_putI (sm_putI (sm_putI (sm_putI M a0 0 x1) a0 1 x2) a0 2 0) a0 4 0)) sm_a105_20 rfl rfl rfl ?_
  refine ru_go (t := (22, [some (.inr (some a0)), some (.inl x1), some (.inl x2)], [.inl 0, .inr (some a0)], sm_putI (sm_putI (sm_putI (sm_putI M a0 0 x1) a0 1 x2) a0 2 0) a0 4 0)) sm_a105_21 rfl rfl (st_iconst (by decide)) ?_
  refine ru_go (t := (25, [some (.inr (some a0)), some (.inl x1), some (.inl x2)], [], sm_putI (sm_putI (sm_putI (sm_putI (sm_putI M a0 0 x1) a0 1 x2) a0 2 0) a0 4 0) a0 5 0)) sm_a105_22 rfl rfl (st_putI h_1 rfl) ?_
  exact ru_ret sm_a105_25 (sm_rvv rfl) h

/-! WireBus$Packet.add:(I)V -/
theorem sm_a106_0 : sm_at 106 0 = some (.aload_n 0, 1, (0, 0, 0, 0)) := by decide +kernel
theorem sm_a106_1 : sm_at 106 1 = some (.getfield 25, 3, (7, 4, 0, 157)) := by decide +kernel
theorem sm_a106_4 : sm_at 106 4 = some (.aload_n 0, 1, (0, 0, 0, 0)) := by decide +kernel
theorem sm_a106_5 : sm_at 106 5 = some (.getfield 9, 3, (7, 3, 0, 156)) := by decide +kernel
theorem sm_a106_8 : sm_at 106 8 = some (.arraylength, 1, (0, 0, 0, 0)) := by decide +kernel
theorem sm_a106_9 : sm_at 106 9 = some (.if_icmp .ge 23, 3, (0, 0, 0, 0)) := by decide +kernel
theorem sm_a106_12 : sm_at 106 12 = some (.aload_n 0, 1, (0, 0, 0, 0)) := by decide +kernel
theorem sm_a106_13 : sm_at 106 13 = some (.getfield 9, 3, (7, 3, 0, 156)) := by decide +kernel
theorem sm_a106_16 : sm_at 106 16 = some (.aload_n 0, 1, (0, 0, 0, 0)) := by decide +kernel
theorem sm_a106_17 : sm_at 106 17 = some (.getfield 25, 3, (7, 4, 0, 157)) := by decide +kernel
theorem sm_a106_20 : sm_at 106 20 = some (.iload_n 1, 1, (0, 0, 0, 0)) := by decide +kernel
theorem sm_a106_21 : sm_at 106 21 = some (.iastore, 1, (0, 0, 0, 0)) := by decide +kernel
theorem sm_a106_22 : sm_at 106 22 = some (.aload_n 0, 1, (0, 0, 0, 0)) := by decide +kernel
theorem sm_a106_23 : sm_at 106 23 = some (.dup, 1, (0, 0, 0, 0)) := by decide +kernel
theorem sm_a106_24 : sm_at 106 24 = some (.getfield 25, 3, (7, 4, 0, 157)) := by decide +kernel
theorem sm_a106_27 : sm_at 106 27 = some (.iconst 1, 1, (0, 0, 0, 0)) := by decide +kernel
theorem sm_a106_28 : sm_at 106 28 = some (.iadd, 1, (0, 0, 0, 0)) := by decide +kernel
theorem sm_a106_29 : sm_at 106 29 = some (.putfield 25, 3, (7, 4, 0, 157)) := by decide +kernel
theorem sm_a106_32 : sm_at 106 32 = some (.return_, 1, (0, 0, 0, 0)) := by decide +kernel
theorem bb_106_0 {d : Nat} {M : sm_M} {Q : Option sm_V → sm_M → Prop} {a0 : Nat} {x1 : Int32}
    (h : sm_K M a0 = 24 ∧ ∃ b_2, sm_R M a0 3 = some b_2 ∧ (1 ≤ sm_K M b_2 ∧ sm_K M b_2 % 3 ≠ 0) ∧ (((Int32.ofNat (sm_L M b_2)) ≤ (sm_I M a0 4) → Q none M) ∧ (¬ ((Int32.ofNat (sm_L M b_2)) ≤ (sm_I M a0 4)) → ∃ b_6, sm_R M a0 3 = some b_6 ∧ sm_wA 0 M b_6 ∧ sm_in_ M b_6 (sm_I M a0 4) ∧ Q none (sm_putI (sm_putI M b_6 (sm_I M a0 4).toNatClampNeg x1) a0 4 ((sm_I (sm_putI M b_6 (sm_I M a0 4).toNatClampNeg x1) a0 4) + 1))))) :
    sm_Run d 106 0 [some (.inr (some a0)), some (.inl x1)] [] M Q := by
  refine ru_go (t := (1, [some (.inr (some a0)), some (.inl x1)], [.inr (some a0)], M)) sm_a106_0 rfl rfl rfl ?_
  obtain ⟨h_1, h⟩ := h
  refine ru_go (t := (4, [some (.inr (some a0)), some (.inl x1)], [.inl (sm_I M a0 4)], M)) sm_a106_1 rfl rfl (st_getI h_1 rfl) ?_
  refine ru_go (t := (5, [some (.inr (some a0)), some (.inl x1)], [.inr (some a0), .inl (sm_I M a0 4)], M)) sm_a106_4 rfl rfl rfl ?_
  refine ru_go (t := (8, [some (.inr (some a0)), some (.inl x1)], [.inr (sm_R M a0 3), .inl (sm_I M a0 4)], M)) sm_a106_5 rfl rfl (st_getR h_1 rfl rfl) ?_
  obtain ⟨b_2, hb_3, h⟩ := h
  rw [hb_3]
  obtain ⟨h_4, h⟩ := h
  refine ru_go (t := (9, [some (.inr (some a0)), some (.inl x1)], [.inl (Int32.ofNat (sm_L M b_2)), .inl (sm_I M a0 4)], M)) sm_a106_8 rfl rfl (st_alen h_4) ?_
  refine ru_icmp (pc := 9) (p := 32) (p2 := 12) sm_a106_9 (by decide) rfl ⟨fun hc_5 => ?_, fun hc_5 => ?_⟩
  · have h := h.1 hc_5
    exact ru_ret sm_a106_32 (sm_rvv rfl) h
  · have h := h.2 hc_5
    refine ru_go (t := (13, [some (.inr (some a0)), some (.inl x1)], [.inr (some a0)], M)) sm_a106_12 rfl rfl rfl ?_
    refine ru_go (t := (16, [some (.inr (some a0)), some (.inl x1)], [.inr (sm_R M a0 3)], M)) sm_a106_13 rfl rfl (st_getR h_1 rfl rfl) ?_
    refine ru_go (t := (17, [some (.inr (some a0)), some (.inl x1)], [.inr (some a0), .inr (sm_R M a0 3)], M)) sm_a106_16 rfl rfl rfl ?_
    refine ru_go (t := (20, [some (.inr (some a0)), some (.inl x1)], [.inl (sm_I M a0 4), .inr (sm_R M a0 3)], M)) sm_a106_17 rfl rfl (st_getI h_1 rfl) ?_
    refine ru_go (t := (21, [some (.inr (some a0)), some (.inl x1)], [.inl x1, .inl (sm_I M a0 4), .inr (sm_R M a0 3)], M)) sm_a106_20 rfl rfl rfl ?_
    obtain ⟨b_6, hb_7, h⟩ := h
    rw [hb_7]
    obtain ⟨h_8, h⟩ := h
    obtain ⟨h_9, h⟩ := h
    refine ru_go (t := (22, [some (.inr (some a0)), some (.inl x1)], [], sm_putI M b_6 (sm_I M a0 4).toNatClampNeg x1)) sm_a106_21 rfl rfl (st_iast h_8 h_9) ?_
    refine ru_go (t := (23, [some (.inr (some a0)), some (.inl x1)], [.inr (some a0)], sm_putI M b_6 (sm_I M a0 4).toNatClampNeg x1)) sm_a106_22 rfl rfl rfl ?_
    refine ru_go (t := (24, [some (.inr (some a0)), some (.inl x1)], [.inr (some a0), .inr (some a0)], sm_putI M b_6 (sm_I M a0 4).toNatClampNeg x1)) sm_a106_23 rfl rfl rfl ?_
    refine ru_go (t := (27, [some (.inr (some a0)), some (.inl x1)], [.inl (sm_I (sm_putI M b_6 (sm_I M a0 4).toNatClampNeg x1) a0 4), .inr (some a0)], sm_putI M b_6 (sm_I M a0 4).toNatClampNeg x1)) sm_a106_24 rfl rfl (st_getI h_1 rfl) ?_
    refine ru_go (t := (28, [some (.inr (some a0)), some (.inl x1)], [.inl 1, .inl (sm_I (sm_putI M b_6 (sm_I M a0 4).toNatClampNeg x1) a0 4), .inr (some a0)], sm_putI M b_6 (sm_I M a0 4).toNatClampNeg x1)) sm_a106_27 rfl rfl (st_iconst (by decide)) ?_
    refine ru_go (t := (29, [some (.inr (some a0)), some (.inl x1)], [.inl ((sm_I (sm_putI M b_6 (sm_I M a0 4).toNatClampNeg x1) a0 4) + 1), .inr (some a0)], sm_putI M b_6 (sm_I M a0 4).toNatClampNeg x1)) sm_a106_28 rfl rfl rfl ?_
    refine ru_go (t := (32, [some (.inr (some a0)), some (.inl x1)], [], sm_putI (sm_putI M b_6 (sm_I M a0 4).toNatClampNeg x1) a0 4 ((sm_I (sm_putI M b_6 (sm_I M a0 4).toNatClampNeg x1) a0 4) + 1))) sm_a106_29 rfl rfl (st_putI h_1 rfl) ?_
    exact ru_ret sm_a106_32 (sm_rvv rfl) h

/-! WireBus$Packet.at:(I)I -/
theorem sm_a107_0 : sm_at 107 0 = some (.iload_n 1, 1, (0, 0, 0, 0)) := by decide +kernel
theorem sm_a107_1 : sm_at 107 1 = some (.ifCond .lt 20, 3, (0, 0, 0, 0)) := by decide +kernel
theorem sm_a107_4 : sm_at 107 4 = some (.iload_n 1, 1, (0, 0, 0, 0)) := by decide +kernel
theorem sm_a107_5 : sm_at 107 5 = some (.aload_n 0, 1, (0, 0, 0, 0)) := by decide +kernel
theorem sm_a107_6 : sm_at 107 6 = some (.getfield 25, 3, (7, 4, 0, 157)) := by decide +kernel
theorem sm_a107_9 : sm_at 107 9 = some (.if_icmp .ge 12, 3, (0, 0, 0, 0)) := by decide +kernel
theorem sm_a107_12 : sm_at 107 12 = some (.aload_n 0, 1, (0, 0, 0, 0)) := by decide +kernel
theorem sm_a107_13 : sm_at 107 13 = some (.getfield 9, 3, (7, 3, 0, 156)) := by decide +kernel
theorem sm_a107_16 : sm_at 107 16 = some (.iload_n 1, 1, (0, 0, 0, 0)) := by decide +kernel
theorem sm_a107_17 : sm_at 107 17 = some (.iaload, 1, (0, 0, 0, 0)) := by decide +kernel
theorem sm_a107_18 : sm_at 107 18 = some (.goto 4, 3, (0, 0, 0, 0)) := by decide +kernel
theorem sm_a107_21 : sm_at 107 21 = some (.iconst 0, 1, (0, 0, 0, 0)) := by decide +kernel
theorem sm_a107_22 : sm_at 107 22 = some (.ireturn, 1, (0, 0, 0, 0)) := by decide +kernel
theorem bb_107_0 {d : Nat} {M : sm_M} {Q : Option sm_V → sm_M → Prop} {a0 : Nat} {x1 : Int32}
    (h : ((x1 < 0 → Q (some (.inl 0)) M) ∧ (¬ (x1 < 0) → sm_K M a0 = 24 ∧ (((sm_I M a0 4) ≤ x1 → Q (some (.inl 0)) M) ∧ (¬ ((sm_I M a0 4) ≤ x1) → ∃ b_4, sm_R M a0 3 = some b_4 ∧ sm_iA M b_4 ∧ sm_in_ M b_4 x1 ∧ Q (some (.inl (sm_I M b_4 (x1).toNatClampNeg))) M))))) :
    sm_Run d 107 0 [some (.inr (some a0)), some (.inl x1)] [] M Q := by
  refine ru_go (t := (1, [some (.inr (some a0)), some (.inl x1)], [.inl x1], M)) sm_a107_0 rfl rfl rfl ?_
  refine ru_if (pc := 1) (p := 21) (p2 := 4) sm_a107_1 (by decide) rfl ⟨fun hc_1 => ?_, fun hc_1 => ?_⟩
  · have h := h.1 hc_1
    refine ru_go (t := (22, [some (.inr (some a0)), some (.inl x1)], [.inl 0], M)) sm_a107_21 rfl rfl (st_iconst (by decide)) ?_
    exact ru_ret sm_a107_22 rfl h
  · have h := h.2 hc_1
    refine ru_go (t := (5, [some (.inr (some a0)), some (.inl x1)], [.inl x1], M)) sm_a107_4 rfl rfl rfl ?_
    refine ru_go (t := (6, [some (.inr (some a0)), some (.inl x1)], [.inr (some a0), .inl x1], M)) sm_a107_5 rfl rfl rfl ?_
    obtain ⟨h_2, h⟩ := h
    refine ru_go (t := (9, [some (.inr (some a0)), some (.inl x1)], [.inl (sm_I M a0 4), .inl x1], M)) sm_a107_6 rfl rfl (st_getI h_2 rfl) ?_
    refine ru_icmp (pc := 9) (p := 21) (p2 := 12) sm_a107_9 (by decide) rfl ⟨fun hc_3 => ?_, fun hc_3 => ?_⟩
    · have h := h.1 hc_3
      refine ru_go (t := (22, [some (.inr (some a0)), some (.inl x1)], [.inl 0], M)) sm_a107_21 rfl rfl (st_iconst (by decide)) ?_
      exact ru_ret sm_a107_22 rfl h
    · have h := h.2 hc_3
      refine ru_go (t := (13, [some (.inr (some a0)), some (.inl x1)], [.inr (some a0)], M)) sm_a107_12 rfl rfl rfl ?_
      refine ru_go (t := (16, [some (.inr (some a0)), some (.inl x1)], [.inr (sm_R M a0 3)], M)) sm_a107_13 rfl rfl (st_getR h_2 rfl rfl) ?_
      refine ru_go (t := (17, [some (.inr (some a0)), some (.inl x1)], [.inl x1, .inr (sm_R M a0 3)], M)) sm_a107_16 rfl rfl rfl ?_
      obtain ⟨b_4, hb_5, h⟩ := h
      rw [hb_5]
      obtain ⟨h_6, h⟩ := h
      obtain ⟨h_7, h⟩ := h
      refine ru_go (t := (18, [some (.inr (some a0)), some (.inl x1)], [.inl (sm_I M b_4 (x1).toNatClampNeg)], M)) sm_a107_17 rfl rfl (st_iald h_6 h_7) ?_
      refine ru_go (t := (22, [some (.inr (some a0)), some (.inl x1)], [.inl (sm_I M b_4 (x1).toNatClampNeg)], M)) sm_a107_18 rfl rfl (st_goto (pc := 18) (by decide)) ?_
      exact ru_ret sm_a107_22 rfl h

/-! WireBus$Packet.pairAt:(I)I -/
theorem sm_a108_0 : sm_at 108 0 = some (.aload_n 0, 1, (0, 0, 0, 0)) := by decide +kernel
theorem sm_a108_1 : sm_at 108 1 = some (.iload_n 1, 1, (0, 0, 0, 0)) := by decide +kernel
theorem sm_a108_2 : sm_at 108 2 = some (.invokevirtual 31, 3, (10, 107, 7, 895)) := by decide +kernel
theorem sm_a108_5 : sm_at 108 5 = some (.sipush 256, 3, (0, 0, 0, 0)) := by decide +kernel
theorem sm_a108_8 : sm_at 108 8 = some (.aload_n 0, 1, (0, 0, 0, 0)) := by decide +kernel
theorem sm_a108_9 : sm_at 108 9 = some (.iload_n 1, 1, (0, 0, 0, 0)) := by decide +kernel
theorem sm_a108_10 : sm_at 108 10 = some (.iconst 1, 1, (0, 0, 0, 0)) := by decide +kernel
theorem sm_a108_11 : sm_at 108 11 = some (.iadd, 1, (0, 0, 0, 0)) := by decide +kernel
theorem sm_a108_12 : sm_at 108 12 = some (.invokevirtual 31, 3, (10, 107, 7, 895)) := by decide +kernel
theorem sm_a108_15 : sm_at 108 15 = some (.imul, 1, (0, 0, 0, 0)) := by decide +kernel
theorem sm_a108_16 : sm_at 108 16 = some (.iadd, 1, (0, 0, 0, 0)) := by decide +kernel
theorem sm_a108_17 : sm_at 108 17 = some (.ireturn, 1, (0, 0, 0, 0)) := by decide +kernel
theorem bb_108_0 {d : Nat} {M : sm_M} {Q : Option sm_V → sm_M → Prop} {a0 : Nat} {x1 : Int32}
    (h : sm_K M a0 = 24 ∧ sm_Run d 107 0 (sm_ent 107 [.inr (some a0), .inl x1]) [] M (fun v M1 => sm_Run (d + 1) 108 5 [some (.inr (some a0)), some (.inl x1)] (v.toList ++ []) M1 Q)) :
    sm_Run (d + 1) 108 0 [some (.inr (some a0)), some (.inl x1)] [] M Q := by
  refine ru_go (t := (1, [some (.inr (some a0)), some (.inl x1)], [.inr (some a0)], M)) sm_a108_0 rfl rfl rfl ?_
  refine ru_go (t := (2, [some (.inr (some a0)), some (.inl x1)], [.inl x1, .inr (some a0)], M)) sm_a108_1 rfl rfl rfl ?_
  obtain ⟨h_1, h⟩ := h
  exact ru_call (p := 5) sm_a108_2 rfl (sc_virt (Or.inl rfl) rfl rfl h_1 (Nat.le_of_ble_eq_true rfl)) rfl h
theorem bb_108_5 {d : Nat} {M : sm_M} {Q : Option sm_V → sm_M → Prop} {a0 : Nat} {x1 : Int32} {y0 : Int32}
    (h : sm_K M a0 = 24 ∧ sm_Run d 107 0 (sm_ent 107 [.inr (some a0), .inl (x1 + 1)]) [] M (fun v M1 => sm_Run (d + 1) 108 15 [some (.inr (some a0)), some (.inl x1)] (v.toList ++ [.inl 256, .inl y0]) M1 Q)) :
    sm_Run (d + 1) 108 5 [some (.inr (some a0)), some (.inl x1)] [.inl y0] M Q := by
  refine ru_go (t := (8, [some (.inr (some a0)), some (.inl x1)], [.inl 256, .inl y0], M)) sm_a108_5 rfl rfl (st_sipush (by decide)) ?_
  refine ru_go (t := (9, [some (.inr (some a0)), some (.inl x1)], [.inr (some a0), .inl 256, .inl y0], M)) sm_a108_8 rfl rfl rfl ?_
  refine ru_go (t := (10, [some (.inr (some a0)), some (.inl x1)], [.inl x1, .inr (some a0), .inl 256, .inl y0], M)) sm_a108_9 rfl rfl rfl ?_
  refine ru_go (t := (11, [some (.inr (some a0)), some (.inl x1)], [.inl 1, .inl x1, .inr (some a0), .inl 256, .inl y0], M)) sm_a108_10 rfl rfl (st_iconst (by decide)) ?_
  refine ru_go (t := (12, [some (.inr (some a0)), some (.inl x1)], [.inl (x1 + 1), .inr (some a0), .inl 256, .inl y0], M)) sm_a108_11 rfl rfl rfl ?_
  obtain ⟨h_1, h⟩ := h
  exact ru_call (p := 15) sm_a108_12 rfl (sc_virt (Or.inl rfl) rfl rfl h_1 (Nat.le_of_ble_eq_true rfl)) rfl h
theorem bb_108_15 {d : Nat} {M : sm_M} {Q : Option sm_V → sm_M → Prop} {a0 : Nat} {x1 : Int32} {y0 : Int32} {y1 : Int32} {y2 : Int32}
    (h : Q (some (.inl (y2 + (y1 * y0)))) M) :
    sm_Run (d + 1) 108 15 [some (.inr (some a0)), some (.inl x1)] [.inl y0, .inl y1, .inl y2] M Q := by
  refine ru_go (t := (16, [some (.inr (some a0)), some (.inl x1)], [.inl (y1 * y0), .inl y2], M)) sm_a108_15 rfl rfl rfl ?_
  refine ru_go (t := (17, [some (.inr (some a0)), some (.inl x1)], [.inl (y2 + (y1 * y0))], M)) sm_a108_16 rfl rfl rfl ?_
  exact ru_ret sm_a108_17 rfl h

/-! WireBus$Packet.addPair:(I)V -/
theorem sm_a109_0 : sm_at 109 0 = some (.aload_n 0, 1, (0, 0, 0, 0)) := by decide +kernel
theorem sm_a109_1 : sm_at 109 1 = some (.iload_n 1, 1, (0, 0, 0, 0)) := by decide +kernel
theorem sm_a109_2 : sm_at 109 2 = some (.sipush 255, 3, (0, 0, 0, 0)) := by decide +kernel
theorem sm_a109_5 : sm_at 109 5 = some (.iand, 1, (0, 0, 0, 0)) := by decide +kernel
theorem sm_a109_6 : sm_at 109 6 = some (.invokevirtual 35, 3, (10, 106, 7, 1038)) := by decide +kernel
theorem sm_a109_9 : sm_at 109 9 = some (.aload_n 0, 1, (0, 0, 0, 0)) := by decide +kernel
theorem sm_a109_10 : sm_at 109 10 = some (.iload_n 1, 1, (0, 0, 0, 0)) := by decide +kernel
theorem sm_a109_11 : sm_at 109 11 = some (.bipush 8, 2, (0, 0, 0, 0)) := by decide +kernel
theorem sm_a109_13 : sm_at 109 13 = some (.ishr, 1, (0, 0, 0, 0)) := by decide +kernel
theorem sm_a109_14 : sm_at 109 14 = some (.sipush 255, 3, (0, 0, 0, 0)) := by decide +kernel
theorem sm_a109_17 : sm_at 109 17 = some (.iand, 1, (0, 0, 0, 0)) := by decide +kernel
theorem sm_a109_18 : sm_at 109 18 = some (.invokevirtual 35, 3, (10, 106, 7, 1038)) := by decide +kernel
theorem sm_a109_21 : sm_at 109 21 = some (.return_, 1, (0, 0, 0, 0)) := by decide +kernel
theorem bb_109_0 {d : Nat} {M : sm_M} {Q : Option sm_V → sm_M → Prop} {a0 : Nat} {x1 : Int32}
    (h : sm_K M a0 = 24 ∧ sm_Run d 106 0 (sm_ent 106 [.inr (some a0), .inl (x1 &&& 255)]) [] M (fun v M1 => sm_Run (d + 1) 109 9 [some (.inr (some a0)), some (.inl x1)] (v.toList ++ []) M1 Q)) :
    sm_Run (d + 1) 109 0 [some (.inr (some a0)), some (.inl x1)] [] M Q := by
  refine ru_go (t := (1, [some (.inr (some a0)), some (.inl x1)], [.inr (some a0)], M)) sm_a109_0 rfl rfl rfl ?_
  refine ru_go (t := (2, [some (.inr (some a0)), some (.inl x1)], [.inl x1, .inr (some a0)], M)) sm_a109_1 rfl rfl rfl ?_
  refine ru_go (t := (5, [some (.inr (some a0)), some (.inl x1)], [.inl 255, .inl x1, .inr (some a0)], M)) sm_a109_2 rfl rfl (st_sipush (by decide)) ?_
  refine ru_go (t := (6, [some (.inr (some a0)), some (.inl x1)], [.inl (x1 &&& 255), .inr (some a0)], M)) sm_a109_5 rfl rfl rfl ?_
  obtain ⟨h_1, h⟩ := h
  exact ru_call (p := 9) sm_a109_6 rfl (sc_virt (Or.inl rfl) rfl rfl h_1 (Nat.le_of_ble_eq_true rfl)) rfl h
theorem bb_109_9 {d : Nat} {M : sm_M} {Q : Option sm_V → sm_M → Prop} {a0 : Nat} {x1 : Int32}
    (h : sm_K M a0 = 24 ∧ sm_Run d 106 0 (sm_ent 106 [.inr (some a0), .inl ((x1 >>> (8 &&& 31)) &&& 255)]) [] M (fun v M1 => sm_Run (d + 1) 109 21 [some (.inr (some a0)), some (.inl x1)] (v.toList ++ []) M1 Q)) :
    sm_Run (d + 1) 109 9 [some (.inr (some a0)), some (.inl x1)] [] M Q := by
  refine ru_go (t := (10, [some (.inr (some a0)), some (.inl x1)], [.inr (some a0)], M)) sm_a109_9 rfl rfl rfl ?_
  refine ru_go (t := (11, [some (.inr (some a0)), some (.inl x1)], [.inl x1, .inr (some a0)], M)) sm_a109_10 rfl rfl rfl ?_
  refine ru_go (t := (13, [some (.inr (some a0)), some (.inl x1)], [.inl 8, .inl x1, .inr (some a0)], M)) sm_a109_11 rfl rfl (st_bipush (by decide)) ?_
  refine ru_go (t := (14, [some (.inr (some a0)), some (.inl x1)], [.inl (x1 >>> (8 &&& 31)), .inr (some a0)], M)) sm_a109_13 rfl rfl rfl ?_
  refine ru_go (t := (17, [some (.inr (some a0)), some (.inl x1)], [.inl 255, .inl (x1 >>> (8 &&& 31)), .inr (some a0)], M)) sm_a109_14 rfl rfl (st_sipush (by decide)) ?_
  refine ru_go (t := (18, [some (.inr (some a0)), some (.inl x1)], [.inl ((x1 >>> (8 &&& 31)) &&& 255), .inr (some a0)], M)) sm_a109_17 rfl rfl rfl ?_
  obtain ⟨h_1, h⟩ := h
  exact ru_call (p := 21) sm_a109_18 rfl (sc_virt (Or.inl rfl) rfl rfl h_1 (Nat.le_of_ble_eq_true rfl)) rfl h
theorem bb_109_21 {d : Nat} {M : sm_M} {Q : Option sm_V → sm_M → Prop} {a0 : Nat} {x1 : Int32}
    (h : Q none M) :
    sm_Run (d + 1) 109 21 [some (.inr (some a0)), some (.inl x1)] [] M Q := by
  exact ru_ret sm_a109_21 (sm_rvv rfl) h

/-! WireBus$Packet.copyBytesTo:(LWireBus$Packet;)V -/
theorem sm_a110_0 : sm_at 110 0 = some (.aload_n 1, 1, (0, 0, 0, 0)) := by decide +kernel
theorem sm_a110_1 : sm_at 110 1 = some (.aload_n 0, 1, (0, 0, 0, 0)) := by decide +kernel
theorem sm_a110_2 : sm_at 110 2 = some (.getfield 25, 3, (7, 4, 0, 157)) := by decide +kernel
theorem sm_a110_5 : sm_at 110 5 = some (.putfield 25, 3, (7, 4, 0, 157)) := by decide +kernel
theorem sm_a110_8 : sm_at 110 8 = some (.aload_n 0, 1, (0, 0, 0, 0)) := by decide +kernel
theorem sm_a110_9 : sm_at 110 9 = some (.getfield 9, 3, (7, 3, 0, 156)) := by decide +kernel
theorem sm_a110_12 : sm_at 110 12 = some (.iconst 0, 1, (0, 0, 0, 0)) := by decide +kernel
theorem sm_a110_13 : sm_at 110 13 = some (.aload_n 1, 1, (0, 0, 0, 0)) := by decide +kernel
theorem sm_a110_14 : sm_at 110 14 = some (.getfield 9, 3, (7, 3, 0, 156)) := by decide +kernel
theorem sm_a110_17 : sm_at 110 17 = some (.iconst 0, 1, (0, 0, 0, 0)) := by decide +kernel
theorem sm_a110_18 : sm_at 110 18 = some (.aload_n 0, 1, (0, 0, 0, 0)) := by decide +kernel
theorem sm_a110_19 : sm_at 110 19 = some (.getfield 25, 3, (7, 4, 0, 157)) := by decide +kernel
theorem sm_a110_22 : sm_at 110 22 = some (.invokestatic 39, 3, (4, 0, 0, 1053)) := by decide +kernel
theorem sm_a110_25 : sm_at 110 25 = some (.return_, 1, (0, 0, 0, 0)) := by decide +kernel
theorem bb_110_0 {d : Nat} {M : sm_M} {Q : Option sm_V → sm_M → Prop} {a0 : Nat} {r1 : Option Nat}
    (h : sm_K M a0 = 24 ∧ ∃ b_2, r1 = some b_2 ∧ sm_K M b_2 = 24 ∧ ∃ b_5, sm_R (sm_putI M b_2 4 (sm_I M a0 4)) b_2 3 = some b_5 ∧ ∃ b_7, sm_R (sm_putI M b_2 4 (sm_I M a0 4)) a0 3 = some b_7 ∧ sm_iA M b_7 ∧ sm_wA 0 M b_5 ∧ (0 ≤ (0 : Int32).toInt ∧ 0 ≤ (0 : Int32).toInt ∧ 0 ≤ ((sm_I (sm_putI M b_2 4 (sm_I M a0 4)) a0 4) : Int32).toInt) ∧ ((0 : Int32).toInt + ((sm_I (sm_putI M b_2 4 (sm_I M a0 4)) a0 4) : Int32).toInt ≤ sm_L M b_7 ∧ (0 : Int32).toInt + ((sm_I (sm_putI M b_2 4 (sm_I M a0 4)) a0 4) : Int32).toInt ≤ sm_L M b_5) ∧ Q none (sm_rowI (sm_putI M b_2 4 (sm_I M a0 4)) b_5 (va_cpy (sm_I (sm_putI M b_2 4 (sm_I M a0 4)) b_7) (sm_I (sm_putI M b_2 4 (sm_I M a0 4)) b_5) (0 : Int32).toNatClampNeg (0 : Int32).toNatClampNeg ((sm_I (sm_putI M b_2 4 (sm_I M a0 4)) a0 4) : Int32).toNatClampNeg))) :
    sm_Run (d + 1) 110 0 [some (.inr (some a0)), some (.inr r1)] [] M Q := by
  refine ru_go (t := (1, [some (.inr (some a0)), some (.inr r1)], [.inr r1], M)) sm_a110_0 rfl rfl rfl ?_
  refine ru_go (t := (2, [some (.inr (some a0)), some (.inr r1)], [.inr (some a0), .inr r1], M)) sm_a110_1 rfl rfl rfl ?_
  obtain ⟨h_1, h⟩ := h
  refine ru_go (t := (5, [some (.inr (some a0)), some (.inr r1)], [.inl (sm_I M a0 4), .inr r1], M)) sm_a110_2 rfl rfl (st_getI h_1 rfl) ?_
  obtain ⟨b_2, hb_3, h⟩ := h
  rw [hb_3]
  obtain ⟨h_4, h⟩ := h
  refine ru_go (t := (8, [some (.inr (some a0)), some (.inr (some b_2))], [], sm_putI M b_2 4 (sm_I M a0 4))) sm_a110_5 rfl rfl (st_putI h_4 rfl) ?_
  refine ru_go (t := (9, [some (.inr (some a0)), some (.inr (some b_2))], [.inr (some a0)], sm_putI M b_2 4 (sm_I M a0 4))) sm_a110_8 rfl rfl rfl ?_
  refine ru_go (t := (12, [some (.inr (some a0)), some (.inr (some b_2))], [.inr (sm_R (sm_putI M b_2 4 (sm_I M a0 4)) a0 3)], sm_putI M b_2 4 (sm_I M a0 4))) sm_a110_9 rfl rfl (st_getR h_1 rfl rfl) ?_
  refine ru_go (t := (13, [some (.inr (some a0)), some (.inr (some b_2))], [.inl 0, .inr (sm_R (sm_putI M b_2 4 (sm_I M a0 4)) a0 3)], sm_putI M b_2 4 (sm_I M a0 4))) sm_a110_12 rfl rfl (st_iconst (by decide)) ?_
  refine ru_go (t := (14, [some (.inr (some a0)), some (.inr (some b_2))], [.inr (some b_2), .inl 0, .inr (sm_R (sm_putI M b_2 4 (sm_I M a0 4)) a0 3)], sm_putI M b_2 4 (sm_I M a0 4))) sm_a110_13 rfl rfl rfl ?_
  refine ru_go (t := (17, [some (.inr (some a0)), some (.inr (some b_2))], [.inr (sm_R (sm_putI M b_2 4 (sm_I M a0 4)) b_2 3), .inl 0, .inr (sm_R (sm_putI M b_2 4 (sm_I M a0 4)) a0 3)], sm_putI M b_2 4 (sm_I M a0 4))) sm_a110_14 rfl rfl (st_getR h_4 rfl rfl) ?_
  refine ru_go (t := (18, [some (.inr (some a0)), some (.inr (some b_2))], [.inl 0, .inr (sm_R (sm_putI M b_2 4 (sm_I M a0 4)) b_2 3), .inl 0, .inr (sm_R (sm_putI M b_2 4 (sm_I M a0 4)) a0 3)], sm_putI M b_2 4 (sm_I M a0 4))) sm_a110_17 rfl rfl (st_iconst (by decide)) ?_
  refine ru_go (t := (19, [some (.inr (some a0)), some (.inr (some b_2))], [.inr (some a0), .inl 0, .inr (sm_R (sm_putI M b_2 4 (sm_I M a0 4)) b_2 3), .inl 0, .inr (sm_R (sm_putI M b_2 4 (sm_I M a0 4)) a0 3)], sm_putI M b_2 4 (sm_I M a0 4))) sm_a110_18 rfl rfl rfl ?_
  refine ru_go (t := (22, [some (.inr (some a0)), some (.inr (some b_2))], [.inl (sm_I (sm_putI M b_2 4 (sm_I M a0 4)) a0 4), .inl 0, .inr (sm_R (sm_putI M b_2 4 (sm_I M a0 4)) b_2 3), .inl 0, .inr (sm_R (sm_putI M b_2 4 (sm_I M a0 4)) a0 3)], sm_putI M b_2 4 (sm_I M a0 4))) sm_a110_19 rfl rfl (st_getI h_1 rfl) ?_
  obtain ⟨b_5, hb_6, h⟩ := h
  rw [hb_6]
  obtain ⟨b_7, hb_8, h⟩ := h
  rw [hb_8]
  obtain ⟨h_9, h⟩ := h
  obtain ⟨h_10, h⟩ := h
  obtain ⟨h_11, h⟩ := h
  obtain ⟨h_12, h⟩ := h
  refine ru_go (t := (25, [some (.inr (some a0)), some (.inr (some b_2))], [], sm_rowI (sm_putI M b_2 4 (sm_I M a0 4)) b_5 (va_cpy (sm_I (sm_putI M b_2 4 (sm_I M a0 4)) b_7) (sm_I (sm_putI M b_2 4 (sm_I M a0 4)) b_5) (0 : Int32).toNatClampNeg (0 : Int32).toNatClampNeg ((sm_I (sm_putI M b_2 4 (sm_I M a0 4)) a0 4) : Int32).toNatClampNeg))) sm_a110_22 rfl rfl (st_copy (Nat.le_of_ble_eq_true rfl) h_9 h_10 h_11 h_12) ?_
  exact ru_ret sm_a110_25 (sm_rvv rfl) h
