/-! WireBus$Transfer.<init>:(ILWireBus$Pipe;IZI)V -/
theorem sm_a121_0 : sm_at 121 0 = some (.aload_n 0, 1, (0, 0, 0, 0)) := by decide +kernel
theorem sm_a121_1 : sm_at 121 1 = some (.invokespecial 3, 3, (1, 0, 0, 620)) := by decide +kernel
theorem sm_a121_4 : sm_at 121 4 = some (.aload_n 0, 1, (0, 0, 0, 0)) := by decide +kernel
theorem sm_a121_5 : sm_at 121 5 = some (.iconst 1, 1, (0, 0, 0, 0)) := by decide +kernel
theorem sm_a121_6 : sm_at 121 6 = some (.putfield 11, 3, (10, 9, 0, 640)) := by decide +kernel
theorem sm_a121_9 : sm_at 121 9 = some (.aload_n 0, 1, (0, 0, 0, 0)) := by decide +kernel
theorem sm_a121_10 : sm_at 121 10 = some (.iconst 0, 1, (0, 0, 0, 0)) := by decide +kernel
theorem sm_a121_11 : sm_at 121 11 = some (.putfield 15, 3, (10, 11, 0, 645)) := by decide +kernel
theorem sm_a121_14 : sm_at 121 14 = some (.aload_n 0, 1, (0, 0, 0, 0)) := by decide +kernel
theorem sm_a121_15 : sm_at 121 15 = some (.iload_n 1, 1, (0, 0, 0, 0)) := by decide +kernel
theorem sm_a121_16 : sm_at 121 16 = some (.putfield 18, 3, (10, 0, 0, 622)) := by decide +kernel
theorem sm_a121_19 : sm_at 121 19 = some (.aload_n 0, 1, (0, 0, 0, 0)) := by decide +kernel
theorem sm_a121_20 : sm_at 121 20 = some (.aload_n 2, 1, (0, 0, 0, 0)) := by decide +kernel
theorem sm_a121_21 : sm_at 121 21 = some (.putfield 21, 3, (10, 1, 0, 625)) := by decide +kernel
theorem sm_a121_24 : sm_at 121 24 = some (.aload_n 0, 1, (0, 0, 0, 0)) := by decide +kernel
theorem sm_a121_25 : sm_at 121 25 = some (.iload_n 3, 1, (0, 0, 0, 0)) := by decide +kernel
theorem sm_a121_26 : sm_at 121 26 = some (.putfield 25, 3, (10, 2, 0, 628)) := by decide +kernel
theorem sm_a121_29 : sm_at 121 29 = some (.aload_n 0, 1, (0, 0, 0, 0)) := by decide +kernel
theorem sm_a121_30 : sm_at 121 30 = some (.iload 4, 2, (0, 0, 0, 0)) := by decide +kernel
theorem sm_a121_32 : sm_at 121 32 = some (.putfield 28, 3, (10, 3, 0, 629)) := by decide +kernel
theorem sm_a121_35 : sm_at 121 35 = some (.aload_n 0, 1, (0, 0, 0, 0)) := by decide +kernel
theorem sm_a121_36 : sm_at 121 36 = some (.iconst 0, 1, (0, 0, 0, 0)) := by decide +kernel
theorem sm_a121_37 : sm_at 121 37 = some (.iload 5, 2, (0, 0, 0, 0)) := by decide +kernel
theorem sm_a121_39 : sm_at 121 39 = some (.invokestatic 32, 3, (2, 0, 0, 621)) := by decide +kernel
theorem sm_a121_42 : sm_at 121 42 = some (.newarray .int, 2, (7, 0, 0, 0)) := by decide +kernel
theorem sm_a121_44 : sm_at 121 44 = some (.putfield 38, 3, (10, 4, 0, 630)) := by decide +kernel
theorem sm_a121_47 : sm_at 121 47 = some (.return_, 1, (0, 0, 0, 0)) := by decide +kernel
theorem bb_121_0 {d : Nat} {M : sm_M} {Q : Option sm_V → sm_M → Prop} {a0 : Nat} {x1 : Int32} {r2 : Option Nat} {x3 : Int32} {x4 : Int32} {x5 : Int32}
    (h : sm_K M a0 = 33 ∧ sm_fit .boolean x4 = true ∧ (0 ≤ (if 0 < x5 then x5 else 0).toInt ∧ (if 0 < x5 then x5 else 0).toInt ≤ 100000) ∧ sm_K (sm_new (sm_putI (sm_putI (sm_putR (sm_putI (sm_putI (sm_putI M a0 9 1) a0 11 0) a0 0 x1) a0 1 r2) a0 2 x3) a0 3 x4) 23 (if 0 < x5 then x5 else 0).toNatClampNeg (if 0 < x5 then x5 else 0).toNatClampNeg) a0 = 33 ∧ Q none (sm_putR (sm_new (sm_putI (sm_putI (sm_putR (sm_putI (sm_putI (sm_putI M a0 9 1) a0 11 0) a0 0 x1) a0 1 r2) a0 2 x3) a0 3 x4) 23 (if 0 < x5 then x5 else 0).toNatClampNeg (if 0 < x5 then x5 else 0).toNatClampNeg) a0 4 (some (sm_N (sm_putI (sm_putI (sm_putR (sm_putI (sm_putI (sm_putI M a0 9 1) a0 11 0) a0 0 x1) a0 1 r2) a0 2 x3) a0 3 x4))))) :
    sm_Run (d + 1) 121 0 [some (.inr (some a0)), some (.inl x1), some (.inr r2), some (.inl x3), some (.inl x4), some (.inl x5)] [] M Q := by
  refine ru_go (t := (1, [some (.inr (some a0)), some (.inl x1), some (.inr r2), some (.inl x3), some (.inl x4), some (.inl x5)], [.inr (some a0)], M)) sm_a121_0 rfl rfl rfl ?_
  refine ru_go (t := (4, [some (.inr (some a0)), some (.inl x1), some (.inr r2), some (.inl x3), some (.inl x4), some (.inl x5)], [], M)) sm_a121_1 rfl rfl (st_oi (Nat.le_of_ble_eq_true rfl)) ?_
  refine ru_go (t := (5, [some (.inr (some a0)), some (.inl x1), some (.inr r2), some (.inl x3), some (.inl x4), some (.inl x5)], [.inr (some a0)], M)) sm_a121_4 rfl rfl rfl ?_
  refine ru_go (t := (6, [some (.inr (some a0)), some (.inl x1), some (.inr r2), some (.inl x3), some (.inl x4), some (.inl x5)], [.inl 1, .inr (some a0)], M)) sm_a121_5 rfl rfl (st_iconst (by decide)) ?_
  obtain ⟨h_1, h⟩ := h
  refine ru_go (t := (9, [some (.inr (some a0)), some (.inl x1), some (.inr r2), some (.inl x3), some (.inl x4), some (.inl x5)], [], sm_putI M a0 9 1)) sm_a121_6 rfl rfl (st_putI h_1 rfl) ?_
  refine ru_go (t := (10, [some (.inr (some a0)), some (.inl x1), some (.inr r2), some (.inl x3), some (.inl x4), some (.inl x5)], [.inr (some a0)], sm_putI M a0 9 1)) sm_a121_9 rfl rfl rfl ?_
  refine ru_go (t := (11, [some (.inr (some a0)), some (.inl x1), some (.inr r2), some (.inl x3), some (.inl x4), some (.inl x5)], [.inl 0, .inr (some a0)], sm_putI M a0 9 1)) sm_a121_10 rfl rfl (st_iconst (by decide)) ?_
  refine ru_go (t := (14, [some (.inr (some a0)), some (.inl x1), some (.inr r2), some (.inl x3), some (.inl x4), some (.inl x5)], [], sm_putI (sm_putI M a0 9 1) a0 11 0)) sm_a121_11 rfl rfl (st_putI h_1 rfl) ?_
  refine ru_go (t := (15, [some (.inr (some a0)), some (.inl x1), some (.inr r2), some (.inl x3), some (.inl x4), some (.inl x5)], [.inr (some a0)], sm_putI (sm_putI M a0 9 1) a0 11 0)) sm_a121_14 rfl rfl rfl ?_
  refine ru_go (t := (16, [some (.inr (some a0)), some (.inl x1), some (.inr r2), some (.inl x3), some (.inl x4), some (.inl x5)], [.inl x1, .inr (some a0)], sm_putI (sm_putI M a0 9 1) a0 11 0)) sm_a121_15 rfl rfl rfl ?_
  refine ru_go (t := (19, [some (.inr (some a0)), some (.inl x1), some (.inr r2), some (.inl x3), some (.inl x4), some (.inl x5)], [], sm_putI (sm_putI (sm_putI M a0 9 1) a0 11 0) a0 0 x1)) sm_a121_16 rfl rfl (st_putI h_1 rfl) ?_
  refine ru_go (t := (20, [some (.inr (some a0)), some (.inl x1), some (.inr r2), some (.inl x3), some (.inl x4), some (.inl x5)], [.inr (some a0)], sm_putI (sm_putI (sm_putI M a0 9 1) a0 11 0) a0 0 x1)) sm_a121_19 rfl rfl rfl ?_
  refine ru_go (t := (21, [some (.inr (some a0)), some (.inl x1), some (.inr r2), some (.inl x3), some (.inl x4), some (.inl x5)], [.inr r2, .inr (some a0)], sm_putI (sm_putI (sm_putI M a0 9 1) a0 11 0) a0 0 x1)) sm_a121_20 rfl rfl rfl ?_
  refine ru_go (t := (24, [some (.inr (some a0)), some (.inl x1), some (.inr r2), some (.inl x3), some (.inl x4), some (.inl x5)], [], sm_putR (sm_putI (sm_putI (sm_putI M a0 9 1) a0 11 0) a0 0 x1) a0 1 r2)) sm_a121_21 rfl rfl (st_putR h_1 rfl) ?_
  refine ru_go (t := (25, [some (.inr (some a0)), some (.inl x1), some (.inr r2), some (.inl x3), some (.inl x4), some (.inl x5)], [.inr (some a0)], sm_putR (sm_putI (sm_putI (sm_putI M a0 9 1) a0 11 0) a0 0 x1) a0 1 r2)) sm_a121_24 rfl rfl rfl ?_
  refine ru_go (t := (26, [some (.inr (some a0)), some (.inl x1), some (.inr r2), some (.inl x3), some (.inl x4), some (.inl x5)], [.inl x3, .inr (some a0)], sm_putR (sm_putI (sm_putI (sm_putI M a0 9 1) a0 11 0) a0 0 x1) a0 1 r2)) sm_a121_25 rfl rfl rfl ?_
  refine ru_go (t := (29, [some (.inr (some a0)), some (.inl x1), some (.inr r2), some (.inl x3), some (.inl x4), some (.inl x5)], [], sm_putI (sm_putR (sm_putI (sm_putI (sm_putI M a0 9 1) a0 11 0) a0 0 x1) a0 1 r2) a0 2 x3)) sm_a121_26 rfl rfl (st_putI h_1 rfl) ?_
  refine ru_go (t := (30, [some (.inr (some a0)), some (.inl x1), some (.inr r2), some (.inl x3), some (.inl x4), some (.inl x5)], [.inr (some a0)], sm_putI (sm_putR (sm_putI (sm_putI (sm_putI M a0 9 1) a0 11 0) a0 0 x1) a0 1 r2) a0 2 x3)) sm_a121_29 rfl rfl rfl ?_
  refine ru_go (t := (32, [some (.inr (some a0)), some (.inl x1), some (.inr r2), some (.inl x3), some (.inl x4), some (.inl x5)], [.inl x4, .inr (some a0)], sm_putI (sm_putR (sm_putI (sm_putI (sm_putI M a0 9 1) a0 11 0) a0 0 x1) a0 1 r2) a0 2 x3)) sm_a121_30 rfl rfl rfl ?_
  obtain ⟨h_2, h⟩ := h
  refine ru_go (t := (35, [some (.inr (some a0)), some (.inl x1), some (.inr r2), some (.inl x3), some (.inl x4), some (.inl x5)], [], sm_putI (sm_putI (sm_putR (sm_putI (sm_putI (sm_putI M a0 9 1) a0 11 0) a0 0 x1) a0 1 r2) a0 2 x3) a0 3 x4)) sm_a121_32 rfl rfl (st_putI h_1 h_2) ?_
  refine ru_go (t := (36, [some (.inr (some a0)), some (.inl x1), some (.inr r2), some (.inl x3), some (.inl x4), some (.inl x5)], [.inr (some a0)], sm_putI (sm_putI (sm_putR (sm_putI (sm_putI (sm_putI M a0 9 1) a0 11 0) a0 0 x1) a0 1 r2) a0 2 x3) a0 3 x4)) sm_a121_35 rfl rfl rfl ?_
  refine ru_go (t := (37, [some (.inr (some a0)), some (.inl x1), some (.inr r2), some (.inl x3), some (.inl x4), some (.inl x5)], [.inl 0, .inr (some a0)], sm_putI (sm_putI (sm_putR (sm_putI (sm_putI (sm_putI M a0 9 1) a0 11 0) a0 0 x1) a0 1 r2) a0 2 x3) a0 3 x4)) sm_a121_36 rfl rfl (st_iconst (by decide)) ?_
  refine ru_go (t := (39, [some (.inr (some a0)), some (.inl x1), some (.inr r2), some (.inl x3), some (.inl x4), some (.inl x5)], [.inl x5, .inl 0, .inr (some a0)], sm_putI (sm_putI (sm_putR (sm_putI (sm_putI (sm_putI M a0 9 1) a0 11 0) a0 0 x1) a0 1 r2) a0 2 x3) a0 3 x4)) sm_a121_37 rfl rfl rfl ?_
  refine ru_go (t := (42, [some (.inr (some a0)), some (.inl x1), some (.inr r2), some (.inl x3), some (.inl x4), some (.inl x5)], [.inl (if 0 < x5 then x5 else 0), .inr (some a0)], sm_putI (sm_putI (sm_putR (sm_putI (sm_putI (sm_putI M a0 9 1) a0 11 0) a0 0 x1) a0 1 r2) a0 2 x3) a0 3 x4)) sm_a121_39 rfl rfl (st_max (Nat.le_of_ble_eq_true rfl)) ?_
  obtain ⟨h_3, h⟩ := h
  refine ru_go (t := (44, [some (.inr (some a0)), some (.inl x1), some (.inr r2), some (.inl x3), some (.inl x4), some (.inl x5)], [.inr (some (sm_N (sm_putI (sm_putI (sm_putR (sm_putI (sm_putI (sm_putI M a0 9 1) a0 11 0) a0 0 x1) a0 1 r2) a0 2 x3) a0 3 x4))), .inr (some a0)], sm_new (sm_putI (sm_putI (sm_putR (sm_putI (sm_putI (sm_putI M a0 9 1) a0 11 0) a0 0 x1) a0 1 r2) a0 2 x3) a0 3 x4) 23 (if 0 < x5 then x5 else 0).toNatClampNeg (if 0 < x5 then x5 else 0).toNatClampNeg)) sm_a121_42 rfl rfl (st_newa h_3) ?_
  obtain ⟨h_4, h⟩ := h
  refine ru_go (t := (47, [some (.inr (some a0)), some (.inl x1), some (.inr r2), some (.inl x3), some (.inl x4), some (.inl x5)], [], sm_putR (sm_new (sm_putI (sm_putI (sm_putR (sm_putI (sm_putI (sm_putI M a0 9 1) a0 11 0) a0 0 x1) a0 1 r2) a0 2 x3) a0 3 x4) 23 (if 0 < x5 then x5 else 0).toNatClampNeg (if 0 < x5 then x5 else 0).toNatClampNeg) a0 4 (some (sm_N (sm_putI (sm_putI (sm_putR (sm_putI (sm_putI (sm_putI M a0 9 1) a0 11 0) a0 0 x1) a0 1 r2) a0 2 x3) a0 3 x4))))) sm_a121_44 rfl rfl (st_putR h_4 rfl) ?_
  exact ru_ret sm_a121_47 (sm_rvv rfl) h

/-! WireBus$Transfer.beControl:(III)V -/
theorem sm_a122_0 : sm_at 122 0 = some (.aload_n 0, 1, (0, 0, 0, 0)) := by decide +kernel
theorem sm_a122_1 : sm_at 122 1 = some (.iload_n 1, 1, (0, 0, 0, 0)) := by decide +kernel
theorem sm_a122_2 : sm_at 122 2 = some (.putfield 42, 3, (10, 5, 0, 632)) := by decide +kernel
theorem sm_a122_5 : sm_at 122 5 = some (.aload_n 0, 1, (0, 0, 0, 0)) := by decide +kernel
theorem sm_a122_6 : sm_at 122 6 = some (.iload_n 2, 1, (0, 0, 0, 0)) := by decide +kernel
theorem sm_a122_7 : sm_at 122 7 = some (.putfield 45, 3, (10, 6, 0, 634)) := by decide +kernel
theorem sm_a122_10 : sm_at 122 10 = some (.aload_n 0, 1, (0, 0, 0, 0)) := by decide +kernel
theorem sm_a122_11 : sm_at 122 11 = some (.iload_n 3, 1, (0, 0, 0, 0)) := by decide +kernel
theorem sm_a122_12 : sm_at 122 12 = some (.putfield 48, 3, (10, 7, 0, 636)) := by decide +kernel
theorem sm_a122_15 : sm_at 122 15 = some (.aload_n 0, 1, (0, 0, 0, 0)) := by decide +kernel
theorem sm_a122_16 : sm_at 122 16 = some (.iconst 0, 1, (0, 0, 0, 0)) := by decide +kernel
theorem sm_a122_17 : sm_at 122 17 = some (.putfield 11, 3, (10, 9, 0, 640)) := by decide +kernel
theorem sm_a122_20 : sm_at 122 20 = some (.return_, 1, (0, 0, 0, 0)) := by decide +kernel
theorem bb_122_0 {d : Nat} {M : sm_M} {Q : Option sm_V → sm_M → Prop} {a0 : Nat} {x1 : Int32} {x2 : Int32} {x3 : Int32}
    (h : sm_K M a0 = 33 ∧ Q none (sm_putI (sm_putI (sm_putI (sm_putI M a0 5 x1) a0 6 x2) a0 7 x3) a0 9 0)) :
    sm_Run d 122 0 [some (.inr (some a0)), some (.inl x1), some (.inl x2), some (.inl x3)] [] M Q := by
  refine ru_go (t := (1, [some (.inr (some a0)), some (.inl x1), some (.inl x2), some (.inl x3)], [.inr (some a0)], M)) sm_a122_0 rfl rfl rfl ?_
  refine ru_go (t := (2, [some (.inr (some a0)), some (.inl x1), some (.inl x2), some (.inl x3)], [.inl x1, .inr (some a0)], M)) sm_a122_1 rfl rfl rfl ?_
  obtain ⟨h_1, h⟩ := h
  refine ru_go (t := (5, [some (.inr (some a0)), some (.inl x1), some (.inl x2), some (.inl x3)], [], sm_putI M a0 5 x1)) sm_a122_2 rfl rfl (st_putI h_1 rfl) ?_
  refine ru_go (t := (6, [some (.inr (some a0)), some (.inl x1), some (.inl x2), some (.inl x3)], [.inr (some a0)], sm_putI M a0 5 x1)) sm_a122_5 rfl rfl rfl ?_
  refine ru_go (t := (7, [some (.inr (some a0)), some (.inl x1), some (.inl x2), some (.inl x3)], [.inl x2, .inr (some a0)], sm_putI M a0 5 x1)) sm_a122_6 rfl rfl rfl ?_
  refine ru_go (t := (10, [some (.inr (some a0)), some (.inl x1), some (.inl x2), some (.inl x3)], [], sm_putI (sm_putI M a0 5 x1) a0 6 x2)) sm_a122_7 rfl rfl (st_putI h_1 rfl) ?_
  refine ru_go (t := (11, [some (.inr (some a0)), some (.inl x1), some (.inl x2), some (.inl x3)], [.inr (some a0)], sm_putI (sm_putI M a0 5 x1) a0 6 x2)) sm_a122_10 rfl rfl rfl ?_
  refine ru_go (t := (12, [some (.inr (some a0)), some (.inl x1), some (.inl x2), some (.inl x3)], [.inl x3, .inr (some a0)], sm_putI (sm_putI M a0 5 x1) a0 6 x2)) sm_a122_11 rfl rfl rfl ?_
  refine ru_go (t := (15, [some (.inr (some a0)), some (.inl x1), some (.inl x2), some (.inl x3)], [], sm_putI (sm_putI (sm_putI M a0 5 x1) a0 6 x2) a0 7 x3)) sm_a122_12 rfl rfl (st_putI h_1 rfl) ?_
  refine ru_go (t := (16, [some (.inr (some a0)), some (.inl x1), some (.inl x2), some (.inl x3)], [.inr (some a0)], sm_putI (sm_putI (sm_putI M a0 5 x1) a0 6 x2) a0 7 x3)) sm_a122_15 rfl rfl rfl ?_
  refine ru_go (t := (17, [some (.inr (some a0)), some (.inl x1), some (.inl x2), some (.inl x3)], [.inl 0, .inr (some a0)], sm_putI (sm_putI (sm_putI M a0 5 x1) a0 6 x2) a0 7 x3)) sm_a122_16 rfl rfl (st_iconst (by decide)) ?_
  refine ru_go (t := (20, [some (.inr (some a0)), some (.inl x1), some (.inl x2), some (.inl x3)], [], sm_putI (sm_putI (sm_putI (sm_putI M a0 5 x1) a0 6 x2) a0 7 x3) a0 9 0)) sm_a122_17 rfl rfl (st_putI h_1 rfl) ?_
  exact ru_ret sm_a122_20 (sm_rvv rfl) h

/-! WireBus$Transfer.load:(LWireBus$Bytes;)V -/
theorem sm_a123_0 : sm_at 123 0 = some (.iconst 0, 1, (0, 0, 0, 0)) := by decide +kernel
theorem sm_a123_1 : sm_at 123 1 = some (.istore_n 2, 1, (0, 0, 0, 0)) := by decide +kernel
theorem sm_a123_2 : sm_at 123 2 = some (.iload_n 2, 1, (0, 0, 0, 0)) := by decide +kernel
theorem sm_a123_3 : sm_at 123 3 = some (.aload_n 0, 1, (0, 0, 0, 0)) := by decide +kernel
theorem sm_a123_4 : sm_at 123 4 = some (.getfield 38, 3, (10, 4, 0, 630)) := by decide +kernel
theorem sm_a123_7 : sm_at 123 7 = some (.arraylength, 1, (0, 0, 0, 0)) := by decide +kernel
theorem sm_a123_8 : sm_at 123 8 = some (.if_icmp .ge 19, 3, (0, 0, 0, 0)) := by decide +kernel
theorem sm_a123_11 : sm_at 123 11 = some (.aload_n 0, 1, (0, 0, 0, 0)) := by decide +kernel
theorem sm_a123_12 : sm_at 123 12 = some (.getfield 38, 3, (10, 4, 0, 630)) := by decide +kernel
theorem sm_a123_15 : sm_at 123 15 = some (.iload_n 2, 1, (0, 0, 0, 0)) := by decide +kernel
theorem sm_a123_16 : sm_at 123 16 = some (.aload_n 1, 1, (0, 0, 0, 0)) := by decide +kernel
theorem sm_a123_17 : sm_at 123 17 = some (.invokevirtual 51, 3, (10, 35, 1, 714)) := by decide +kernel
theorem sm_a123_20 : sm_at 123 20 = some (.iastore, 1, (0, 0, 0, 0)) := by decide +kernel
theorem sm_a123_21 : sm_at 123 21 = some (.iinc 2 1, 3, (0, 0, 0, 0)) := by decide +kernel
theorem sm_a123_24 : sm_at 123 24 = some (.goto (-22), 3, (0, 0, 0, 0)) := by decide +kernel
theorem sm_a123_27 : sm_at 123 27 = some (.return_, 1, (0, 0, 0, 0)) := by decide +kernel
theorem bb_123_0 {d : Nat} {M : sm_M} {Q : Option sm_V → sm_M → Prop} {a0 : Nat} {r1 : Option Nat} {z2 : Option sm_V}
    (h : sm_Run (d + 1) 123 2 [some (.inr (some a0)), some (.inr r1), some (.inl 0)] [] M Q) :
    sm_Run (d + 1) 123 0 [some (.inr (some a0)), some (.inr r1), z2] [] M Q := by
  refine ru_go (t := (1, [some (.inr (some a0)), some (.inr r1), z2], [.inl 0], M)) sm_a123_0 rfl rfl (st_iconst (by decide)) ?_
  refine ru_go (t := (2, [some (.inr (some a0)), some (.inr r1), some (.inl 0)], [], M)) sm_a123_1 rfl rfl rfl ?_
  exact h
theorem bb_123_2 {d : Nat} {M : sm_M} {Q : Option sm_V → sm_M → Prop} {a0 : Nat} {r1 : Option Nat} {x2 : Int32}
    (h : sm_K M a0 = 33 ∧ ∃ b_2, sm_R M a0 4 = some b_2 ∧ (1 ≤ sm_K M b_2 ∧ sm_K M b_2 % 3 ≠ 0) ∧ (((Int32.ofNat (sm_L M b_2)) ≤ x2 → Q none M) ∧ (¬ ((Int32.ofNat (sm_L M b_2)) ≤ x2) → ∃ b_6, r1 = some b_6 ∧ sm_K M b_6 = 6 ∧ sm_Run d 35 0 (sm_ent 35 [.inr (some b_6)]) [] M (fun v M1 => sm_Run (d + 1) 123 20 [some (.inr (some a0)), some (.inr (some b_6)), some (.inl x2)] (v.toList ++ [.inl x2, .inr (sm_R M a0 4)]) M1 Q)))) :
    sm_Run (d + 1) 123 2 [some (.inr (some a0)), some (.inr r1), some (.inl x2)] [] M Q := by
  refine ru_go (t := (3, [some (.inr (some a0)), some (.inr r1), some (.inl x2)], [.inl x2], M)) sm_a123_2 rfl rfl rfl ?_
  refine ru_go (t := (4, [some (.inr (some a0)), some (.inr r1), some (.inl x2)], [.inr (some a0), .inl x2], M)) sm_a123_3 rfl rfl rfl ?_
  obtain ⟨h_1, h⟩ := h
  refine ru_go (t := (7, [some (.inr (some a0)), some (.inr r1), some (.inl x2)], [.inr (sm_R M a0 4), .inl x2], M)) sm_a123_4 rfl rfl (st_getR h_1 rfl rfl) ?_
  obtain ⟨b_2, hb_3, h⟩ := h
  rw [hb_3]
  obtain ⟨h_4, h⟩ := h
  refine ru_go (t := (8, [some (.inr (some a0)), some (.inr r1), some (.inl x2)], [.inl (Int32.ofNat (sm_L M b_2)), .inl x2], M)) sm_a123_7 rfl rfl (st_alen h_4) ?_
  refine ru_icmp (pc := 8) (p := 27) (p2 := 11) sm_a123_8 (by decide) rfl ⟨fun hc_5 => ?_, fun hc_5 => ?_⟩
  · have h := h.1 hc_5
    exact ru_ret sm_a123_27 (sm_rvv rfl) h
  · have h := h.2 hc_5
    refine ru_go (t := (12, [some (.inr (some a0)), some (.inr r1), some (.inl x2)], [.inr (some a0)], M)) sm_a123_11 rfl rfl rfl ?_
    refine ru_go (t := (15, [some (.inr (some a0)), some (.inr r1), some (.inl x2)], [.inr (sm_R M a0 4)], M)) sm_a123_12 rfl rfl (st_getR h_1 rfl rfl) ?_
    refine ru_go (t := (16, [some (.inr (some a0)), some (.inr r1), some (.inl x2)], [.inl x2, .inr (sm_R M a0 4)], M)) sm_a123_15 rfl rfl rfl ?_
    refine ru_go (t := (17, [some (.inr (some a0)), some (.inr r1), some (.inl x2)], [.inr r1, .inl x2, .inr (sm_R M a0 4)], M)) sm_a123_16 rfl rfl rfl ?_
    obtain ⟨b_6, hb_7, h⟩ := h
    rw [hb_7]
    obtain ⟨h_8, h⟩ := h
    exact ru_call (p := 20) sm_a123_17 rfl (sc_virt (Or.inl rfl) rfl rfl h_8 (Nat.le_of_ble_eq_true rfl)) rfl h
theorem bb_123_20 {d : Nat} {M : sm_M} {Q : Option sm_V → sm_M → Prop} {a0 : Nat} {r1 : Option Nat} {x2 : Int32} {y0 : Int32} {y1 : Int32} {t2 : Option Nat}
    (h : ∃ b_1, t2 = some b_1 ∧ sm_wA 0 M b_1 ∧ sm_in_ M b_1 y1 ∧ sm_Run (d + 1) 123 2 [some (.inr (some a0)), some (.inr r1), some (.inl (x2 + 1))] [] (sm_putI M b_1 (y1).toNatClampNeg y0) Q) :
    sm_Run (d + 1) 123 20 [some (.inr (some a0)), some (.inr r1), some (.inl x2)] [.inl y0, .inl y1, .inr t2] M Q := by
  obtain ⟨b_1, hb_2, h⟩ := h
  rw [hb_2]
  obtain ⟨h_3, h⟩ := h
  obtain ⟨h_4, h⟩ := h
  refine ru_go (t := (21, [some (.inr (some a0)), some (.inr r1), some (.inl x2)], [], sm_putI M b_1 (y1).toNatClampNeg y0)) sm_a123_20 rfl rfl (st_iast h_3 h_4) ?_
  refine ru_go (t := (24, [some (.inr (some a0)), some (.inr r1), some (.inl (x2 + 1))], [], sm_putI M b_1 (y1).toNatClampNeg y0)) sm_a123_21 rfl rfl (st_iinc rfl (by decide)) ?_
  refine ru_go (t := (2, [some (.inr (some a0)), some (.inr r1), some (.inl (x2 + 1))], [], sm_putI M b_1 (y1).toNatClampNeg y0)) sm_a123_24 rfl rfl (st_goto (pc := 24) (by decide)) ?_
  exact h

/-! WireBus$Transfer.byteAt:(I)I -/
theorem sm_a124_0 : sm_at 124 0 = some (.aload_n 0, 1, (0, 0, 0, 0)) := by decide +kernel
theorem sm_a124_1 : sm_at 124 1 = some (.getfield 28, 3, (10, 3, 0, 629)) := by decide +kernel
theorem sm_a124_4 : sm_at 124 4 = some (.ifCond .eq 10, 3, (0, 0, 0, 0)) := by decide +kernel
theorem sm_a124_7 : sm_at 124 7 = some (.aload_n 0, 1, (0, 0, 0, 0)) := by decide +kernel
theorem sm_a124_8 : sm_at 124 8 = some (.getfield 57, 3, (10, 10, 0, 642)) := by decide +kernel
theorem sm_a124_11 : sm_at 124 11 = some (.goto 8, 3, (0, 0, 0, 0)) := by decide +kernel
theorem sm_a124_14 : sm_at 124 14 = some (.aload_n 0, 1, (0, 0, 0, 0)) := by decide +kernel
theorem sm_a124_15 : sm_at 124 15 = some (.getfield 38, 3, (10, 4, 0, 630)) := by decide +kernel
theorem sm_a124_18 : sm_at 124 18 = some (.arraylength, 1, (0, 0, 0, 0)) := by decide +kernel
theorem sm_a124_19 : sm_at 124 19 = some (.istore_n 2, 1, (0, 0, 0, 0)) := by decide +kernel
theorem sm_a124_20 : sm_at 124 20 = some (.iload_n 1, 1, (0, 0, 0, 0)) := by decide +kernel
theorem sm_a124_21 : sm_at 124 21 = some (.ifCond .lt 17, 3, (0, 0, 0, 0)) := by decide +kernel
theorem sm_a124_24 : sm_at 124 24 = some (.iload_n 1, 1, (0, 0, 0, 0)) := by decide +kernel
theorem sm_a124_25 : sm_at 124 25 = some (.iload_n 2, 1, (0, 0, 0, 0)) := by decide +kernel
theorem sm_a124_26 : sm_at 124 26 = some (.if_icmp .ge 12, 3, (0, 0, 0, 0)) := by decide +kernel
theorem sm_a124_29 : sm_at 124 29 = some (.aload_n 0, 1, (0, 0, 0, 0)) := by decide +kernel
theorem sm_a124_30 : sm_at 124 30 = some (.getfield 38, 3, (10, 4, 0, 630)) := by decide +kernel
theorem sm_a124_33 : sm_at 124 33 = some (.iload_n 1, 1, (0, 0, 0, 0)) := by decide +kernel
theorem sm_a124_34 : sm_at 124 34 = some (.iaload, 1, (0, 0, 0, 0)) := by decide +kernel
theorem sm_a124_35 : sm_at 124 35 = some (.goto 4, 3, (0, 0, 0, 0)) := by decide +kernel
theorem sm_a124_38 : sm_at 124 38 = some (.iconst (-1), 1, (0, 0, 0, 0)) := by decide +kernel
theorem sm_a124_39 : sm_at 124 39 = some (.ireturn, 1, (0, 0, 0, 0)) := by decide +kernel
theorem bb_124_0 {d : Nat} {M : sm_M} {Q : Option sm_V → sm_M → Prop} {a0 : Nat} {x1 : Int32} {z2 : Option sm_V}
    (h : sm_K M a0 = 33 ∧ (((sm_I M a0 3) = 0 → ∃ b_3, sm_R M a0 4 = some b_3 ∧ (1 ≤ sm_K M b_3 ∧ sm_K M b_3 % 3 ≠ 0) ∧ ((x1 < 0 → Q (some (.inl (-1))) M) ∧ (¬ (x1 < 0) → (((Int32.ofNat (sm_L M b_3)) ≤ x1 → Q (some (.inl (-1))) M) ∧ (¬ ((Int32.ofNat (sm_L M b_3)) ≤ x1) → ∃ b_8, sm_R M a0 4 = some b_8 ∧ sm_iA M b_8 ∧ sm_in_ M b_8 x1 ∧ Q (some (.inl (sm_I M b_8 (x1).toNatClampNeg))) M))))) ∧ (¬ ((sm_I M a0 3) = 0) → ((x1 < 0 → Q (some (.inl (-1))) M) ∧ (¬ (x1 < 0) → (((sm_I M a0 10) ≤ x1 → Q (some (.inl (-1))) M) ∧ (¬ ((sm_I M a0 10) ≤ x1) → ∃ b_14, sm_R M a0 4 = some b_14 ∧ sm_iA M b_14 ∧ sm_in_ M b_14 x1 ∧ Q (some (.inl (sm_I M b_14 (x1).toNatClampNeg))) M))))))) :
    sm_Run d 124 0 [some (.inr (some a0)), some (.inl x1), z2] [] M Q := by
  refine ru_go (t := (1, [some (.inr (some a0)), some (.inl x1), z2], [.inr (some a0)], M)) sm_a124_0 rfl rfl rfl ?_
  obtain ⟨h_1, h⟩ := h
  refine ru_go (t := (4, [some (.inr (some a0)), some (.inl x1), z2], [.inl (sm_I M a0 3)], M)) sm_a124_1 rfl rfl (st_getI h_1 rfl) ?_
  refine ru_if (pc := 4) (p := 14) (p2 := 7) sm_a124_4 (by decide) rfl ⟨fun hc_2 => ?_, fun hc_2 => ?_⟩
  · have h := h.1 hc_2
    refine ru_go (t := (15, [some (.inr (some a0)), some (.inl x1), z2], [.inr (some a0)], M)) sm_a124_14 rfl rfl rfl ?_
    refine ru_go (t := (18, [some (.inr (some a0)), some (.inl x1), z2], [.inr (sm_R M a0 4)], M)) sm_a124_15 rfl rfl (st_getR h_1 rfl rfl) ?_
    obtain ⟨b_3, hb_4, h⟩ := h
    rw [hb_4]
    obtain ⟨h_5, h⟩ := h
    refine ru_go (t := (19, [some (.inr (some a0)), some (.inl x1), z2], [.inl (Int32.ofNat (sm_L M b_3))], M)) sm_a124_18 rfl rfl (st_alen h_5) ?_
    refine ru_go (t := (20, [some (.inr (some a0)), some (.inl x1), some (.inl (Int32.ofNat (sm_L M b_3)))], [], M)) sm_a124_19 rfl rfl rfl ?_
    refine ru_go (t := (21, [some (.inr (some a0)), some (.inl x1), some (.inl (Int32.ofNat (sm_L M b_3)))], [.inl x1], M)) sm_a124_20 rfl rfl rfl ?_
    refine ru_if (pc := 21) (p := 38) (p2 := 24) sm_a124_21 (by decide) rfl ⟨fun hc_6 => ?_, fun hc_6 => ?_⟩
    · have h := h.1 hc_6
      refine ru_go (t := (39, [some (.inr (some a0)), some (.inl x1), some (.inl (Int32.ofNat (sm_L M b_3)))], [.inl (-1)], M)) sm_a124_38 rfl rfl (st_iconst (by decide)) ?_
      exact ru_ret sm_a124_39 rfl h
    · have h := h.2 hc_6
      refine ru_go (t := (25, [some (.inr (some a0)), some (.inl x1), some (.inl (Int32.ofNat (sm_L M b_3)))], [.inl x1], M)) sm_a124_24 rfl rfl rfl ?_
      refine ru_go (t := (26, [some (.inr (some a0)), some (.inl x1), some (.inl (Int32.ofNat (sm_L M b_3)))], [.inl (Int32.ofNat (sm_L M b_3)), .inl x1], M)) sm_a124_25 rfl rfl rfl ?_
      refine ru_icmp (pc := 26) (p := 38) (p2 := 29) sm_a124_26 (by decide) rfl ⟨fun hc_7 => ?_, fun hc_7 => ?_⟩
      · have h := h.1 hc_7
        refine ru_go (t := (39, [some (.inr (some a0)), some (.inl x1), some (.inl (Int32.ofNat (sm_L M b_3)))], [.inl (-1)], M)) sm_a124_38 rfl rfl (st_iconst (by decide)) ?_
        exact ru_ret sm_a124_39 rfl h
      · have h := h.2 hc_7
        refine ru_go (t := (30, [some (.inr (some a0)), some (.inl x1), some (.inl (Int32.ofNat (sm_L M b_3)))], [.inr (some a0)], M)) sm_a124_29 rfl rfl rfl ?_
        refine ru_go (t := (33, [some (.inr (some a0)), some (.inl x1), some (.inl (Int32.ofNat (sm_L M b_3)))], [.inr (sm_R M a0 4)], M)) sm_a124_30 rfl rfl (st_getR h_1 rfl rfl) ?_
        refine ru_go (t := (34, [some (.inr (some a0)), some (.inl x1), some (.inl (Int32.ofNat (sm_L M b_3)))], [.inl x1, .inr (sm_R M a0 4)], M)) sm_a124_33 rfl rfl rfl ?_
        obtain ⟨b_8, hb_9, h⟩ := h
        rw [hb_9]
        obtain ⟨h_10, h⟩ := h
        obtain ⟨h_11, h⟩ := h
        refine ru_go (t := (35, [some (.inr (some a0)), some (.inl x1), some (.inl (Int32.ofNat (sm_L M b_3)))], [.inl (sm_I M b_8 (x1).toNatClampNeg)], M)) sm_a124_34 rfl rfl (st_iald h_10 h_11) ?_
        refine ru_go (t := (39, [some (.inr (some a0)), some (.inl x1), some (.inl (Int32.ofNat (sm_L M b_3)))], [.inl (sm_I M b_8 (x1).toNatClampNeg)], M)) sm_a124_35 rfl rfl (st_goto (pc := 35) (by decide)) ?_
        exact ru_ret sm_a124_39 rfl h
  · have h := h.2 hc_2
    refine ru_go (t := (8, [some (.inr (some a0)), some (.inl x1), z2], [.inr (some a0)], M)) sm_a124_7 rfl rfl rfl ?_
    refine ru_go (t := (11, [some (.inr (some a0)), some (.inl x1), z2], [.inl (sm_I M a0 10)], M)) sm_a124_8 rfl rfl (st_getI h_1 rfl) ?_
    refine ru_go (t := (19, [some (.inr (some a0)), some (.inl x1), z2], [.inl (sm_I M a0 10)], M)) sm_a124_11 rfl rfl (st_goto (pc := 11) (by decide)) ?_
    refine ru_go (t := (20, [some (.inr (some a0)), some (.inl x1), some (.inl (sm_I M a0 10))], [], M)) sm_a124_19 rfl rfl rfl ?_
    refine ru_go (t := (21, [some (.inr (some a0)), some (.inl x1), some (.inl (sm_I M a0 10))], [.inl x1], M)) sm_a124_20 rfl rfl rfl ?_
    refine ru_if (pc := 21) (p := 38) (p2 := 24) sm_a124_21 (by decide) rfl ⟨fun hc_12 => ?_, fun hc_12 => ?_⟩
    · have h := h.1 hc_12
      refine ru_go (t := (39, [some (.inr (some a0)), some (.inl x1), some (.inl (sm_I M a0 10))], [.inl (-1)], M)) sm_a124_38 rfl rfl (st_iconst (by decide)) ?_
      exact ru_ret sm_a124_39 rfl h
    · have h := h.2 hc_12
      refine ru_go (t := (25, [some (.inr (some a0)), some (.inl x1), some (.inl (sm_I M a0 10))], [.inl x1], M)) sm_a124_24 rfl rfl rfl ?_
      refine ru_go (t := (26, [some (.inr (some a0)), some (.inl x1), some (.inl (sm_I M a0 10))], [.inl (sm_I M a0 10), .inl x1], M)) sm_a124_25 rfl rfl rfl ?_
      refine ru_icmp (pc := 26) (p := 38) (p2 := 29) sm_a124_26 (by decide) rfl ⟨fun hc_13 => ?_, fun hc_13 => ?_⟩
      · have h := h.1 hc_13
        refine ru_go (t := (39, [some (.inr (some a0)), some (.inl x1), some (.inl (sm_I M a0 10))], [.inl (-1)], M)) sm_a124_38 rfl rfl (st_iconst (by decide)) ?_
        exact ru_ret sm_a124_39 rfl h
      · have h := h.2 hc_13
        refine ru_go (t := (30, [some (.inr (some a0)), some (.inl x1), some (.inl (sm_I M a0 10))], [.inr (some a0)], M)) sm_a124_29 rfl rfl rfl ?_
        refine ru_go (t := (33, [some (.inr (some a0)), some (.inl x1), some (.inl (sm_I M a0 10))], [.inr (sm_R M a0 4)], M)) sm_a124_30 rfl rfl (st_getR h_1 rfl rfl) ?_
        refine ru_go (t := (34, [some (.inr (some a0)), some (.inl x1), some (.inl (sm_I M a0 10))], [.inl x1, .inr (sm_R M a0 4)], M)) sm_a124_33 rfl rfl rfl ?_
        obtain ⟨b_14, hb_15, h⟩ := h
        rw [hb_15]
        obtain ⟨h_16, h⟩ := h
        obtain ⟨h_17, h⟩ := h
        refine ru_go (t := (35, [some (.inr (some a0)), some (.inl x1), some (.inl (sm_I M a0 10))], [.inl (sm_I M b_14 (x1).toNatClampNeg)], M)) sm_a124_34 rfl rfl (st_iald h_16 h_17) ?_
        refine ru_go (t := (39, [some (.inr (some a0)), some (.inl x1), some (.inl (sm_I M a0 10))], [.inl (sm_I M b_14 (x1).toNatClampNeg)], M)) sm_a124_35 rfl rfl (st_goto (pc := 35) (by decide)) ?_
        exact ru_ret sm_a124_39 rfl h

/-! WireBus$Transfer.isComplete:()Z -/
theorem sm_a125_0 : sm_at 125 0 = some (.aload_n 0, 1, (0, 0, 0, 0)) := by decide +kernel
theorem sm_a125_1 : sm_at 125 1 = some (.getfield 15, 3, (10, 11, 0, 645)) := by decide +kernel
theorem sm_a125_4 : sm_at 125 4 = some (.iconst 1, 1, (0, 0, 0, 0)) := by decide +kernel
theorem sm_a125_5 : sm_at 125 5 = some (.if_icmp .ne 26, 3, (0, 0, 0, 0)) := by decide +kernel
theorem sm_a125_8 : sm_at 125 8 = some (.aload_n 0, 1, (0, 0, 0, 0)) := by decide +kernel
theorem sm_a125_9 : sm_at 125 9 = some (.getfield 28, 3, (10, 3, 0, 629)) := by decide +kernel
theorem sm_a125_12 : sm_at 125 12 = some (.ifCond .eq 15, 3, (0, 0, 0, 0)) := by decide +kernel
theorem sm_a125_15 : sm_at 125 15 = some (.aload_n 0, 1, (0, 0, 0, 0)) := by decide +kernel
theorem sm_a125_16 : sm_at 125 16 = some (.getfield 57, 3, (10, 10, 0, 642)) := by decide +kernel
theorem sm_a125_19 : sm_at 125 19 = some (.aload_n 0, 1, (0, 0, 0, 0)) := by decide +kernel
theorem sm_a125_20 : sm_at 125 20 = some (.getfield 38, 3, (10, 4, 0, 630)) := by decide +kernel
theorem sm_a125_23 : sm_at 125 23 = some (.arraylength, 1, (0, 0, 0, 0)) := by decide +kernel
theorem sm_a125_24 : sm_at 125 24 = some (.if_icmp .ne 7, 3, (0, 0, 0, 0)) := by decide +kernel
theorem sm_a125_27 : sm_at 125 27 = some (.iconst 1, 1, (0, 0, 0, 0)) := by decide +kernel
theorem sm_a125_28 : sm_at 125 28 = some (.goto 4, 3, (0, 0, 0, 0)) := by decide +kernel
theorem sm_a125_31 : sm_at 125 31 = some (.iconst 0, 1, (0, 0, 0, 0)) := by decide +kernel
theorem sm_a125_32 : sm_at 125 32 = some (.ireturn, 1, (0, 0, 0, 0)) := by decide +kernel
theorem bb_125_0 {d : Nat} {M : sm_M} {Q : Option sm_V → sm_M → Prop} {a0 : Nat}
    (h : sm_K M a0 = 33 ∧ ((¬ (sm_I M a0 11) = 1 → Q (some (.inl 0)) M) ∧ (¬ (¬ (sm_I M a0 11) = 1) → (((sm_I M a0 3) = 0 → Q (some (.inl 1)) M) ∧ (¬ ((sm_I M a0 3) = 0) → ∃ b_4, sm_R M a0 4 = some b_4 ∧ (1 ≤ sm_K M b_4 ∧ sm_K M b_4 % 3 ≠ 0) ∧ ((¬ (sm_I M a0 10) = (Int32.ofNat (sm_L M b_4)) → Q (some (.inl 0)) M) ∧ (¬ (¬ (sm_I M a0 10) = (Int32.ofNat (sm_L M b_4))) → Q (some (.inl 1)) M))))))) :
    sm_Run d 125 0 [some (.inr (some a0))] [] M Q := by
  refine ru_go (t := (1, [some (.inr (some a0))], [.inr (some a0)], M)) sm_a125_0 rfl rfl rfl ?_
  obtain ⟨h_1, h⟩ := h
  refine ru_go (t := (4, [some (.inr (some a0))], [.inl (sm_I M a0 11)], M)) sm_a125_1 rfl rfl (st_getI h_1 rfl) ?_
  refine ru_go (t := (5, [some (.inr (some a0))], [.inl 1, .inl (sm_I M a0 11)], M)) sm_a125_4 rfl rfl (st_iconst (by decide)) ?_
  refine ru_icmp (pc := 5) (p := 31) (p2 := 8) sm_a125_5 (by decide) rfl ⟨fun hc_2 => ?_, fun hc_2 => ?_⟩
  · have h := h.1 hc_2
    refine ru_go (t := (32, [some (.inr (some a0))], [.inl 0], M)) sm_a125_31 rfl rfl (st_iconst (by decide)) ?_
    exact ru_ret sm_a125_32 (sm_rvz rfl (by decide)) h
  · have h := h.2 hc_2
    refine ru_go (t := (9, [some (.inr (some a0))], [.inr (some a0)], M)) sm_a125_8 rfl rfl rfl ?_
    refine ru_go (t := (12, [some (.inr (some a0))], [.inl (sm_I M a0 3)], M)) sm_a125_9 rfl rfl (st_getI h_1 rfl) ?_
    refine ru_if (pc := 12) (p := 27) (p2 := 15) sm_a125_12 (by decide) rfl ⟨fun hc_3 => ?_, fun hc_3 => ?_⟩
    · have h := h.1 hc_3
      refine ru_go (t := (28, [some (.inr (some a0))], [.inl 1], M)) sm_a125_27 rfl rfl (st_iconst (by decide)) ?_
      refine ru_go (t := (32, [some (.inr (some a0))], [.inl 1], M)) sm_a125_28 rfl rfl (st_goto (pc := 28) (by decide)) ?_
      exact ru_ret sm_a125_32 (sm_rvz rfl (by decide)) h
    · have h := h.2 hc_3
      refine ru_go (t := (16, [some (.inr (some a0))], [.inr (some a0)], M)) sm_a125_15 rfl rfl rfl ?_
      refine ru_go (t := (19, [some (.inr (some a0))], [.inl (sm_I M a0 10)], M)) sm_a125_16 rfl rfl (st_getI h_1 rfl) ?_
      refine ru_go (t := (20, [some (.inr (some a0))], [.inr (some a0), .inl (sm_I M a0 10)], M)) sm_a125_19 rfl rfl rfl ?_
      refine ru_go (t := (23, [some (.inr (some a0))], [.inr (sm_R M a0 4), .inl (sm_I M a0 10)], M)) sm_a125_20 rfl rfl (st_getR h_1 rfl rfl) ?_
      obtain ⟨b_4, hb_5, h⟩ := h
      rw [hb_5]
      obtain ⟨h_6, h⟩ := h
      refine ru_go (t := (24, [some (.inr (some a0))], [.inl (Int32.ofNat (sm_L M b_4)), .inl (sm_I M a0 10)], M)) sm_a125_23 rfl rfl (st_alen h_6) ?_
      refine ru_icmp (pc := 24) (p := 31) (p2 := 27) sm_a125_24 (by decide) rfl ⟨fun hc_7 => ?_, fun hc_7 => ?_⟩
      · have h := h.1 hc_7
        refine ru_go (t := (32, [some (.inr (some a0))], [.inl 0], M)) sm_a125_31 rfl rfl (st_iconst (by decide)) ?_
        exact ru_ret sm_a125_32 (sm_rvz rfl (by decide)) h
      · have h := h.2 hc_7
        refine ru_go (t := (28, [some (.inr (some a0))], [.inl 1], M)) sm_a125_27 rfl rfl (st_iconst (by decide)) ?_
        refine ru_go (t := (32, [some (.inr (some a0))], [.inl 1], M)) sm_a125_28 rfl rfl (st_goto (pc := 28) (by decide)) ?_
        exact ru_ret sm_a125_32 (sm_rvz rfl (by decide)) h

/-! WireBus$Transfer.asksIn:()Z -/
theorem sm_a126_0 : sm_at 126 0 = some (.aload_n 0, 1, (0, 0, 0, 0)) := by decide +kernel
theorem sm_a126_1 : sm_at 126 1 = some (.getfield 11, 3, (10, 9, 0, 640)) := by decide +kernel
theorem sm_a126_4 : sm_at 126 4 = some (.iconst 2, 1, (0, 0, 0, 0)) := by decide +kernel
theorem sm_a126_5 : sm_at 126 5 = some (.if_icmp .ne 24, 3, (0, 0, 0, 0)) := by decide +kernel
theorem sm_a126_8 : sm_at 126 8 = some (.aload_n 0, 1, (0, 0, 0, 0)) := by decide +kernel
theorem sm_a126_9 : sm_at 126 9 = some (.getfield 28, 3, (10, 3, 0, 629)) := by decide +kernel
theorem sm_a126_12 : sm_at 126 12 = some (.ifCond .eq 11, 3, (0, 0, 0, 0)) := by decide +kernel
theorem sm_a126_15 : sm_at 126 15 = some (.aload_n 0, 1, (0, 0, 0, 0)) := by decide +kernel
theorem sm_a126_16 : sm_at 126 16 = some (.getfield 38, 3, (10, 4, 0, 630)) := by decide +kernel
theorem sm_a126_19 : sm_at 126 19 = some (.arraylength, 1, (0, 0, 0, 0)) := by decide +kernel
theorem sm_a126_20 : sm_at 126 20 = some (.ifCond .ne 7, 3, (0, 0, 0, 0)) := by decide +kernel
theorem sm_a126_23 : sm_at 126 23 = some (.iconst 1, 1, (0, 0, 0, 0)) := by decide +kernel
theorem sm_a126_24 : sm_at 126 24 = some (.goto 4, 3, (0, 0, 0, 0)) := by decide +kernel
theorem sm_a126_27 : sm_at 126 27 = some (.iconst 0, 1, (0, 0, 0, 0)) := by decide +kernel
theorem sm_a126_28 : sm_at 126 28 = some (.ireturn, 1, (0, 0, 0, 0)) := by decide +kernel
theorem sm_a126_29 : sm_at 126 29 = some (.aload_n 0, 1, (0, 0, 0, 0)) := by decide +kernel
theorem sm_a126_30 : sm_at 126 30 = some (.getfield 11, 3, (10, 9, 0, 640)) := by decide +kernel
theorem sm_a126_33 : sm_at 126 33 = some (.iconst 1, 1, (0, 0, 0, 0)) := by decide +kernel
theorem sm_a126_34 : sm_at 126 34 = some (.if_icmp .ne 14, 3, (0, 0, 0, 0)) := by decide +kernel
theorem sm_a126_37 : sm_at 126 37 = some (.aload_n 0, 1, (0, 0, 0, 0)) := by decide +kernel
theorem sm_a126_38 : sm_at 126 38 = some (.getfield 28, 3, (10, 3, 0, 629)) := by decide +kernel
theorem sm_a126_41 : sm_at 126 41 = some (.ifCond .eq 7, 3, (0, 0, 0, 0)) := by decide +kernel
theorem sm_a126_44 : sm_at 126 44 = some (.iconst 1, 1, (0, 0, 0, 0)) := by decide +kernel
theorem sm_a126_45 : sm_at 126 45 = some (.goto 4, 3, (0, 0, 0, 0)) := by decide +kernel
theorem sm_a126_48 : sm_at 126 48 = some (.iconst 0, 1, (0, 0, 0, 0)) := by decide +kernel
theorem sm_a126_49 : sm_at 126 49 = some (.ireturn, 1, (0, 0, 0, 0)) := by decide +kernel
theorem bb_126_0 {d : Nat} {M : sm_M} {Q : Option sm_V → sm_M → Prop} {a0 : Nat}
    (h : sm_K M a0 = 33 ∧ ((¬ (sm_I M a0 9) = 2 → ((¬ (sm_I M a0 9) = 1 → Q (some (.inl 0)) M) ∧ (¬ (¬ (sm_I M a0 9) = 1) → (((sm_I M a0 3) = 0 → Q (some (.inl 0)) M) ∧ (¬ ((sm_I M a0 3) = 0) → Q (some (.inl 1)) M))))) ∧ (¬ (¬ (sm_I M a0 9) = 2) → (((sm_I M a0 3) = 0 → Q (some (.inl 1)) M) ∧ (¬ ((sm_I M a0 3) = 0) → ∃ b_6, sm_R M a0 4 = some b_6 ∧ (1 ≤ sm_K M b_6 ∧ sm_K M b_6 % 3 ≠ 0) ∧ ((¬ (Int32.ofNat (sm_L M b_6)) = 0 → Q (some (.inl 0)) M) ∧ (¬ (¬ (Int32.ofNat (sm_L M b_6)) = 0) → Q (some (.inl 1)) M))))))) :
    sm_Run d 126 0 [some (.inr (some a0))] [] M Q := by
  refine ru_go (t := (1, [some (.inr (some a0))], [.inr (some a0)], M)) sm_a126_0 rfl rfl rfl ?_
  obtain ⟨h_1, h⟩ := h
  refine ru_go (t := (4, [some (.inr (some a0))], [.inl (sm_I M a0 9)], M)) sm_a126_1 rfl rfl (st_getI h_1 rfl) ?_
  refine ru_go (t := (5, [some (.inr (some a0))], [.inl 2, .inl (sm_I M a0 9)], M)) sm_a126_4 rfl rfl (st_iconst (by decide)) ?_
  refine ru_icmp (pc := 5) (p := 29) (p2 := 8) sm_a126_5 (by decide) rfl ⟨fun hc_2 => ?_, fun hc_2 => ?_⟩
  · have h := h.1 hc_2
    refine ru_go (t := (30, [some (.inr (some a0))], [.inr (some a0)], M)) sm_a126_29 rfl rfl rfl ?_
    refine ru_go (t := (33, [some (.inr (some a0))], [.inl (sm_I M a0 9)], M)) sm_a126_30 rfl rfl (st_getI h_1 rfl) ?_
    refine ru_go (t := (34, [some (.inr (some a0))], [.inl 1, .inl (sm_I M a0 9)], M)) sm_a126_33 rfl rfl (st_iconst (by decide)) ?_
    refine ru_icmp (pc := 34) (p := 48) (p2 := 37) sm_a126_34 (by decide) rfl ⟨fun hc_3 => ?_, fun hc_3 => ?_⟩
    · have h := h.1 hc_3
      refine ru_go (t := (49, [some (.inr (some a0))], [.inl 0], M)) sm_a126_48 rfl rfl (st_iconst (by decide)) ?_
      exact ru_ret sm_a126_49 (sm_rvz rfl (by decide)) h
    · have h := h.2 hc_3
      refine ru_go (t := (38, [some (.inr (some a0))], [.inr (some a0)], M)) sm_a126_37 rfl rfl rfl ?_
      refine ru_go (t := (41, [some (.inr (some a0))], [.inl (sm_I M a0 3)], M)) sm_a126_38 rfl rfl (st_getI h_1 rfl) ?_
      refine ru_if (pc := 41) (p := 48) (p2 := 44) sm_a126_41 (by decide) rfl ⟨fun hc_4 => ?_, fun hc_4 => ?_⟩
      · have h := h.1 hc_4
        refine ru_go (t := (49, [some (.inr (some a0))], [.inl 0], M)) sm_a126_48 rfl rfl (st_iconst (by decide)) ?_
        exact ru_ret sm_a126_49 (sm_rvz rfl (by decide)) h
      · have h := h.2 hc_4
        refine ru_go (t := (45, [some (.inr (some a0))], [.inl 1], M)) sm_a126_44 rfl rfl (st_iconst (by decide)) ?_
        refine ru_go (t := (49, [some (.inr (some a0))], [.inl 1], M)) sm_a126_45 rfl rfl (st_goto (pc := 45) (by decide)) ?_
        exact ru_ret sm_a126_49 (sm_rvz rfl (by decide)) h
  · have h := h.2 hc_2
    refine ru_go (t := (9, [some (.inr (some a0))], [.inr (some a0)], M)) sm_a126_8 rfl rfl rfl ?_
    refine ru_go (t := (12, [some (.inr (some a0))], [.inl (sm_I M a0 3)], M)) sm_a126_9 rfl rfl (st_getI h_1 rfl) ?_
    refine ru_if (pc := 12) (p := 23) (p2 := 15) sm_a126_12 (by decide) rfl ⟨fun hc_5 => ?_, fun hc_5 => ?_⟩
    · have h := h.1 hc_5
      refine ru_go (t := (24, [some (.inr (some a0))], [.inl 1], M)) sm_a126_23 rfl rfl (st_iconst (by decide)) ?_
      refine ru_go (t := (28, [some (.inr (some a0))], [.inl 1], M)) sm_a126_24 rfl rfl (st_goto (pc := 24) (by decide)) ?_
      exact ru_ret sm_a126_28 (sm_rvz rfl (by decide)) h
    · have h := h.2 hc_5
      refine ru_go (t := (16, [some (.inr (some a0))], [.inr (some a0)], M)) sm_a126_15 rfl rfl rfl ?_
      refine ru_go (t := (19, [some (.inr (some a0))], [.inr (sm_R M a0 4)], M)) sm_a126_16 rfl rfl (st_getR h_1 rfl rfl) ?_
      obtain ⟨b_6, hb_7, h⟩ := h
      rw [hb_7]
      obtain ⟨h_8, h⟩ := h
      refine ru_go (t := (20, [some (.inr (some a0))], [.inl (Int32.ofNat (sm_L M b_6))], M)) sm_a126_19 rfl rfl (st_alen h_8) ?_
      refine ru_if (pc := 20) (p := 27) (p2 := 23) sm_a126_20 (by decide) rfl ⟨fun hc_9 => ?_, fun hc_9 => ?_⟩
      · have h := h.1 hc_9
        refine ru_go (t := (28, [some (.inr (some a0))], [.inl 0], M)) sm_a126_27 rfl rfl (st_iconst (by decide)) ?_
        exact ru_ret sm_a126_28 (sm_rvz rfl (by decide)) h
      · have h := h.2 hc_9
        refine ru_go (t := (24, [some (.inr (some a0))], [.inl 1], M)) sm_a126_23 rfl rfl (st_iconst (by decide)) ?_
        refine ru_go (t := (28, [some (.inr (some a0))], [.inl 1], M)) sm_a126_24 rfl rfl (st_goto (pc := 24) (by decide)) ?_
        exact ru_ret sm_a126_28 (sm_rvz rfl (by decide)) h

/-! WireBus$Transfer.tokenKind:()I -/
theorem sm_a127_0 : sm_at 127 0 = some (.aload_n 0, 1, (0, 0, 0, 0)) := by decide +kernel
theorem sm_a127_1 : sm_at 127 1 = some (.getfield 11, 3, (10, 9, 0, 640)) := by decide +kernel
theorem sm_a127_4 : sm_at 127 4 = some (.ifCond .ne 8, 3, (0, 0, 0, 0)) := by decide +kernel
theorem sm_a127_7 : sm_at 127 7 = some (.bipush 13, 2, (0, 0, 0, 0)) := by decide +kernel
theorem sm_a127_9 : sm_at 127 9 = some (.goto 16, 3, (0, 0, 0, 0)) := by decide +kernel
theorem sm_a127_12 : sm_at 127 12 = some (.aload_n 0, 1, (0, 0, 0, 0)) := by decide +kernel
theorem sm_a127_13 : sm_at 127 13 = some (.invokevirtual 60, 3, (10, 126, 10, 1019)) := by decide +kernel
theorem sm_a127_16 : sm_at 127 16 = some (.ifCond .eq 8, 3, (0, 0, 0, 0)) := by decide +kernel
theorem sm_a127_19 : sm_at 127 19 = some (.bipush 9, 2, (0, 0, 0, 0)) := by decide +kernel
theorem sm_a127_21 : sm_at 127 21 = some (.goto 4, 3, (0, 0, 0, 0)) := by decide +kernel
theorem sm_a127_24 : sm_at 127 24 = some (.iconst 1, 1, (0, 0, 0, 0)) := by decide +kernel
theorem sm_a127_25 : sm_at 127 25 = some (.ireturn, 1, (0, 0, 0, 0)) := by decide +kernel
theorem bb_127_0 {d : Nat} {M : sm_M} {Q : Option sm_V → sm_M → Prop} {a0 : Nat}
    (h : sm_K M a0 = 33 ∧ ((¬ (sm_I M a0 9) = 0 → sm_Run d 126 0 (sm_ent 126 [.inr (some a0)]) [] M (fun v M1 => sm_Run (d + 1) 127 16 [some (.inr (some a0))] (v.toList ++ []) M1 Q)) ∧ (¬ (¬ (sm_I M a0 9) = 0) → Q (some (.inl 13)) M))) :
    sm_Run (d + 1) 127 0 [some (.inr (some a0))] [] M Q := by
  refine ru_go (t := (1, [some (.inr (some a0))], [.inr (some a0)], M)) sm_a127_0 rfl rfl rfl ?_
  obtain ⟨h_1, h⟩ := h
  refine ru_go (t := (4, [some (.inr (some a0))], [.inl (sm_I M a0 9)], M)) sm_a127_1 rfl rfl (st_getI h_1 rfl) ?_
  refine ru_if (pc := 4) (p := 12) (p2 := 7) sm_a127_4 (by decide) rfl ⟨fun hc_2 => ?_, fun hc_2 => ?_⟩
  · have h := h.1 hc_2
    refine ru_go (t := (13, [some (.inr (some a0))], [.inr (some a0)], M)) sm_a127_12 rfl rfl rfl ?_
    exact ru_call (p := 16) sm_a127_13 rfl (sc_virt (Or.inl rfl) rfl rfl h_1 (Nat.le_of_ble_eq_true rfl)) rfl h
  · have h := h.2 hc_2
    refine ru_go (t := (9, [some (.inr (some a0))], [.inl 13], M)) sm_a127_7 rfl rfl (st_bipush (by decide)) ?_
    refine ru_go (t := (25, [some (.inr (some a0))], [.inl 13], M)) sm_a127_9 rfl rfl (st_goto (pc := 9) (by decide)) ?_
    exact ru_ret sm_a127_25 rfl h
theorem bb_127_16 {d : Nat} {M : sm_M} {Q : Option sm_V → sm_M → Prop} {a0 : Nat} {y0 : Int32}
    (h : ((y0 = 0 → Q (some (.inl 1)) M) ∧ (¬ (y0 = 0) → Q (some (.inl 9)) M))) :
    sm_Run (d + 1) 127 16 [some (.inr (some a0))] [.inl y0] M Q := by
  refine ru_if (pc := 16) (p := 24) (p2 := 19) sm_a127_16 (by decide) rfl ⟨fun hc_1 => ?_, fun hc_1 => ?_⟩
  · have h := h.1 hc_1
    refine ru_go (t := (25, [some (.inr (some a0))], [.inl 1], M)) sm_a127_24 rfl rfl (st_iconst (by decide)) ?_
    exact ru_ret sm_a127_25 rfl h
  · have h := h.2 hc_1
    refine ru_go (t := (21, [some (.inr (some a0))], [.inl 9], M)) sm_a127_19 rfl rfl (st_bipush (by decide)) ?_
    refine ru_go (t := (25, [some (.inr (some a0))], [.inl 9], M)) sm_a127_21 rfl rfl (st_goto (pc := 21) (by decide)) ?_
    exact ru_ret sm_a127_25 rfl h

/-! WireBus$Transfer.tokenNumber:()I -/
theorem sm_a128_0 : sm_at 128 0 = some (.aload_n 0, 1, (0, 0, 0, 0)) := by decide +kernel
theorem sm_a128_1 : sm_at 128 1 = some (.getfield 64, 3, (10, 8, 0, 638)) := by decide +kernel
theorem sm_a128_4 : sm_at 128 4 = some (.iconst 1, 1, (0, 0, 0, 0)) := by decide +kernel
theorem sm_a128_5 : sm_at 128 5 = some (.if_icmp .eq 11, 3, (0, 0, 0, 0)) := by decide +kernel
theorem sm_a128_8 : sm_at 128 8 = some (.aload_n 0, 1, (0, 0, 0, 0)) := by decide +kernel
theorem sm_a128_9 : sm_at 128 9 = some (.getfield 64, 3, (10, 8, 0, 638)) := by decide +kernel
theorem sm_a128_12 : sm_at 128 12 = some (.iconst 2, 1, (0, 0, 0, 0)) := by decide +kernel
theorem sm_a128_13 : sm_at 128 13 = some (.if_icmp .ne 7, 3, (0, 0, 0, 0)) := by decide +kernel
theorem sm_a128_16 : sm_at 128 16 = some (.iconst 0, 1, (0, 0, 0, 0)) := by decide +kernel
theorem sm_a128_17 : sm_at 128 17 = some (.goto 9, 3, (0, 0, 0, 0)) := by decide +kernel
theorem sm_a128_20 : sm_at 128 20 = some (.aload_n 0, 1, (0, 0, 0, 0)) := by decide +kernel
theorem sm_a128_21 : sm_at 128 21 = some (.getfield 18, 3, (10, 0, 0, 622)) := by decide +kernel
theorem sm_a128_24 : sm_at 128 24 = some (.iconst 1, 1, (0, 0, 0, 0)) := by decide +kernel
theorem sm_a128_25 : sm_at 128 25 = some (.iadd, 1, (0, 0, 0, 0)) := by decide +kernel
theorem sm_a128_26 : sm_at 128 26 = some (.istore_n 1, 1, (0, 0, 0, 0)) := by decide +kernel
theorem sm_a128_27 : sm_at 128 27 = some (.iload_n 1, 1, (0, 0, 0, 0)) := by decide +kernel
theorem sm_a128_28 : sm_at 128 28 = some (.sipush 128, 3, (0, 0, 0, 0)) := by decide +kernel
theorem sm_a128_31 : sm_at 128 31 = some (.aload_n 0, 1, (0, 0, 0, 0)) := by decide +kernel
theorem sm_a128_32 : sm_at 128 32 = some (.getfield 21, 3, (10, 1, 0, 625)) := by decide +kernel
theorem sm_a128_35 : sm_at 128 35 = some (.getfield 67, 3, (9, 0, 1, 358)) := by decide +kernel
theorem sm_a128_38 : sm_at 128 38 = some (.bipush 15, 2, (0, 0, 0, 0)) := by decide +kernel
theorem sm_a128_40 : sm_at 128 40 = some (.iand, 1, (0, 0, 0, 0)) := by decide +kernel
theorem sm_a128_41 : sm_at 128 41 = some (.imul, 1, (0, 0, 0, 0)) := by decide +kernel
theorem sm_a128_42 : sm_at 128 42 = some (.iadd, 1, (0, 0, 0, 0)) := by decide +kernel
theorem sm_a128_43 : sm_at 128 43 = some (.ireturn, 1, (0, 0, 0, 0)) := by decide +kernel
theorem bb_128_0 {d : Nat} {M : sm_M} {Q : Option sm_V → sm_M → Prop} {a0 : Nat} {z1 : Option sm_V}
    (h : sm_K M a0 = 33 ∧ (((sm_I M a0 8) = 1 → sm_Run d 128 16 [some (.inr (some a0)), z1] [] M Q) ∧ (¬ ((sm_I M a0 8) = 1) → ((¬ (sm_I M a0 8) = 2 → ∃ b_4, sm_R M a0 1 = some b_4 ∧ sm_K M b_4 = 30 ∧ Q (some (.inl (((sm_I M a0 0) + 1) + (128 * ((sm_I M b_4 0) &&& 15))))) M) ∧ (¬ (¬ (sm_I M a0 8) = 2) → sm_Run d 128 16 [some (.inr (some a0)), z1] [] M Q))))) :
    sm_Run d 128 0 [some (.inr (some a0)), z1] [] M Q := by
  refine ru_go (t := (1, [some (.inr (some a0)), z1], [.inr (some a0)], M)) sm_a128_0 rfl rfl rfl ?_
  obtain ⟨h_1, h⟩ := h
  refine ru_go (t := (4, [some (.inr (some a0)), z1], [.inl (sm_I M a0 8)], M)) sm_a128_1 rfl rfl (st_getI h_1 rfl) ?_
  refine ru_go (t := (5, [some (.inr (some a0)), z1], [.inl 1, .inl (sm_I M a0 8)], M)) sm_a128_4 rfl rfl (st_iconst (by decide)) ?_
  refine ru_icmp (pc := 5) (p := 16) (p2 := 8) sm_a128_5 (by decide) rfl ⟨fun hc_2 => ?_, fun hc_2 => ?_⟩
  · have h := h.1 hc_2
    exact h
  · have h := h.2 hc_2
    refine ru_go (t := (9, [some (.inr (some a0)), z1], [.inr (some a0)], M)) sm_a128_8 rfl rfl rfl ?_
    refine ru_go (t := (12, [some (.inr (some a0)), z1], [.inl (sm_I M a0 8)], M)) sm_a128_9 rfl rfl (st_getI h_1 rfl) ?_
    refine ru_go (t := (13, [some (.inr (some a0)), z1], [.inl 2, .inl (sm_I M a0 8)], M)) sm_a128_12 rfl rfl (st_iconst (by decide)) ?_
    refine ru_icmp (pc := 13) (p := 20) (p2 := 16) sm_a128_13 (by decide) rfl ⟨fun hc_3 => ?_, fun hc_3 => ?_⟩
    · have h := h.1 hc_3
      refine ru_go (t := (21, [some (.inr (some a0)), z1], [.inr (some a0)], M)) sm_a128_20 rfl rfl rfl ?_
      refine ru_go (t := (24, [some (.inr (some a0)), z1], [.inl (sm_I M a0 0)], M)) sm_a128_21 rfl rfl (st_getI h_1 rfl) ?_
      refine ru_go (t := (25, [some (.inr (some a0)), z1], [.inl 1, .inl (sm_I M a0 0)], M)) sm_a128_24 rfl rfl (st_iconst (by decide)) ?_
      refine ru_go (t := (26, [some (.inr (some a0)), z1], [.inl ((sm_I M a0 0) + 1)], M)) sm_a128_25 rfl rfl rfl ?_
      refine ru_go (t := (27, [some (.inr (some a0)), some (.inl ((sm_I M a0 0) + 1))], [], M)) sm_a128_26 rfl rfl rfl ?_
      refine ru_go (t := (28, [some (.inr (some a0)), some (.inl ((sm_I M a0 0) + 1))], [.inl ((sm_I M a0 0) + 1)], M)) sm_a128_27 rfl rfl rfl ?_
      refine ru_go (t := (31, [some (.inr (some a0)), some (.inl ((sm_I M a0 0) + 1))], [.inl 128, .inl ((sm_I M a0 0) + 1)], M)) sm_a128_28 rfl rfl (st_sipush (by decide)) ?_
      refine ru_go (t := (32, [some (.inr (some a0)), some (.inl ((sm_I M a0 0) + 1))], [.inr (some a0), .inl 128, .inl ((sm_I M a0 0) + 1)], M)) sm_a128_31 rfl rfl rfl ?_
      refine ru_go (t := (35, [some (.inr (some a0)), some (.inl ((sm_I M a0 0) + 1))], [.inr (sm_R M a0 1), .inl 128, .inl ((sm_I M a0 0) + 1)], M)) sm_a128_32 rfl rfl (st_getR h_1 rfl rfl) ?_
      obtain ⟨b_4, hb_5, h⟩ := h
      rw [hb_5]
      obtain ⟨h_6, h⟩ := h
      refine ru_go (t := (38, [some (.inr (some a0)), some (.inl ((sm_I M a0 0) + 1))], [.inl (sm_I M b_4 0), .inl 128, .inl ((sm_I M a0 0) + 1)], M)) sm_a128_35 rfl rfl (st_getI h_6 rfl) ?_
      refine ru_go (t := (40, [some (.inr (some a0)), some (.inl ((sm_I M a0 0) + 1))], [.inl 15, .inl (sm_I M b_4 0), .inl 128, .inl ((sm_I M a0 0) + 1)], M)) sm_a128_38 rfl rfl (st_bipush (by decide)) ?_
      refine ru_go (t := (41, [some (.inr (some a0)), some (.inl ((sm_I M a0 0) + 1))], [.inl ((sm_I M b_4 0) &&& 15), .inl 128, .inl ((sm_I M a0 0) + 1)], M)) sm_a128_40 rfl rfl rfl ?_
      refine ru_go (t := (42, [some (.inr (some a0)), some (.inl ((sm_I M a0 0) + 1))], [.inl (128 * ((sm_I M b_4 0) &&& 15)), .inl ((sm_I M a0 0) + 1)], M)) sm_a128_41 rfl rfl rfl ?_
      refine ru_go (t := (43, [some (.inr (some a0)), some (.inl ((sm_I M a0 0) + 1))], [.inl (((sm_I M a0 0) + 1) + (128 * ((sm_I M b_4 0) &&& 15)))], M)) sm_a128_42 rfl rfl rfl ?_
      exact ru_ret sm_a128_43 rfl h
    · have h := h.2 hc_3
      exact h
theorem bb_128_16 {d : Nat} {M : sm_M} {Q : Option sm_V → sm_M → Prop} {a0 : Nat} {z1 : Option sm_V}
    (h : sm_K M a0 = 33 ∧ ∃ b_2, sm_R M a0 1 = some b_2 ∧ sm_K M b_2 = 30 ∧ Q (some (.inl (0 + (128 * ((sm_I M b_2 0) &&& 15))))) M) :
    sm_Run d 128 16 [some (.inr (some a0)), z1] [] M Q := by
  refine ru_go (t := (17, [some (.inr (some a0)), z1], [.inl 0], M)) sm_a128_16 rfl rfl (st_iconst (by decide)) ?_
  refine ru_go (t := (26, [some (.inr (some a0)), z1], [.inl 0], M)) sm_a128_17 rfl rfl (st_goto (pc := 17) (by decide)) ?_
  refine ru_go (t := (27, [some (.inr (some a0)), some (.inl 0)], [], M)) sm_a128_26 rfl rfl rfl ?_
  refine ru_go (t := (28, [some (.inr (some a0)), some (.inl 0)], [.inl 0], M)) sm_a128_27 rfl rfl rfl ?_
  refine ru_go (t := (31, [some (.inr (some a0)), some (.inl 0)], [.inl 128, .inl 0], M)) sm_a128_28 rfl rfl (st_sipush (by decide)) ?_
  refine ru_go (t := (32, [some (.inr (some a0)), some (.inl 0)], [.inr (some a0), .inl 128, .inl 0], M)) sm_a128_31 rfl rfl rfl ?_
  obtain ⟨h_1, h⟩ := h
  refine ru_go (t := (35, [some (.inr (some a0)), some (.inl 0)], [.inr (sm_R M a0 1), .inl 128, .inl 0], M)) sm_a128_32 rfl rfl (st_getR h_1 rfl rfl) ?_
  obtain ⟨b_2, hb_3, h⟩ := h
  rw [hb_3]
  obtain ⟨h_4, h⟩ := h
  refine ru_go (t := (38, [some (.inr (some a0)), some (.inl 0)], [.inl (sm_I M b_2 0), .inl 128, .inl 0], M)) sm_a128_35 rfl rfl (st_getI h_4 rfl) ?_
  refine ru_go (t := (40, [some (.inr (some a0)), some (.inl 0)], [.inl 15, .inl (sm_I M b_2 0), .inl 128, .inl 0], M)) sm_a128_38 rfl rfl (st_bipush (by decide)) ?_
  refine ru_go (t := (41, [some (.inr (some a0)), some (.inl 0)], [.inl ((sm_I M b_2 0) &&& 15), .inl 128, .inl 0], M)) sm_a128_40 rfl rfl rfl ?_
  refine ru_go (t := (42, [some (.inr (some a0)), some (.inl 0)], [.inl (128 * ((sm_I M b_2 0) &&& 15)), .inl 0], M)) sm_a128_41 rfl rfl rfl ?_
  refine ru_go (t := (43, [some (.inr (some a0)), some (.inl 0)], [.inl (0 + (128 * ((sm_I M b_2 0) &&& 15)))], M)) sm_a128_42 rfl rfl rfl ?_
  exact ru_ret sm_a128_43 rfl h

/-! WireBus$Transfer.chunk:()I -/
theorem sm_a129_0 : sm_at 129 0 = some (.aload_n 0, 1, (0, 0, 0, 0)) := by decide +kernel
theorem sm_a129_1 : sm_at 129 1 = some (.getfield 11, 3, (10, 9, 0, 640)) := by decide +kernel
theorem sm_a129_4 : sm_at 129 4 = some (.iconst 1, 1, (0, 0, 0, 0)) := by decide +kernel
theorem sm_a129_5 : sm_at 129 5 = some (.if_icmp .ne 23, 3, (0, 0, 0, 0)) := by decide +kernel
theorem sm_a129_8 : sm_at 129 8 = some (.aload_n 0, 1, (0, 0, 0, 0)) := by decide +kernel
theorem sm_a129_9 : sm_at 129 9 = some (.getfield 25, 3, (10, 2, 0, 628)) := by decide +kernel
theorem sm_a129_12 : sm_at 129 12 = some (.aload_n 0, 1, (0, 0, 0, 0)) := by decide +kernel
theorem sm_a129_13 : sm_at 129 13 = some (.getfield 38, 3, (10, 4, 0, 630)) := by decide +kernel
theorem sm_a129_16 : sm_at 129 16 = some (.arraylength, 1, (0, 0, 0, 0)) := by decide +kernel
theorem sm_a129_17 : sm_at 129 17 = some (.aload_n 0, 1, (0, 0, 0, 0)) := by decide +kernel
theorem sm_a129_18 : sm_at 129 18 = some (.getfield 57, 3, (10, 10, 0, 642)) := by decide +kernel
theorem sm_a129_21 : sm_at 129 21 = some (.isub, 1, (0, 0, 0, 0)) := by decide +kernel
theorem sm_a129_22 : sm_at 129 22 = some (.invokestatic 72, 3, (3, 0, 0, 1043)) := by decide +kernel
theorem sm_a129_25 : sm_at 129 25 = some (.goto 4, 3, (0, 0, 0, 0)) := by decide +kernel
theorem sm_a129_28 : sm_at 129 28 = some (.iconst 0, 1, (0, 0, 0, 0)) := by decide +kernel
theorem sm_a129_29 : sm_at 129 29 = some (.ireturn, 1, (0, 0, 0, 0)) := by decide +kernel
theorem bb_129_0 {d : Nat} {M : sm_M} {Q : Option sm_V → sm_M → Prop} {a0 : Nat}
    (h : sm_K M a0 = 33 ∧ ((¬ (sm_I M a0 9) = 1 → Q (some (.inl 0)) M) ∧ (¬ (¬ (sm_I M a0 9) = 1) → ∃ b_3, sm_R M a0 4 = some b_3 ∧ (1 ≤ sm_K M b_3 ∧ sm_K M b_3 % 3 ≠ 0) ∧ Q (some (.inl (if (Int32.ofNat (sm_L M b_3)) - (sm_I M a0 10) < sm_I M a0 2 then (Int32.ofNat (sm_L M b_3)) - (sm_I M a0 10) else sm_I M a0 2))) M))) :
    sm_Run (d + 1) 129 0 [some (.inr (some a0))] [] M Q := by
  refine ru_go (t := (1, [some (.inr (some a0))], [.inr (some a0)], M)) sm_a129_0 rfl rfl rfl ?_
  obtain ⟨h_1, h⟩ := h
  refine ru_go (t := (4, [some (.inr (some a0))], [.inl (sm_I M a0 9)], M)) sm_a129_1 rfl rfl (st_getI h_1 rfl) ?_
  refine ru_go (t := (5, [some (.inr (some a0))], [.inl 1, .inl (sm_I M a0 9)], M)) sm_a129_4 rfl rfl (st_iconst (by decide)) ?_
  refine ru_icmp (pc := 5) (p := 28) (p2 := 8) sm_a129_5 (by decide) rfl ⟨fun hc_2 => ?_, fun hc_2 => ?_⟩
  · have h := h.1 hc_2
    refine ru_go (t := (29, [some (.inr (some a0))], [.inl 0], M)) sm_a129_28 rfl rfl (st_iconst (by decide)) ?_
    exact ru_ret sm_a129_29 rfl h
  · have h := h.2 hc_2
    refine ru_go (t := (9, [some (.inr (some a0))], [.inr (some a0)], M)) sm_a129_8 rfl rfl rfl ?_
    refine ru_go (t := (12, [some (.inr (some a0))], [.inl (sm_I M a0 2)], M)) sm_a129_9 rfl rfl (st_getI h_1 rfl) ?_
    refine ru_go (t := (13, [some (.inr (some a0))], [.inr (some a0), .inl (sm_I M a0 2)], M)) sm_a129_12 rfl rfl rfl ?_
    refine ru_go (t := (16, [some (.inr (some a0))], [.inr (sm_R M a0 4), .inl (sm_I M a0 2)], M)) sm_a129_13 rfl rfl (st_getR h_1 rfl rfl) ?_
    obtain ⟨b_3, hb_4, h⟩ := h
    rw [hb_4]
    obtain ⟨h_5, h⟩ := h
    refine ru_go (t := (17, [some (.inr (some a0))], [.inl (Int32.ofNat (sm_L M b_3)), .inl (sm_I M a0 2)], M)) sm_a129_16 rfl rfl (st_alen h_5) ?_
    refine ru_go (t := (18, [some (.inr (some a0))], [.inr (some a0), .inl (Int32.ofNat (sm_L M b_3)), .inl (sm_I M a0 2)], M)) sm_a129_17 rfl rfl rfl ?_
    refine ru_go (t := (21, [some (.inr (some a0))], [.inl (sm_I M a0 10), .inl (Int32.ofNat (sm_L M b_3)), .inl (sm_I M a0 2)], M)) sm_a129_18 rfl rfl (st_getI h_1 rfl) ?_
    refine ru_go (t := (22, [some (.inr (some a0))], [.inl ((Int32.ofNat (sm_L M b_3)) - (sm_I M a0 10)), .inl (sm_I M a0 2)], M)) sm_a129_21 rfl rfl rfl ?_
    refine ru_go (t := (25, [some (.inr (some a0))], [.inl (if (Int32.ofNat (sm_L M b_3)) - (sm_I M a0 10) < sm_I M a0 2 then (Int32.ofNat (sm_L M b_3)) - (sm_I M a0 10) else sm_I M a0 2)], M)) sm_a129_22 rfl rfl (st_min (Nat.le_of_ble_eq_true rfl)) ?_
    refine ru_go (t := (29, [some (.inr (some a0))], [.inl (if (Int32.ofNat (sm_L M b_3)) - (sm_I M a0 10) < sm_I M a0 2 then (Int32.ofNat (sm_L M b_3)) - (sm_I M a0 10) else sm_I M a0 2)], M)) sm_a129_25 rfl rfl (st_goto (pc := 25) (by decide)) ?_
    exact ru_ret sm_a129_29 rfl h

/-! WireBus$Transfer.dataToSend:()I -/
theorem sm_a130_0 : sm_at 130 0 = some (.aload_n 0, 1, (0, 0, 0, 0)) := by decide +kernel
theorem sm_a130_1 : sm_at 130 1 = some (.getfield 11, 3, (10, 9, 0, 640)) := by decide +kernel
theorem sm_a130_4 : sm_at 130 4 = some (.ifCond .ne 7, 3, (0, 0, 0, 0)) := by decide +kernel
theorem sm_a130_7 : sm_at 130 7 = some (.iconst 3, 1, (0, 0, 0, 0)) := by decide +kernel
theorem sm_a130_8 : sm_at 130 8 = some (.goto 26, 3, (0, 0, 0, 0)) := by decide +kernel
theorem sm_a130_11 : sm_at 130 11 = some (.aload_n 0, 1, (0, 0, 0, 0)) := by decide +kernel
theorem sm_a130_12 : sm_at 130 12 = some (.getfield 11, 3, (10, 9, 0, 640)) := by decide +kernel
theorem sm_a130_15 : sm_at 130 15 = some (.iconst 2, 1, (0, 0, 0, 0)) := by decide +kernel
theorem sm_a130_16 : sm_at 130 16 = some (.if_icmp .ne 8, 3, (0, 0, 0, 0)) := by decide +kernel
theorem sm_a130_19 : sm_at 130 19 = some (.bipush 11, 2, (0, 0, 0, 0)) := by decide +kernel
theorem sm_a130_21 : sm_at 130 21 = some (.goto 13, 3, (0, 0, 0, 0)) := by decide +kernel
theorem sm_a130_24 : sm_at 130 24 = some (.aload_n 0, 1, (0, 0, 0, 0)) := by decide +kernel
theorem sm_a130_25 : sm_at 130 25 = some (.getfield 21, 3, (10, 1, 0, 625)) := by decide +kernel
theorem sm_a130_28 : sm_at 130 28 = some (.getfield 75, 3, (9, 5, 1, 369)) := by decide +kernel
theorem sm_a130_31 : sm_at 130 31 = some (.invokestatic 78, 3, (13, 27, 0, 1028)) := by decide +kernel
theorem sm_a130_34 : sm_at 130 34 = some (.ireturn, 1, (0, 0, 0, 0)) := by decide +kernel
theorem bb_130_0 {d : Nat} {M : sm_M} {Q : Option sm_V → sm_M → Prop} {a0 : Nat}
    (h : sm_K M a0 = 33 ∧ ((¬ (sm_I M a0 9) = 0 → ((¬ (sm_I M a0 9) = 2 → ∃ b_4, sm_R M a0 1 = some b_4 ∧ sm_K M b_4 = 30 ∧ sm_Run d 27 0 (sm_ent 27 [.inl (sm_I M b_4 5)]) [] M (fun v M1 => sm_Run (d + 1) 130 34 [some (.inr (some a0))] (v.toList ++ []) M1 Q)) ∧ (¬ (¬ (sm_I M a0 9) = 2) → Q (some (.inl 11)) M))) ∧ (¬ (¬ (sm_I M a0 9) = 0) → Q (some (.inl 3)) M))) :
    sm_Run (d + 1) 130 0 [some (.inr (some a0))] [] M Q := by
  refine ru_go (t := (1, [some (.inr (some a0))], [.inr (some a0)], M)) sm_a130_0 rfl rfl rfl ?_
  obtain ⟨h_1, h⟩ := h
  refine ru_go (t := (4, [some (.inr (some a0))], [.inl (sm_I M a0 9)], M)) sm_a130_1 rfl rfl (st_getI h_1 rfl) ?_
  refine ru_if (pc := 4) (p := 11) (p2 := 7) sm_a130_4 (by decide) rfl ⟨fun hc_2 => ?_, fun hc_2 => ?_⟩
  · have h := h.1 hc_2
    refine ru_go (t := (12, [some (.inr (some a0))], [.inr (some a0)], M)) sm_a130_11 rfl rfl rfl ?_
    refine ru_go (t := (15, [some (.inr (some a0))], [.inl (sm_I M a0 9)], M)) sm_a130_12 rfl rfl (st_getI h_1 rfl) ?_
    refine ru_go (t := (16, [some (.inr (some a0))], [.inl 2, .inl (sm_I M a0 9)], M)) sm_a130_15 rfl rfl (st_iconst (by decide)) ?_
    refine ru_icmp (pc := 16) (p := 24) (p2 := 19) sm_a130_16 (by decide) rfl ⟨fun hc_3 => ?_, fun hc_3 => ?_⟩
    · have h := h.1 hc_3
      refine ru_go (t := (25, [some (.inr (some a0))], [.inr (some a0)], M)) sm_a130_24 rfl rfl rfl ?_
      refine ru_go (t := (28, [some (.inr (some a0))], [.inr (sm_R M a0 1)], M)) sm_a130_25 rfl rfl (st_getR h_1 rfl rfl) ?_
      obtain ⟨b_4, hb_5, h⟩ := h
      rw [hb_5]
      obtain ⟨h_6, h⟩ := h
      refine ru_go (t := (31, [some (.inr (some a0))], [.inl (sm_I M b_4 5)], M)) sm_a130_28 rfl rfl (st_getI h_6 rfl) ?_
      exact ru_call (p := 34) sm_a130_31 rfl (sc_stat (Or.inr rfl) (Nat.le_of_ble_eq_true rfl) rfl rfl (Nat.le_of_ble_eq_true rfl)) rfl h
    · have h := h.2 hc_3
      refine ru_go (t := (21, [some (.inr (some a0))], [.inl 11], M)) sm_a130_19 rfl rfl (st_bipush (by decide)) ?_
      refine ru_go (t := (34, [some (.inr (some a0))], [.inl 11], M)) sm_a130_21 rfl rfl (st_goto (pc := 21) (by decide)) ?_
      exact ru_ret sm_a130_34 rfl h
  · have h := h.2 hc_2
    refine ru_go (t := (8, [some (.inr (some a0))], [.inl 3], M)) sm_a130_7 rfl rfl (st_iconst (by decide)) ?_
    refine ru_go (t := (34, [some (.inr (some a0))], [.inl 3], M)) sm_a130_8 rfl rfl (st_goto (pc := 8) (by decide)) ?_
    exact ru_ret sm_a130_34 rfl h
theorem bb_130_34 {d : Nat} {M : sm_M} {Q : Option sm_V → sm_M → Prop} {a0 : Nat} {y0 : Int32}
    (h : Q (some (.inl y0)) M) :
    sm_Run (d + 1) 130 34 [some (.inr (some a0))] [.inl y0] M Q := by
  exact ru_ret sm_a130_34 rfl h

/-! WireBus$Transfer.fill:(LWireBus$Packet;)V -/
theorem sm_a131_0 : sm_at 131 0 = some (.aload_n 0, 1, (0, 0, 0, 0)) := by decide +kernel
theorem sm_a131_1 : sm_at 131 1 = some (.getfield 11, 3, (10, 9, 0, 640)) := by decide +kernel
theorem sm_a131_4 : sm_at 131 4 = some (.ifCond .ne 52, 3, (0, 0, 0, 0)) := by decide +kernel
theorem sm_a131_7 : sm_at 131 7 = some (.aload_n 1, 1, (0, 0, 0, 0)) := by decide +kernel
theorem sm_a131_8 : sm_at 131 8 = some (.aload_n 0, 1, (0, 0, 0, 0)) := by decide +kernel
theorem sm_a131_9 : sm_at 131 9 = some (.getfield 42, 3, (10, 5, 0, 632)) := by decide +kernel
theorem sm_a131_12 : sm_at 131 12 = some (.bipush 8, 2, (0, 0, 0, 0)) := by decide +kernel
theorem sm_a131_14 : sm_at 131 14 = some (.ishr, 1, (0, 0, 0, 0)) := by decide +kernel
theorem sm_a131_15 : sm_at 131 15 = some (.invokevirtual 82, 3, (10, 106, 7, 1033)) := by decide +kernel
theorem sm_a131_18 : sm_at 131 18 = some (.aload_n 1, 1, (0, 0, 0, 0)) := by decide +kernel
theorem sm_a131_19 : sm_at 131 19 = some (.aload_n 0, 1, (0, 0, 0, 0)) := by decide +kernel
theorem sm_a131_20 : sm_at 131 20 = some (.getfield 42, 3, (10, 5, 0, 632)) := by decide +kernel
theorem sm_a131_23 : sm_at 131 23 = some (.sipush 255, 3, (0, 0, 0, 0)) := by decide +kernel
theorem sm_a131_26 : sm_at 131 26 = some (.iand, 1, (0, 0, 0, 0)) := by decide +kernel
theorem sm_a131_27 : sm_at 131 27 = some (.invokevirtual 82, 3, (10, 106, 7, 1033)) := by decide +kernel
theorem sm_a131_30 : sm_at 131 30 = some (.aload_n 1, 1, (0, 0, 0, 0)) := by decide +kernel
theorem sm_a131_31 : sm_at 131 31 = some (.aload_n 0, 1, (0, 0, 0, 0)) := by decide +kernel
theorem sm_a131_32 : sm_at 131 32 = some (.getfield 45, 3, (10, 6, 0, 634)) := by decide +kernel
theorem sm_a131_35 : sm_at 131 35 = some (.invokevirtual 88, 3, (10, 109, 7, 1034)) := by decide +kernel
theorem sm_a131_38 : sm_at 131 38 = some (.aload_n 1, 1, (0, 0, 0, 0)) := by decide +kernel
theorem sm_a131_39 : sm_at 131 39 = some (.aload_n 0, 1, (0, 0, 0, 0)) := by decide +kernel
theorem sm_a131_40 : sm_at 131 40 = some (.getfield 48, 3, (10, 7, 0, 636)) := by decide +kernel
theorem sm_a131_43 : sm_at 131 43 = some (.invokevirtual 88, 3, (10, 109, 7, 1034)) := by decide +kernel
theorem sm_a131_46 : sm_at 131 46 = some (.aload_n 1, 1, (0, 0, 0, 0)) := by decide +kernel
theorem sm_a131_47 : sm_at 131 47 = some (.aload_n 0, 1, (0, 0, 0, 0)) := by decide +kernel
theorem sm_a131_48 : sm_at 131 48 = some (.getfield 38, 3, (10, 4, 0, 630)) := by decide +kernel
theorem sm_a131_51 : sm_at 131 51 = some (.arraylength, 1, (0, 0, 0, 0)) := by decide +kernel
theorem sm_a131_52 : sm_at 131 52 = some (.invokevirtual 88, 3, (10, 109, 7, 1034)) := by decide +kernel
theorem sm_a131_55 : sm_at 131 55 = some (.return_, 1, (0, 0, 0, 0)) := by decide +kernel
theorem sm_a131_56 : sm_at 131 56 = some (.aload_n 0, 1, (0, 0, 0, 0)) := by decide +kernel
theorem sm_a131_57 : sm_at 131 57 = some (.invokevirtual 91, 3, (10, 129, 10, 1039)) := by decide +kernel
theorem sm_a131_60 : sm_at 131 60 = some (.istore_n 2, 1, (0, 0, 0, 0)) := by decide +kernel
theorem sm_a131_61 : sm_at 131 61 = some (.iconst 0, 1, (0, 0, 0, 0)) := by decide +kernel
theorem sm_a131_62 : sm_at 131 62 = some (.istore_n 3, 1, (0, 0, 0, 0)) := by decide +kernel
theorem sm_a131_63 : sm_at 131 63 = some (.iload_n 3, 1, (0, 0, 0, 0)) := by decide +kernel
theorem sm_a131_64 : sm_at 131 64 = some (.iload_n 2, 1, (0, 0, 0, 0)) := by decide +kernel
theorem sm_a131_65 : sm_at 131 65 = some (.if_icmp .ge 24, 3, (0, 0, 0, 0)) := by decide +kernel
theorem sm_a131_68 : sm_at 131 68 = some (.aload_n 1, 1, (0, 0, 0, 0)) := by decide +kernel
theorem sm_a131_69 : sm_at 131 69 = some (.aload_n 0, 1, (0, 0, 0, 0)) := by decide +kernel
theorem sm_a131_70 : sm_at 131 70 = some (.getfield 38, 3, (10, 4, 0, 630)) := by decide +kernel
theorem sm_a131_73 : sm_at 131 73 = some (.aload_n 0, 1, (0, 0, 0, 0)) := by decide +kernel
theorem sm_a131_74 : sm_at 131 74 = some (.getfield 57, 3, (10, 10, 0, 642)) := by decide +kernel
theorem sm_a131_77 : sm_at 131 77 = some (.iload_n 3, 1, (0, 0, 0, 0)) := by decide +kernel
theorem sm_a131_78 : sm_at 131 78 = some (.iadd, 1, (0, 0, 0, 0)) := by decide +kernel
theorem sm_a131_79 : sm_at 131 79 = some (.iaload, 1, (0, 0, 0, 0)) := by decide +kernel
theorem sm_a131_80 : sm_at 131 80 = some (.invokevirtual 82, 3, (10, 106, 7, 1033)) := by decide +kernel
theorem sm_a131_83 : sm_at 131 83 = some (.iinc 3 1, 3, (0, 0, 0, 0)) := by decide +kernel
theorem sm_a131_86 : sm_at 131 86 = some (.goto (-23), 3, (0, 0, 0, 0)) := by decide +kernel
theorem sm_a131_89 : sm_at 131 89 = some (.return_, 1, (0, 0, 0, 0)) := by decide +kernel
theorem bb_131_0 {d : Nat} {M : sm_M} {Q : Option sm_V → sm_M → Prop} {a0 : Nat} {r1 : Option Nat} {z2 : Option sm_V} {z3 : Option sm_V}
    (h : sm_K M a0 = 33 ∧ ((¬ (sm_I M a0 9) = 0 → sm_Run d 129 0 (sm_ent 129 [.inr (some a0)]) [] M (fun v M1 => sm_Run (d + 1) 131 60 [some (.inr (some a0)), some (.inr r1), z2, z3] (v.toList ++ []) M1 Q)) ∧ (¬ (¬ (sm_I M a0 9) = 0) → ∃ b_3, r1 = some b_3 ∧ sm_K M b_3 = 24 ∧ sm_Run d 106 0 (sm_ent 106 [.inr (some b_3), .inl ((sm_I M a0 5) >>> (8 &&& 31))]) [] M (fun v M1 => sm_Run (d + 1) 131 18 [some (.inr (some a0)), some (.inr (some b_3)), z2, z3] (v.toList ++ []) M1 Q)))) :
    sm_Run (d + 1) 131 0 [some (.inr (some a0)), some (.inr r1), z2, z3] [] M Q := by
  refine ru_go (t := (1, [some (.inr (some a0)), some (.inr r1), z2, z3], [.inr (some a0)], M)) sm_a131_0 rfl rfl rfl ?_
  obtain ⟨h_1, h⟩ := h
  refine ru_go (t := (4, [some (.inr (some a0)), some (.inr r1), z2, z3], [.inl (sm_I M a0 9)], M)) sm_a131_1 rfl rfl (st_getI h_1 rfl) ?_
  refine ru_if (pc := 4) (p := 56) (p2 := 7) sm_a131_4 (by decide) rfl ⟨fun hc_2 => ?_, fun hc_2 => ?_⟩
  · have h := h.1 hc_2
    refine ru_go (t := (57, [some (.inr (some a0)), some (.inr r1), z2, z3], [.inr (some a0)], M)) sm_a131_56 rfl rfl rfl ?_
    exact ru_call (p := 60) sm_a131_57 rfl (sc_virt (Or.inl rfl) rfl rfl h_1 (Nat.le_of_ble_eq_true rfl)) rfl h
  · have h := h.2 hc_2
    refine ru_go (t := (8, [some (.inr (some a0)), some (.inr r1), z2, z3], [.inr r1], M)) sm_a131_7 rfl rfl rfl ?_
    refine ru_go (t := (9, [some (.inr (some a0)), some (.inr r1), z2, z3], [.inr (some a0), .inr r1], M)) sm_a131_8 rfl rfl rfl ?_
    refine ru_go (t := (12, [some (.inr (some a0)), some (.inr r1), z2, z3], [.inl (sm_I M a0 5), .inr r1], M)) sm_a131_9 rfl rfl (st_getI h_1 rfl) ?_
    refine ru_go (t := (14, [some (.inr (some a0)), some (.inr r1), z2, z3], [.inl 8, .inl (sm_I M a0 5), .inr r1], M)) sm_a131_12 rfl rfl (st_bipush (by decide)) ?_
    refine ru_go (t := (15, [some (.inr (some a0)), some (.inr r1), z2, z3], [.inl ((sm_I M a0 5) >>> (8 &&& 31)), .inr r1], M)) sm_a131_14 rfl rfl rfl ?_
    obtain ⟨b_3, hb_4, h⟩ := h
    rw [hb_4]
    obtain ⟨h_5, h⟩ := h
    exact ru_call (p := 18) sm_a131_15 rfl (sc_virt (Or.inl rfl) rfl rfl h_5 (Nat.le_of_ble_eq_true rfl)) rfl h
theorem bb_131_18 {d : Nat} {M : sm_M} {Q : Option sm_V → sm_M → Prop} {a0 : Nat} {r1 : Option Nat} {z2 : Option sm_V} {z3 : Option sm_V}
    (h : sm_K M a0 = 33 ∧ ∃ b_2, r1 = some b_2 ∧ sm_K M b_2 = 24 ∧ sm_Run d 106 0 (sm_ent 106 [.inr (some b_2), .inl ((sm_I M a0 5) &&& 255)]) [] M (fun v M1 => sm_Run (d + 1) 131 30 [some (.inr (some a0)), some (.inr (some b_2)), z2, z3] (v.toList ++ []) M1 Q)) :
    sm_Run (d + 1) 131 18 [some (.inr (some a0)), some (.inr r1), z2, z3] [] M Q := by
  refine ru_go (t := (19, [some (.inr (some a0)), some (.inr r1), z2, z3], [.inr r1], M)) sm_a131_18 rfl rfl rfl ?_
  refine ru_go (t := (20, [some (.inr (some a0)), some (.inr r1), z2, z3], [.inr (some a0), .inr r1], M)) sm_a131_19 rfl rfl rfl ?_
  obtain ⟨h_1, h⟩ := h
  refine ru_go (t := (23, [some (.inr (some a0)), some (.inr r1), z2, z3], [.inl (sm_I M a0 5), .inr r1], M)) sm_a131_20 rfl rfl (st_getI h_1 rfl) ?_
  refine ru_go (t := (26, [some (.inr (some a0)), some (.inr r1), z2, z3], [.inl 255, .inl (sm_I M a0 5), .inr r1], M)) sm_a131_23 rfl rfl (st_sipush (by decide)) ?_
  refine ru_go (t := (27, [some (.inr (some a0)), some (.inr r1), z2, z3], [.inl ((sm_I M a0 5) &&& 255), .inr r1], M)) sm_a131_26 rfl rfl rfl ?_
  obtain ⟨b_2, hb_3, h⟩ := h
  rw [hb_3]
  obtain ⟨h_4, h⟩ := h
  exact ru_call (p := 30) sm_a131_27 rfl (sc_virt (Or.inl rfl) rfl rfl h_4 (Nat.le_of_ble_eq_true rfl)) rfl h
theorem bb_131_30 {d : Nat} {M : sm_M} {Q : Option sm_V → sm_M → Prop} {a0 : Nat} {r1 : Option Nat} {z2 : Option sm_V} {z3 : Option sm_V}
    (h : sm_K M a0 = 33 ∧ ∃ b_2, r1 = some b_2 ∧ sm_K M b_2 = 24 ∧ sm_Run d 109 0 (sm_ent 109 [.inr (some b_2), .inl (sm_I M a0 6)]) [] M (fun v M1 => sm_Run (d + 1) 131 38 [some (.inr (some a0)), some (.inr (some b_2)), z2, z3] (v.toList ++ []) M1 Q)) :
    sm_Run (d + 1) 131 30 [some (.inr (some a0)), some (.inr r1), z2, z3] [] M Q := by
  refine ru_go (t := (31, [some (.inr (some a0)), some (.inr r1), z2, z3], [.inr r1], M)) sm_a131_30 rfl rfl rfl ?_
  refine ru_go (t := (32, [some (.inr (some a0)), some (.inr r1), z2, z3], [.inr (some a0), .inr r1], M)) sm_a131_31 rfl rfl rfl ?_
  obtain ⟨h_1, h⟩ := h
  refine ru_go (t := (35, [some (.inr (some a0)), some (.inr r1), z2, z3], [.inl (sm_I M a0 6), .inr r1], M)) sm_a131_32 rfl rfl (st_getI h_1 rfl) ?_
  obtain ⟨b_2, hb_3, h⟩ := h
  rw [hb_3]
  obtain ⟨h_4, h⟩ := h
  exact ru_call (p := 38) sm_a131_35 rfl (sc_virt (Or.inl rfl) rfl rfl h_4 (Nat.le_of_ble_eq_true rfl)) rfl h
theorem bb_131_38 {d : Nat} {M : sm_M} {Q : Option sm_V → sm_M → Prop} {a0 : Nat} {r1 : Option Nat} {z2 : Option sm_V} {z3 : Option sm_V}
    (h : sm_K M a0 = 33 ∧ ∃ b_2, r1 = some b_2 ∧ sm_K M b_2 = 24 ∧ sm_Run d 109 0 (sm_ent 109 [.inr (some b_2), .inl (sm_I M a0 7)]) [] M (fun v M1 => sm_Run (d + 1) 131 46 [some (.inr (some a0)), some (.inr (some b_2)), z2, z3] (v.toList ++ []) M1 Q)) :
    sm_Run (d + 1) 131 38 [some (.inr (some a0)), some (.inr r1), z2, z3] [] M Q := by
  refine ru_go (t := (39, [some (.inr (some a0)), some (.inr r1), z2, z3], [.inr r1], M)) sm_a131_38 rfl rfl rfl ?_
  refine ru_go (t := (40, [some (.inr (some a0)), some (.inr r1), z2, z3], [.inr (some a0), .inr r1], M)) sm_a131_39 rfl rfl rfl ?_
  obtain ⟨h_1, h⟩ := h
  refine ru_go (t := (43, [some (.inr (some a0)), some (.inr r1), z2, z3], [.inl (sm_I M a0 7), .inr r1], M)) sm_a131_40 rfl rfl (st_getI h_1 rfl) ?_
  obtain ⟨b_2, hb_3, h⟩ := h
  rw [hb_3]
  obtain ⟨h_4, h⟩ := h
  exact ru_call (p := 46) sm_a131_43 rfl (sc_virt (Or.inl rfl) rfl rfl h_4 (Nat.le_of_ble_eq_true rfl)) rfl h
theorem bb_131_46 {d : Nat} {M : sm_M} {Q : Option sm_V → sm_M → Prop} {a0 : Nat} {r1 : Option Nat} {z2 : Option sm_V} {z3 : Option sm_V}
    (h : sm_K M a0 = 33 ∧ ∃ b_2, sm_R M a0 4 = some b_2 ∧ (1 ≤ sm_K M b_2 ∧ sm_K M b_2 % 3 ≠ 0) ∧ ∃ b_5, r1 = some b_5 ∧ sm_K M b_5 = 24 ∧ sm_Run d 109 0 (sm_ent 109 [.inr (some b_5), .inl (Int32.ofNat (sm_L M b_2))]) [] M (fun v M1 => sm_Run (d + 1) 131 55 [some (.inr (some a0)), some (.inr (some b_5)), z2, z3] (v.toList ++ []) M1 Q)) :
    sm_Run (d + 1) 131 46 [some (.inr (some a0)), some (.inr r1), z2, z3] [] M Q := by
  refine ru_go (t := (47, [some (.inr (some a0)), some (.inr r1), z2, z3], [.inr r1], M)) sm_a131_46 rfl rfl rfl ?_
  refine ru_go (t := (48, [some (.inr (some a0)), some (.inr r1), z2, z3], [.inr (some a0), .inr r1], M)) sm_a131_47 rfl rfl rfl ?_
  obtain ⟨h_1, h⟩ := h
  refine ru_go (t := (51, [some (.inr (some a0)), some (.inr r1), z2, z3], [.inr (sm_R M a0 4), .inr r1], M)) sm_a131_48 rfl rfl (st_getR h_1 rfl rfl) ?_
  obtain ⟨b_2, hb_3, h⟩ := h
  rw [hb_3]
  obtain ⟨h_4, h⟩ := h
  refine ru_go (t := (52, [some (.inr (some a0)), some (.inr r1), z2, z3], [.inl (Int32.ofNat (sm_L M b_2)), .inr r1], M)) sm_a131_51 rfl rfl (st_alen h_4) ?_
  obtain ⟨b_5, hb_6, h⟩ := h
  rw [hb_6]
  obtain ⟨h_7, h⟩ := h
  exact ru_call (p := 55) sm_a131_52 rfl (sc_virt (Or.inl rfl) rfl rfl h_7 (Nat.le_of_ble_eq_true rfl)) rfl h
theorem bb_131_55 {d : Nat} {M : sm_M} {Q : Option sm_V → sm_M → Prop} {a0 : Nat} {r1 : Option Nat} {z2 : Option sm_V} {z3 : Option sm_V}
    (h : Q none M) :
    sm_Run (d + 1) 131 55 [some (.inr (some a0)), some (.inr r1), z2, z3] [] M Q := by
  exact ru_ret sm_a131_55 (sm_rvv rfl) h
theorem bb_131_60 {d : Nat} {M : sm_M} {Q : Option sm_V → sm_M → Prop} {a0 : Nat} {r1 : Option Nat} {z2 : Option sm_V} {z3 : Option sm_V} {y0 : Int32}
    (h : sm_Run (d + 1) 131 63 [some (.inr (some a0)), some (.inr r1), some (.inl y0), some (.inl 0)] [] M Q) :
    sm_Run (d + 1) 131 60 [some (.inr (some a0)), some (.inr r1), z2, z3] [.inl y0] M Q := by
  refine ru_go (t := (61, [some (.inr (some a0)), some (.inr r1), some (.inl y0), z3], [], M)) sm_a131_60 rfl rfl rfl ?_
  refine ru_go (t := (62, [some (.inr (some a0)), some (.inr r1), some (.inl y0), z3], [.inl 0], M)) sm_a131_61 rfl rfl (st_iconst (by decide)) ?_
  refine ru_go (t := (63, [some (.inr (some a0)), some (.inr r1), some (.inl y0), some (.inl 0)], [], M)) sm_a131_62 rfl rfl rfl ?_
  exact h
theorem bb_131_63 {d : Nat} {M : sm_M} {Q : Option sm_V → sm_M → Prop} {a0 : Nat} {r1 : Option Nat} {x2 : Int32} {x3 : Int32}
    (h : ((x2 ≤ x3 → Q none M) ∧ (¬ (x2 ≤ x3) → sm_K M a0 = 33 ∧ ∃ b_3, sm_R M a0 4 = some b_3 ∧ sm_iA M b_3 ∧ sm_in_ M b_3 ((sm_I M a0 10) + x3) ∧ ∃ b_7, r1 = some b_7 ∧ sm_K M b_7 = 24 ∧ sm_Run d 106 0 (sm_ent 106 [.inr (some b_7), .inl (sm_I M b_3 ((sm_I M a0 10) + x3).toNatClampNeg)]) [] M (fun v M1 => sm_Run (d + 1) 131 83 [some (.inr (some a0)), some (.inr (some b_7)), some (.inl x2), some (.inl x3)] (v.toList ++ []) M1 Q)))) :
    sm_Run (d + 1) 131 63 [some (.inr (some a0)), some (.inr r1), some (.inl x2), some (.inl x3)] [] M Q := by
  refine ru_go (t := (64, [some (.inr (some a0)), some (.inr r1), some (.inl x2), some (.inl x3)], [.inl x3], M)) sm_a131_63 rfl rfl rfl ?_
  refine ru_go (t := (65, [some (.inr (some a0)), some (.inr r1), some (.inl x2), some (.inl x3)], [.inl x2, .inl x3], M)) sm_a131_64 rfl rfl rfl ?_
  refine ru_icmp (pc := 65) (p := 89) (p2 := 68) sm_a131_65 (by decide) rfl ⟨fun hc_1 => ?_, fun hc_1 => ?_⟩
  · have h := h.1 hc_1
    exact ru_ret sm_a131_89 (sm_rvv rfl) h
  · have h := h.2 hc_1
    refine ru_go (t := (69, [some (.inr (some a0)), some (.inr r1), some (.inl x2), some (.inl x3)], [.inr r1], M)) sm_a131_68 rfl rfl rfl ?_
    refine ru_go (t := (70, [some (.inr (some a0)), some (.inr r1), some (.inl x2), some (.inl x3)], [.inr (some a0), .inr r1], M)) sm_a131_69 rfl rfl rfl ?_
    obtain ⟨h_2, h⟩ := h
    refine ru_go (t := (73, [some (.inr (some a0)), some (.inr r1), some (.inl x2), some (.inl x3)], [.inr (sm_R M a0 4), .inr r1], M)) sm_a131_70 rfl rfl (st_getR h_2 rfl rfl) ?_
    refine ru_go (t := (74, [some (.inr (some a0)), some (.inr r1), some (.inl x2), some (.inl x3)], [.inr (some a0), .inr (sm_R M a0 4), .inr r1], M)) sm_a131_73 rfl rfl rfl ?_
    refine ru_go (t := (77, [some (.inr (some a0)), some (.inr r1), some (.inl x2), some (.inl x3)], [.inl (sm_I M a0 10), .inr (sm_R M a0 4), .inr r1], M)) sm_a131_74 rfl rfl (st_getI h_2 rfl) ?_
    refine ru_go (t := (78, [some (.inr (some a0)), some (.inr r1), some (.inl x2), some (.inl x3)], [.inl x3, .inl (sm_I M a0 10), .inr (sm_R M a0 4), .inr r1], M)) sm_a131_77 rfl rfl rfl ?_
    refine ru_go (t := (79, [some (.inr (some a0)), some (.inr r1), some (.inl x2), some (.inl x3)], [.inl ((sm_I M a0 10) + x3), .inr (sm_R M a0 4), .inr r1], M)) sm_a131_78 rfl rfl rfl ?_
    obtain ⟨b_3, hb_4, h⟩ := h
    rw [hb_4]
    obtain ⟨h_5, h⟩ := h
    obtain ⟨h_6, h⟩ := h
    refine ru_go (t := (80, [some (.inr (some a0)), some (.inr r1), some (.inl x2), some (.inl x3)], [.inl (sm_I M b_3 ((sm_I M a0 10) + x3).toNatClampNeg), .inr r1], M)) sm_a131_79 rfl rfl (st_iald h_5 h_6) ?_
    obtain ⟨b_7, hb_8, h⟩ := h
    rw [hb_8]
    obtain ⟨h_9, h⟩ := h
    exact ru_call (p := 83) sm_a131_80 rfl (sc_virt (Or.inl rfl) rfl rfl h_9 (Nat.le_of_ble_eq_true rfl)) rfl h
theorem bb_131_83 {d : Nat} {M : sm_M} {Q : Option sm_V → sm_M → Prop} {a0 : Nat} {r1 : Option Nat} {x2 : Int32} {x3 : Int32}
    (h : sm_Run (d + 1) 131 63 [some (.inr (some a0)), some (.inr r1), some (.inl x2), some (.inl (x3 + 1))] [] M Q) :
    sm_Run (d + 1) 131 83 [some (.inr (some a0)), some (.inr r1), some (.inl x2), some (.inl x3)] [] M Q := by
  refine ru_go (t := (86, [some (.inr (some a0)), some (.inr r1), some (.inl x2), some (.inl (x3 + 1))], [], M)) sm_a131_83 rfl rfl (st_iinc rfl (by decide)) ?_
  refine ru_go (t := (63, [some (.inr (some a0)), some (.inr r1), some (.inl x2), some (.inl (x3 + 1))], [], M)) sm_a131_86 rfl rfl (st_goto (pc := 86) (by decide)) ?_
  exact h

/-! WireBus$Transfer.hearAnswer:(LWireBus$Packet;)Z -/
theorem sm_a132_0 : sm_at 132 0 = some (.aload_n 1, 1, (0, 0, 0, 0)) := by decide +kernel
theorem sm_a132_1 : sm_at 132 1 = some (.ifnonnull 7, 3, (0, 0, 0, 0)) := by decide +kernel
theorem sm_a132_4 : sm_at 132 4 = some (.iconst (-1), 1, (0, 0, 0, 0)) := by decide +kernel
theorem sm_a132_5 : sm_at 132 5 = some (.goto 7, 3, (0, 0, 0, 0)) := by decide +kernel
theorem sm_a132_8 : sm_at 132 8 = some (.aload_n 1, 1, (0, 0, 0, 0)) := by decide +kernel
theorem sm_a132_9 : sm_at 132 9 = some (.getfield 94, 3, (7, 1, 1, 149)) := by decide +kernel
theorem sm_a132_12 : sm_at 132 12 = some (.istore_n 2, 1, (0, 0, 0, 0)) := by decide +kernel
theorem sm_a132_13 : sm_at 132 13 = some (.aload_n 0, 1, (0, 0, 0, 0)) := by decide +kernel
theorem sm_a132_14 : sm_at 132 14 = some (.invokevirtual 60, 3, (10, 126, 10, 1019)) := by decide +kernel
theorem sm_a132_17 : sm_at 132 17 = some (.istore_n 3, 1, (0, 0, 0, 0)) := by decide +kernel
theorem sm_a132_18 : sm_at 132 18 = some (.iload_n 3, 1, (0, 0, 0, 0)) := by decide +kernel
theorem sm_a132_19 : sm_at 132 19 = some (.ifCond .eq 20, 3, (0, 0, 0, 0)) := by decide +kernel
theorem sm_a132_22 : sm_at 132 22 = some (.aload_n 1, 1, (0, 0, 0, 0)) := by decide +kernel
theorem sm_a132_23 : sm_at 132 23 = some (.ifnull 16, 3, (0, 0, 0, 0)) := by decide +kernel
theorem sm_a132_26 : sm_at 132 26 = some (.iload_n 2, 1, (0, 0, 0, 0)) := by decide +kernel
theorem sm_a132_27 : sm_at 132 27 = some (.invokestatic 97, 3, (13, 24, 0, 1058)) := by decide +kernel
theorem sm_a132_30 : sm_at 132 30 = some (.ifCond .eq 9, 3, (0, 0, 0, 0)) := by decide +kernel
theorem sm_a132_33 : sm_at 132 33 = some (.aload_n 0, 1, (0, 0, 0, 0)) := by decide +kernel
theorem sm_a132_34 : sm_at 132 34 = some (.aload_n 1, 1, (0, 0, 0, 0)) := by decide +kernel
theorem sm_a132_35 : sm_at 132 35 = some (.invokevirtual 101, 3, (10, 136, 10, 1059)) := by decide +kernel
theorem sm_a132_38 : sm_at 132 38 = some (.ireturn, 1, (0, 0, 0, 0)) := by decide +kernel
theorem sm_a132_39 : sm_at 132 39 = some (.iload_n 3, 1, (0, 0, 0, 0)) := by decide +kernel
theorem sm_a132_40 : sm_at 132 40 = some (.ifCond .ne 20, 3, (0, 0, 0, 0)) := by decide +kernel
theorem sm_a132_43 : sm_at 132 43 = some (.iload_n 2, 1, (0, 0, 0, 0)) := by decide +kernel
theorem sm_a132_44 : sm_at 132 44 = some (.iconst 2, 1, (0, 0, 0, 0)) := by decide +kernel
theorem sm_a132_45 : sm_at 132 45 = some (.if_icmp .ne 15, 3, (0, 0, 0, 0)) := by decide +kernel
theorem sm_a132_48 : sm_at 132 48 = some (.aload_n 0, 1, (0, 0, 0, 0)) := by decide +kernel
theorem sm_a132_49 : sm_at 132 49 = some (.iconst 0, 1, (0, 0, 0, 0)) := by decide +kernel
theorem sm_a132_50 : sm_at 132 50 = some (.putfield 105, 3, (10, 12, 0, 648)) := by decide +kernel
theorem sm_a132_53 : sm_at 132 53 = some (.aload_n 0, 1, (0, 0, 0, 0)) := by decide +kernel
theorem sm_a132_54 : sm_at 132 54 = some (.invokevirtual 108, 3, (10, 134, 10, 1073)) := by decide +kernel
theorem sm_a132_57 : sm_at 132 57 = some (.goto 52, 3, (0, 0, 0, 0)) := by decide +kernel
theorem sm_a132_60 : sm_at 132 60 = some (.aload_n 0, 1, (0, 0, 0, 0)) := by decide +kernel
theorem sm_a132_61 : sm_at 132 61 = some (.getfield 11, 3, (10, 9, 0, 640)) := by decide +kernel
theorem sm_a132_64 : sm_at 132 64 = some (.ifCond .eq 41, 3, (0, 0, 0, 0)) := by decide +kernel
theorem sm_a132_67 : sm_at 132 67 = some (.iload_n 2, 1, (0, 0, 0, 0)) := by decide +kernel
theorem sm_a132_68 : sm_at 132 68 = some (.bipush 10, 2, (0, 0, 0, 0)) := by decide +kernel
theorem sm_a132_70 : sm_at 132 70 = some (.if_icmp .eq 9, 3, (0, 0, 0, 0)) := by decide +kernel
theorem sm_a132_73 : sm_at 132 73 = some (.iload_n 2, 1, (0, 0, 0, 0)) := by decide +kernel
theorem sm_a132_74 : sm_at 132 74 = some (.bipush 14, 2, (0, 0, 0, 0)) := by decide +kernel
theorem sm_a132_76 : sm_at 132 76 = some (.if_icmp .ne 29, 3, (0, 0, 0, 0)) := by decide +kernel
theorem sm_a132_79 : sm_at 132 79 = some (.aload_n 0, 1, (0, 0, 0, 0)) := by decide +kernel
theorem sm_a132_80 : sm_at 132 80 = some (.iconst 0, 1, (0, 0, 0, 0)) := by decide +kernel
theorem sm_a132_81 : sm_at 132 81 = some (.putfield 105, 3, (10, 12, 0, 648)) := by decide +kernel
theorem sm_a132_84 : sm_at 132 84 = some (.aload_n 0, 1, (0, 0, 0, 0)) := by decide +kernel
theorem sm_a132_85 : sm_at 132 85 = some (.iload_n 2, 1, (0, 0, 0, 0)) := by decide +kernel
theorem sm_a132_86 : sm_at 132 86 = some (.bipush 14, 2, (0, 0, 0, 0)) := by decide +kernel
theorem sm_a132_88 : sm_at 132 88 = some (.if_icmp .ne 7, 3, (0, 0, 0, 0)) := by decide +kernel
theorem sm_a132_91 : sm_at 132 91 = some (.iconst 2, 1, (0, 0, 0, 0)) := by decide +kernel
theorem sm_a132_92 : sm_at 132 92 = some (.goto 7, 3, (0, 0, 0, 0)) := by decide +kernel
theorem sm_a132_95 : sm_at 132 95 = some (.aload_n 0, 1, (0, 0, 0, 0)) := by decide +kernel
theorem sm_a132_96 : sm_at 132 96 = some (.getfield 15, 3, (10, 11, 0, 645)) := by decide +kernel
theorem sm_a132_99 : sm_at 132 99 = some (.putfield 15, 3, (10, 11, 0, 645)) := by decide +kernel
theorem sm_a132_102 : sm_at 132 102 = some (.goto 7, 3, (0, 0, 0, 0)) := by decide +kernel
theorem sm_a132_105 : sm_at 132 105 = some (.aload_n 0, 1, (0, 0, 0, 0)) := by decide +kernel
theorem sm_a132_106 : sm_at 132 106 = some (.invokevirtual 111, 3, (10, 133, 10, 1063)) := by decide +kernel
theorem sm_a132_109 : sm_at 132 109 = some (.iconst 0, 1, (0, 0, 0, 0)) := by decide +kernel
theorem sm_a132_110 : sm_at 132 110 = some (.ireturn, 1, (0, 0, 0, 0)) := by decide +kernel
theorem bb_132_0 {d : Nat} {M : sm_M} {Q : Option sm_V → sm_M → Prop} {a0 : Nat} {r1 : Option Nat} {z2 : Option sm_V} {z3 : Option sm_V}
    (h : ((r1 = none → sm_K M a0 = 33 ∧ sm_Run d 126 0 (sm_ent 126 [.inr (some a0)]) [] M (fun v M1 => sm_Run (d + 1) 132 17 [some (.inr (some a0)), some (.inr none), some (.inl (-1)), z3] (v.toList ++ []) M1 Q)) ∧ (∀ b_1, r1 = some b_1 → sm_K M b_1 = 24 ∧ sm_K M a0 = 33 ∧ sm_Run d 126 0 (sm_ent 126 [.inr (some a0)]) [] M (fun v M1 => sm_Run (d + 1) 132 17 [some (.inr (some a0)), some (.inr (some b_1)), some (.inl (sm_I M b_1 1)), z3] (v.toList ++ []) M1 Q)))) :
    sm_Run (d + 1) 132 0 [some (.inr (some a0)), some (.inr r1), z2, z3] [] M Q := by
  refine ru_go (t := (1, [some (.inr (some a0)), some (.inr r1), z2, z3], [.inr r1], M)) sm_a132_0 rfl rfl rfl ?_
  refine ru_ifnonnull (pc := 1) (p := 8) (p2 := 4) sm_a132_1 (by decide) rfl ⟨fun b_1 hc => ?_, fun hc => ?_⟩
  · have h := h.2 b_1 hc
    try rw [hc]
    refine ru_go (t := (9, [some (.inr (some a0)), some (.inr (some b_1)), z2, z3], [.inr (some b_1)], M)) sm_a132_8 rfl rfl rfl ?_
    obtain ⟨h_4, h⟩ := h
    refine ru_go (t := (12, [some (.inr (some a0)), some (.inr (some b_1)), z2, z3], [.inl (sm_I M b_1 1)], M)) sm_a132_9 rfl rfl (st_getI h_4 rfl) ?_
    refine ru_go (t := (13, [some (.inr (some a0)), some (.inr (some b_1)), some (.inl (sm_I M b_1 1)), z3], [], M)) sm_a132_12 rfl rfl rfl ?_
    refine ru_go (t := (14, [some (.inr (some a0)), some (.inr (some b_1)), some (.inl (sm_I M b_1 1)), z3], [.inr (some a0)], M)) sm_a132_13 rfl rfl rfl ?_
    obtain ⟨h_5, h⟩ := h
    exact ru_call (p := 17) sm_a132_14 rfl (sc_virt (Or.inl rfl) rfl rfl h_5 (Nat.le_of_ble_eq_true rfl)) rfl h
  · have h := h.1 hc
    try rw [hc]
    refine ru_go (t := (5, [some (.inr (some a0)), some (.inr none), z2, z3], [.inl (-1)], M)) sm_a132_4 rfl rfl (st_iconst (by decide)) ?_
    refine ru_go (t := (12, [some (.inr (some a0)), some (.inr none), z2, z3], [.inl (-1)], M)) sm_a132_5 rfl rfl (st_goto (pc := 5) (by decide)) ?_
    refine ru_go (t := (13, [some (.inr (some a0)), some (.inr none), some (.inl (-1)), z3], [], M)) sm_a132_12 rfl rfl rfl ?_
    refine ru_go (t := (14, [some (.inr (some a0)), some (.inr none), some (.inl (-1)), z3], [.inr (some a0)], M)) sm_a132_13 rfl rfl rfl ?_
    obtain ⟨h_3, h⟩ := h
    exact ru_call (p := 17) sm_a132_14 rfl (sc_virt (Or.inl rfl) rfl rfl h_3 (Nat.le_of_ble_eq_true rfl)) rfl h
theorem bb_132_17 {d : Nat} {M : sm_M} {Q : Option sm_V → sm_M → Prop} {a0 : Nat} {r1 : Option Nat} {x2 : Int32} {z3 : Option sm_V} {y0 : Int32}
    (h : ((y0 = 0 → sm_Run (d + 1) 132 39 [some (.inr (some a0)), some (.inr r1), some (.inl x2), some (.inl y0)] [] M Q) ∧ (¬ (y0 = 0) → ((r1 = none → sm_Run (d + 1) 132 39 [some (.inr (some a0)), some (.inr none), some (.inl x2), some (.inl y0)] [] M Q) ∧ (∀ b_2, r1 = some b_2 → sm_Run d 24 0 (sm_ent 24 [.inl x2]) [] M (fun v M1 => sm_Run (d + 1) 132 30 [some (.inr (some a0)), some (.inr (some b_2)), some (.inl x2), some (.inl y0)] (v.toList ++ []) M1 Q)))))) :
    sm_Run (d + 1) 132 17 [some (.inr (some a0)), some (.inr r1), some (.inl x2), z3] [.inl y0] M Q := by
  refine ru_go (t := (18, [some (.inr (some a0)), some (.inr r1), some (.inl x2), some (.inl y0)], [], M)) sm_a132_17 rfl rfl rfl ?_
  refine ru_go (t := (19, [some (.inr (some a0)), some (.inr r1), some (.inl x2), some (.inl y0)], [.inl y0], M)) sm_a132_18 rfl rfl rfl ?_
  refine ru_if (pc := 19) (p := 39) (p2 := 22) sm_a132_19 (by decide) rfl ⟨fun hc_1 => ?_, fun hc_1 => ?_⟩
  · have h := h.1 hc_1
    exact h
  · have h := h.2 hc_1
    refine ru_go (t := (23, [some (.inr (some a0)), some (.inr r1), some (.inl x2), some (.inl y0)], [.inr r1], M)) sm_a132_22 rfl rfl rfl ?_
    refine ru_ifnull (pc := 23) (p := 39) (p2 := 26) sm_a132_23 (by decide) rfl ⟨fun hc => ?_, fun b_2 hc => ?_⟩
    · have h := h.1 hc
      try rw [hc]
      exact h
    · have h := h.2 b_2 hc
      try rw [hc]
      refine ru_go (t := (27, [some (.inr (some a0)), some (.inr (some b_2)), some (.inl x2), some (.inl y0)], [.inl x2], M)) sm_a132_26 rfl rfl rfl ?_
      exact ru_call (p := 30) sm_a132_27 rfl (sc_stat (Or.inr rfl) (Nat.le_of_ble_eq_true rfl) rfl rfl (Nat.le_of_ble_eq_true rfl)) rfl h
theorem bb_132_30 {d : Nat} {M : sm_M} {Q : Option sm_V → sm_M → Prop} {a0 : Nat} {r1 : Option Nat} {x2 : Int32} {x3 : Int32} {y0 : Int32}
    (h : ((y0 = 0 → sm_Run (d + 1) 132 39 [some (.inr (some a0)), some (.inr r1), some (.inl x2), some (.inl x3)] [] M Q) ∧ (¬ (y0 = 0) → sm_K M a0 = 33 ∧ sm_Run d 136 0 (sm_ent 136 [.inr (some a0), .inr r1]) [] M (fun v M1 => sm_Run (d + 1) 132 38 [some (.inr (some a0)), some (.inr r1), some (.inl x2), some (.inl x3)] (v.toList ++ []) M1 Q)))) :
    sm_Run (d + 1) 132 30 [some (.inr (some a0)), some (.inr r1), some (.inl x2), some (.inl x3)] [.inl y0] M Q := by
  refine ru_if (pc := 30) (p := 39) (p2 := 33) sm_a132_30 (by decide) rfl ⟨fun hc_1 => ?_, fun hc_1 => ?_⟩
  · have h := h.1 hc_1
    exact h
  · have h := h.2 hc_1
    refine ru_go (t := (34, [some (.inr (some a0)), some (.inr r1), some (.inl x2), some (.inl x3)], [.inr (some a0)], M)) sm_a132_33 rfl rfl rfl ?_
    refine ru_go (t := (35, [some (.inr (some a0)), some (.inr r1), some (.inl x2), some (.inl x3)], [.inr r1, .inr (some a0)], M)) sm_a132_34 rfl rfl rfl ?_
    obtain ⟨h_2, h⟩ := h
    exact ru_call (p := 38) sm_a132_35 rfl (sc_virt (Or.inl rfl) rfl rfl h_2 (Nat.le_of_ble_eq_true rfl)) rfl h
theorem bb_132_38 {d : Nat} {M : sm_M} {Q : Option sm_V → sm_M → Prop} {a0 : Nat} {r1 : Option Nat} {x2 : Int32} {x3 : Int32} {y0 : Int32}
    (h : sm_fit .boolean y0 = true ∧ Q (some (.inl y0)) M) :
    sm_Run (d + 1) 132 38 [some (.inr (some a0)), some (.inr r1), some (.inl x2), some (.inl x3)] [.inl y0] M Q := by
  obtain ⟨h_1, h⟩ := h
  exact ru_ret sm_a132_38 (sm_rvz rfl h_1) h
theorem bb_132_39 {d : Nat} {M : sm_M} {Q : Option sm_V → sm_M → Prop} {a0 : Nat} {r1 : Option Nat} {x2 : Int32} {x3 : Int32}
    (h : ((¬ x3 = 0 → sm_Run (d + 1) 132 60 [some (.inr (some a0)), some (.inr r1), some (.inl x2), some (.inl x3)] [] M Q) ∧ (¬ (¬ x3 = 0) → ((¬ x2 = 2 → sm_Run (d + 1) 132 60 [some (.inr (some a0)), some (.inr r1), some (.inl x2), some (.inl x3)] [] M Q) ∧ (¬ (¬ x2 = 2) → sm_K M a0 = 33 ∧ sm_Run d 134 0 (sm_ent 134 [.inr (some a0)]) [] (sm_putI M a0 12 0) (fun v M1 => sm_Run (d + 1) 132 57 [some (.inr (some a0)), some (.inr r1), some (.inl x2), some (.inl x3)] (v.toList ++ []) M1 Q)))))) :
    sm_Run (d + 1) 132 39 [some (.inr (some a0)), some (.inr r1), some (.inl x2), some (.inl x3)] [] M Q := by
  refine ru_go (t := (40, [some (.inr (some a0)), some (.inr r1), some (.inl x2), some (.inl x3)], [.inl x3], M)) sm_a132_39 rfl rfl rfl ?_
  refine ru_if (pc := 40) (p := 60) (p2 := 43) sm_a132_40 (by decide) rfl ⟨fun hc_1 => ?_, fun hc_1 => ?_⟩
  · have h := h.1 hc_1
    exact h
  · have h := h.2 hc_1
    refine ru_go (t := (44, [some (.inr (some a0)), some (.inr r1), some (.inl x2), some (.inl x3)], [.inl x2], M)) sm_a132_43 rfl rfl rfl ?_
    refine ru_go (t := (45, [some (.inr (some a0)), some (.inr r1), some (.inl x2), some (.inl x3)], [.inl 2, .inl x2], M)) sm_a132_44 rfl rfl (st_iconst (by decide)) ?_
    refine ru_icmp (pc := 45) (p := 60) (p2 := 48) sm_a132_45 (by decide) rfl ⟨fun hc_2 => ?_, fun hc_2 => ?_⟩
    · have h := h.1 hc_2
      exact h
    · have h := h.2 hc_2
      refine ru_go (t := (49, [some (.inr (some a0)), some (.inr r1), some (.inl x2), some (.inl x3)], [.inr (some a0)], M)) sm_a132_48 rfl rfl rfl ?_
      refine ru_go (t := (50, [some (.inr (some a0)), some (.inr r1), some (.inl x2), some (.inl x3)], [.inl 0, .inr (some a0)], M)) sm_a132_49 rfl rfl (st_iconst (by decide)) ?_
      obtain ⟨h_3, h⟩ := h
      refine ru_go (t := (53, [some (.inr (some a0)), some (.inr r1), some (.inl x2), some (.inl x3)], [], sm_putI M a0 12 0)) sm_a132_50 rfl rfl (st_putI h_3 rfl) ?_
      refine ru_go (t := (54, [some (.inr (some a0)), some (.inr r1), some (.inl x2), some (.inl x3)], [.inr (some a0)], sm_putI M a0 12 0)) sm_a132_53 rfl rfl rfl ?_
      exact ru_call (p := 57) sm_a132_54 rfl (sc_virt (Or.inl rfl) rfl rfl h_3 (Nat.le_of_ble_eq_true rfl)) rfl h
theorem bb_132_57 {d : Nat} {M : sm_M} {Q : Option sm_V → sm_M → Prop} {a0 : Nat} {r1 : Option Nat} {x2 : Int32} {x3 : Int32}
    (h : Q (some (.inl 0)) M) :
    sm_Run (d + 1) 132 57 [some (.inr (some a0)), some (.inr r1), some (.inl x2), some (.inl x3)] [] M Q := by
  refine ru_go (t := (109, [some (.inr (some a0)), some (.inr r1), some (.inl x2), some (.inl x3)], [], M)) sm_a132_57 rfl rfl (st_goto (pc := 57) (by decide)) ?_
  refine ru_go (t := (110, [some (.inr (some a0)), some (.inr r1), some (.inl x2), some (.inl x3)], [.inl 0], M)) sm_a132_109 rfl rfl (st_iconst (by decide)) ?_
  exact ru_ret sm_a132_110 (sm_rvz rfl (by decide)) h
theorem bb_132_60 {d : Nat} {M : sm_M} {Q : Option sm_V → sm_M → Prop} {a0 : Nat} {r1 : Option Nat} {x2 : Int32} {x3 : Int32}
    (h : sm_K M a0 = 33 ∧ (((sm_I M a0 9) = 0 → sm_Run d 133 0 (sm_ent 133 [.inr (some a0)]) [] M (fun v M1 => sm_Run (d + 1) 132 109 [some (.inr (some a0)), some (.inr r1), some (.inl x2), some (.inl x3)] (v.toList ++ []) M1 Q)) ∧ (¬ ((sm_I M a0 9) = 0) → ((x2 = 10 → sm_Run (d + 1) 132 79 [some (.inr (some a0)), some (.inr r1), some (.inl x2), some (.inl x3)] [] M Q) ∧ (¬ (x2 = 10) → ((¬ x2 = 14 → sm_Run d 133 0 (sm_ent 133 [.inr (some a0)]) [] M (fun v M1 => sm_Run (d + 1) 132 109 [some (.inr (some a0)), some (.inr r1), some (.inl x2), some (.inl x3)] (v.toList ++ []) M1 Q)) ∧ (¬ (¬ x2 = 14) → sm_Run (d + 1) 132 79 [some (.inr (some a0)), some (.inr r1), some (.inl x2), some (.inl x3)] [] M Q))))))) :
    sm_Run (d + 1) 132 60 [some (.inr (some a0)), some (.inr r1), some (.inl x2), some (.inl x3)] [] M Q := by
  refine ru_go (t := (61, [some (.inr (some a0)), some (.inr r1), some (.inl x2), some (.inl x3)], [.inr (some a0)], M)) sm_a132_60 rfl rfl rfl ?_
  obtain ⟨h_1, h⟩ := h
  refine ru_go (t := (64, [some (.inr (some a0)), some (.inr r1), some (.inl x2), some (.inl x3)], [.inl (sm_I M a0 9)], M)) sm_a132_61 rfl rfl (st_getI h_1 rfl) ?_
  refine ru_if (pc := 64) (p := 105) (p2 := 67) sm_a132_64 (by decide) rfl ⟨fun hc_2 => ?_, fun hc_2 => ?_⟩
  · have h := h.1 hc_2
    refine ru_go (t := (106, [some (.inr (some a0)), some (.inr r1), some (.inl x2), some (.inl x3)], [.inr (some a0)], M)) sm_a132_105 rfl rfl rfl ?_
    exact ru_call (p := 109) sm_a132_106 rfl (sc_virt (Or.inl rfl) rfl rfl h_1 (Nat.le_of_ble_eq_true rfl)) rfl h
  · have h := h.2 hc_2
    refine ru_go (t := (68, [some (.inr (some a0)), some (.inr r1), some (.inl x2), some (.inl x3)], [.inl x2], M)) sm_a132_67 rfl rfl rfl ?_
    refine ru_go (t := (70, [some (.inr (some a0)), some (.inr r1), some (.inl x2), some (.inl x3)], [.inl 10, .inl x2], M)) sm_a132_68 rfl rfl (st_bipush (by decide)) ?_
    refine ru_icmp (pc := 70) (p := 79) (p2 := 73) sm_a132_70 (by decide) rfl ⟨fun hc_3 => ?_, fun hc_3 => ?_⟩
    · have h := h.1 hc_3
      exact h
    · have h := h.2 hc_3
      refine ru_go (t := (74, [some (.inr (some a0)), some (.inr r1), some (.inl x2), some (.inl x3)], [.inl x2], M)) sm_a132_73 rfl rfl rfl ?_
      refine ru_go (t := (76, [some (.inr (some a0)), some (.inr r1), some (.inl x2), some (.inl x3)], [.inl 14, .inl x2], M)) sm_a132_74 rfl rfl (st_bipush (by decide)) ?_
      refine ru_icmp (pc := 76) (p := 105) (p2 := 79) sm_a132_76 (by decide) rfl ⟨fun hc_4 => ?_, fun hc_4 => ?_⟩
      · have h := h.1 hc_4
        refine ru_go (t := (106, [some (.inr (some a0)), some (.inr r1), some (.inl x2), some (.inl x3)], [.inr (some a0)], M)) sm_a132_105 rfl rfl rfl ?_
        exact ru_call (p := 109) sm_a132_106 rfl (sc_virt (Or.inl rfl) rfl rfl h_1 (Nat.le_of_ble_eq_true rfl)) rfl h
      · have h := h.2 hc_4
        exact h
theorem bb_132_79 {d : Nat} {M : sm_M} {Q : Option sm_V → sm_M → Prop} {a0 : Nat} {r1 : Option Nat} {x2 : Int32} {x3 : Int32}
    (h : sm_K M a0 = 33 ∧ ((¬ x2 = 14 → Q (some (.inl 0)) (sm_putI (sm_putI M a0 12 0) a0 11 (sm_I (sm_putI M a0 12 0) a0 11))) ∧ (¬ (¬ x2 = 14) → Q (some (.inl 0)) (sm_putI (sm_putI M a0 12 0) a0 11 2)))) :
    sm_Run (d + 1) 132 79 [some (.inr (some a0)), some (.inr r1), some (.inl x2), some (.inl x3)] [] M Q := by
  refine ru_go (t := (80, [some (.inr (some a0)), some (.inr r1), some (.inl x2), some (.inl x3)], [.inr (some a0)], M)) sm_a132_79 rfl rfl rfl ?_
  refine ru_go (t := (81, [some (.inr (some a0)), some (.inr r1), some (.inl x2), some (.inl x3)], [.inl 0, .inr (some a0)], M)) sm_a132_80 rfl rfl (st_iconst (by decide)) ?_
  obtain ⟨h_1, h⟩ := h
  refine ru_go (t := (84, [some (.inr (some a0)), some (.inr r1), some (.inl x2), some (.inl x3)], [], sm_putI M a0 12 0)) sm_a132_81 rfl rfl (st_putI h_1 rfl) ?_
  refine ru_go (t := (85, [some (.inr (some a0)), some (.inr r1), some (.inl x2), some (.inl x3)], [.inr (some a0)], sm_putI M a0 12 0)) sm_a132_84 rfl rfl rfl ?_
  refine ru_go (t := (86, [some (.inr (some a0)), some (.inr r1), some (.inl x2), some (.inl x3)], [.inl x2, .inr (some a0)], sm_putI M a0 12 0)) sm_a132_85 rfl rfl rfl ?_
  refine ru_go (t := (88, [some (.inr (some a0)), some (.inr r1), some (.inl x2), some (.inl x3)], [.inl 14, .inl x2, .inr (some a0)], sm_putI M a0 12 0)) sm_a132_86 rfl rfl (st_bipush (by decide)) ?_
  refine ru_icmp (pc := 88) (p := 95) (p2 := 91) sm_a132_88 (by decide) rfl ⟨fun hc_2 => ?_, fun hc_2 => ?_⟩
  · have h := h.1 hc_2
    refine ru_go (t := (96, [some (.inr (some a0)), some (.inr r1), some (.inl x2), some (.inl x3)], [.inr (some a0), .inr (some a0)], sm_putI M a0 12 0)) sm_a132_95 rfl rfl rfl ?_
    refine ru_go (t := (99, [some (.inr (some a0)), some (.inr r1), some (.inl x2), some (.inl x3)], [.inl (sm_I (sm_putI M a0 12 0) a0 11), .inr (some a0)], sm_putI M a0 12 0)) sm_a132_96 rfl rfl (st_getI h_1 rfl) ?_
    refine ru_go (t := (102, [some (.inr (some a0)), some (.inr r1), some (.inl x2), some (.inl x3)], [], sm_putI (sm_putI M a0 12 0) a0 11 (sm_I (sm_putI M a0 12 0) a0 11))) sm_a132_99 rfl rfl (st_putI h_1 rfl) ?_
    refine ru_go (t := (109, [some (.inr (some a0)), some (.inr r1), some (.inl x2), some (.inl x3)], [], sm_putI (sm_putI M a0 12 0) a0 11 (sm_I (sm_putI M a0 12 0) a0 11))) sm_a132_102 rfl rfl (st_goto (pc := 102) (by decide)) ?_
    refine ru_go (t := (110, [some (.inr (some a0)), some (.inr r1), some (.inl x2), some (.inl x3)], [.inl 0], sm_putI (sm_putI M a0 12 0) a0 11 (sm_I (sm_putI M a0 12 0) a0 11))) sm_a132_109 rfl rfl (st_iconst (by decide)) ?_
    exact ru_ret sm_a132_110 (sm_rvz rfl (by decide)) h
  · have h := h.2 hc_2
    refine ru_go (t := (92, [some (.inr (some a0)), some (.inr r1), some (.inl x2), some (.inl x3)], [.inl 2, .inr (some a0)], sm_putI M a0 12 0)) sm_a132_91 rfl rfl (st_iconst (by decide)) ?_
    refine ru_go (t := (99, [some (.inr (some a0)), some (.inr r1), some (.inl x2), some (.inl x3)], [.inl 2, .inr (some a0)], sm_putI M a0 12 0)) sm_a132_92 rfl rfl (st_goto (pc := 92) (by decide)) ?_
    refine ru_go (t := (102, [some (.inr (some a0)), some (.inr r1), some (.inl x2), some (.inl x3)], [], sm_putI (sm_putI M a0 12 0) a0 11 2)) sm_a132_99 rfl rfl (st_putI h_1 rfl) ?_
    refine ru_go (t := (109, [some (.inr (some a0)), some (.inr r1), some (.inl x2), some (.inl x3)], [], sm_putI (sm_putI M a0 12 0) a0 11 2)) sm_a132_102 rfl rfl (st_goto (pc := 102) (by decide)) ?_
    refine ru_go (t := (110, [some (.inr (some a0)), some (.inr r1), some (.inl x2), some (.inl x3)], [.inl 0], sm_putI (sm_putI M a0 12 0) a0 11 2)) sm_a132_109 rfl rfl (st_iconst (by decide)) ?_
    exact ru_ret sm_a132_110 (sm_rvz rfl (by decide)) h
theorem bb_132_109 {d : Nat} {M : sm_M} {Q : Option sm_V → sm_M → Prop} {a0 : Nat} {r1 : Option Nat} {x2 : Int32} {x3 : Int32}
    (h : Q (some (.inl 0)) M) :
    sm_Run (d + 1) 132 109 [some (.inr (some a0)), some (.inr r1), some (.inl x2), some (.inl x3)] [] M Q := by
  refine ru_go (t := (110, [some (.inr (some a0)), some (.inr r1), some (.inl x2), some (.inl x3)], [.inl 0], M)) sm_a132_109 rfl rfl (st_iconst (by decide)) ?_
  exact ru_ret sm_a132_110 (sm_rvz rfl (by decide)) h

/-! WireBus$Transfer.countError:()V -/
theorem sm_a133_0 : sm_at 133 0 = some (.aload_n 0, 1, (0, 0, 0, 0)) := by decide +kernel
theorem sm_a133_1 : sm_at 133 1 = some (.dup, 1, (0, 0, 0, 0)) := by decide +kernel
theorem sm_a133_2 : sm_at 133 2 = some (.getfield 105, 3, (10, 12, 0, 648)) := by decide +kernel
theorem sm_a133_5 : sm_at 133 5 = some (.iconst 1, 1, (0, 0, 0, 0)) := by decide +kernel
theorem sm_a133_6 : sm_at 133 6 = some (.iadd, 1, (0, 0, 0, 0)) := by decide +kernel
theorem sm_a133_7 : sm_at 133 7 = some (.putfield 105, 3, (10, 12, 0, 648)) := by decide +kernel
theorem sm_a133_10 : sm_at 133 10 = some (.aload_n 0, 1, (0, 0, 0, 0)) := by decide +kernel
theorem sm_a133_11 : sm_at 133 11 = some (.getfield 105, 3, (10, 12, 0, 648)) := by decide +kernel
theorem sm_a133_14 : sm_at 133 14 = some (.iconst 3, 1, (0, 0, 0, 0)) := by decide +kernel
theorem sm_a133_15 : sm_at 133 15 = some (.if_icmp .lt 8, 3, (0, 0, 0, 0)) := by decide +kernel
theorem sm_a133_18 : sm_at 133 18 = some (.aload_n 0, 1, (0, 0, 0, 0)) := by decide +kernel
theorem sm_a133_19 : sm_at 133 19 = some (.iconst 3, 1, (0, 0, 0, 0)) := by decide +kernel
theorem sm_a133_20 : sm_at 133 20 = some (.putfield 15, 3, (10, 11, 0, 645)) := by decide +kernel
theorem sm_a133_23 : sm_at 133 23 = some (.return_, 1, (0, 0, 0, 0)) := by decide +kernel
theorem bb_133_0 {d : Nat} {M : sm_M} {Q : Option sm_V → sm_M → Prop} {a0 : Nat}
    (h : sm_K M a0 = 33 ∧ (((sm_I (sm_putI M a0 12 ((sm_I M a0 12) + 1)) a0 12) < 3 → Q none (sm_putI M a0 12 ((sm_I M a0 12) + 1))) ∧ (¬ ((sm_I (sm_putI M a0 12 ((sm_I M a0 12) + 1)) a0 12) < 3) → Q none (sm_putI (sm_putI M a0 12 ((sm_I M a0 12) + 1)) a0 11 3)))) :
    sm_Run d 133 0 [some (.inr (some a0))] [] M Q := by
  refine ru_go (t := (1, [some (.inr (some a0))], [.inr (some a0)], M)) sm_a133_0 rfl rfl rfl ?_
  refine ru_go (t := (2, [some (.inr (some a0))], [.inr (some a0), .inr (some a0)], M)) sm_a133_1 rfl rfl rfl ?_
  obtain ⟨h_1, h⟩ := h
  refine ru_go (t := (5, [some (.inr (some a0))], [.inl (sm_I M a0 12), .inr (some a0)], M)) sm_a133_2 rfl rfl (st_getI h_1 rfl) ?_
  refine ru_go (t := (6, [some (.inr (some a0))], [.inl 1, .inl (sm_I M a0 12), .inr (some a0)], M)) sm_a133_5 rfl rfl (st_iconst (by decide)) ?_
  refine ru_go (t := (7, [some (.inr (some a0))], [.inl ((sm_I M a0 12) + 1), .inr (some a0)], M)) sm_a133_6 rfl rfl rfl ?_
  refine ru_go (t := (10, [some (.inr (some a0))], [], sm_putI M a0 12 ((sm_I M a0 12) + 1))) sm_a133_7 rfl rfl (st_putI h_1 rfl) ?_
  refine ru_go (t := (11, [some (.inr (some a0))], [.inr (some a0)], sm_putI M a0 12 ((sm_I M a0 12) + 1))) sm_a133_10 rfl rfl rfl ?_
  refine ru_go (t := (14, [some (.inr (some a0))], [.inl (sm_I (sm_putI M a0 12 ((sm_I M a0 12) + 1)) a0 12)], sm_putI M a0 12 ((sm_I M a0 12) + 1))) sm_a133_11 rfl rfl (st_getI h_1 rfl) ?_
  refine ru_go (t := (15, [some (.inr (some a0))], [.inl 3, .inl (sm_I (sm_putI M a0 12 ((sm_I M a0 12) + 1)) a0 12)], sm_putI M a0 12 ((sm_I M a0 12) + 1))) sm_a133_14 rfl rfl (st_iconst (by decide)) ?_
  refine ru_icmp (pc := 15) (p := 23) (p2 := 18) sm_a133_15 (by decide) rfl ⟨fun hc_2 => ?_, fun hc_2 => ?_⟩
  · have h := h.1 hc_2
    exact ru_ret sm_a133_23 (sm_rvv rfl) h
  · have h := h.2 hc_2
    refine ru_go (t := (19, [some (.inr (some a0))], [.inr (some a0)], sm_putI M a0 12 ((sm_I M a0 12) + 1))) sm_a133_18 rfl rfl rfl ?_
    refine ru_go (t := (20, [some (.inr (some a0))], [.inl 3, .inr (some a0)], sm_putI M a0 12 ((sm_I M a0 12) + 1))) sm_a133_19 rfl rfl (st_iconst (by decide)) ?_
    refine ru_go (t := (23, [some (.inr (some a0))], [], sm_putI (sm_putI M a0 12 ((sm_I M a0 12) + 1)) a0 11 3)) sm_a133_20 rfl rfl (st_putI h_1 rfl) ?_
    exact ru_ret sm_a133_23 (sm_rvv rfl) h

/-! WireBus$Transfer.goOn:()V -/
theorem sm_a134_0 : sm_at 134 0 = some (.aload_n 0, 1, (0, 0, 0, 0)) := by decide +kernel
theorem sm_a134_1 : sm_at 134 1 = some (.getfield 11, 3, (10, 9, 0, 640)) := by decide +kernel
theorem sm_a134_4 : sm_at 134 4 = some (.ifCond .ne 31, 3, (0, 0, 0, 0)) := by decide +kernel
theorem sm_a134_7 : sm_at 134 7 = some (.aload_n 0, 1, (0, 0, 0, 0)) := by decide +kernel
theorem sm_a134_8 : sm_at 134 8 = some (.getfield 21, 3, (10, 1, 0, 625)) := by decide +kernel
theorem sm_a134_11 : sm_at 134 11 = some (.iconst 1, 1, (0, 0, 0, 0)) := by decide +kernel
theorem sm_a134_12 : sm_at 134 12 = some (.putfield 75, 3, (9, 5, 1, 369)) := by decide +kernel
theorem sm_a134_15 : sm_at 134 15 = some (.aload_n 0, 1, (0, 0, 0, 0)) := by decide +kernel
theorem sm_a134_16 : sm_at 134 16 = some (.aload_n 0, 1, (0, 0, 0, 0)) := by decide +kernel
theorem sm_a134_17 : sm_at 134 17 = some (.getfield 38, 3, (10, 4, 0, 630)) := by decide +kernel
theorem sm_a134_20 : sm_at 134 20 = some (.arraylength, 1, (0, 0, 0, 0)) := by decide +kernel
theorem sm_a134_21 : sm_at 134 21 = some (.ifCond .le 7, 3, (0, 0, 0, 0)) := by decide +kernel
theorem sm_a134_24 : sm_at 134 24 = some (.iconst 1, 1, (0, 0, 0, 0)) := by decide +kernel
theorem sm_a134_25 : sm_at 134 25 = some (.goto 4, 3, (0, 0, 0, 0)) := by decide +kernel
theorem sm_a134_28 : sm_at 134 28 = some (.iconst 2, 1, (0, 0, 0, 0)) := by decide +kernel
theorem sm_a134_29 : sm_at 134 29 = some (.putfield 11, 3, (10, 9, 0, 640)) := by decide +kernel
theorem sm_a134_32 : sm_at 134 32 = some (.goto 64, 3, (0, 0, 0, 0)) := by decide +kernel
theorem sm_a134_35 : sm_at 134 35 = some (.aload_n 0, 1, (0, 0, 0, 0)) := by decide +kernel
theorem sm_a134_36 : sm_at 134 36 = some (.getfield 11, 3, (10, 9, 0, 640)) := by decide +kernel
theorem sm_a134_39 : sm_at 134 39 = some (.iconst 2, 1, (0, 0, 0, 0)) := by decide +kernel
theorem sm_a134_40 : sm_at 134 40 = some (.if_icmp .ne 11, 3, (0, 0, 0, 0)) := by decide +kernel
theorem sm_a134_43 : sm_at 134 43 = some (.aload_n 0, 1, (0, 0, 0, 0)) := by decide +kernel
theorem sm_a134_44 : sm_at 134 44 = some (.iconst 1, 1, (0, 0, 0, 0)) := by decide +kernel
theorem sm_a134_45 : sm_at 134 45 = some (.putfield 15, 3, (10, 11, 0, 645)) := by decide +kernel
theorem sm_a134_48 : sm_at 134 48 = some (.goto 48, 3, (0, 0, 0, 0)) := by decide +kernel
theorem sm_a134_51 : sm_at 134 51 = some (.aload_n 0, 1, (0, 0, 0, 0)) := by decide +kernel
theorem sm_a134_52 : sm_at 134 52 = some (.dup, 1, (0, 0, 0, 0)) := by decide +kernel
theorem sm_a134_53 : sm_at 134 53 = some (.getfield 57, 3, (10, 10, 0, 642)) := by decide +kernel
theorem sm_a134_56 : sm_at 134 56 = some (.aload_n 0, 1, (0, 0, 0, 0)) := by decide +kernel
theorem sm_a134_57 : sm_at 134 57 = some (.invokevirtual 91, 3, (10, 129, 10, 1039)) := by decide +kernel
theorem sm_a134_60 : sm_at 134 60 = some (.iadd, 1, (0, 0, 0, 0)) := by decide +kernel
theorem sm_a134_61 : sm_at 134 61 = some (.putfield 57, 3, (10, 10, 0, 642)) := by decide +kernel
theorem sm_a134_64 : sm_at 134 64 = some (.aload_n 0, 1, (0, 0, 0, 0)) := by decide +kernel
theorem sm_a134_65 : sm_at 134 65 = some (.getfield 21, 3, (10, 1, 0, 625)) := by decide +kernel
theorem sm_a134_68 : sm_at 134 68 = some (.iconst 1, 1, (0, 0, 0, 0)) := by decide +kernel
theorem sm_a134_69 : sm_at 134 69 = some (.aload_n 0, 1, (0, 0, 0, 0)) := by decide +kernel
theorem sm_a134_70 : sm_at 134 70 = some (.getfield 21, 3, (10, 1, 0, 625)) := by decide +kernel
theorem sm_a134_73 : sm_at 134 73 = some (.getfield 75, 3, (9, 5, 1, 369)) := by decide +kernel
theorem sm_a134_76 : sm_at 134 76 = some (.isub, 1, (0, 0, 0, 0)) := by decide +kernel
theorem sm_a134_77 : sm_at 134 77 = some (.putfield 75, 3, (9, 5, 1, 369)) := by decide +kernel
theorem sm_a134_80 : sm_at 134 80 = some (.aload_n 0, 1, (0, 0, 0, 0)) := by decide +kernel
theorem sm_a134_81 : sm_at 134 81 = some (.getfield 57, 3, (10, 10, 0, 642)) := by decide +kernel
theorem sm_a134_84 : sm_at 134 84 = some (.aload_n 0, 1, (0, 0, 0, 0)) := by decide +kernel
theorem sm_a134_85 : sm_at 134 85 = some (.getfield 38, 3, (10, 4, 0, 630)) := by decide +kernel
theorem sm_a134_88 : sm_at 134 88 = some (.arraylength, 1, (0, 0, 0, 0)) := by decide +kernel
theorem sm_a134_89 : sm_at 134 89 = some (.if_icmp .ne 7, 3, (0, 0, 0, 0)) := by decide +kernel
theorem sm_a134_92 : sm_at 134 92 = some (.aload_n 0, 1, (0, 0, 0, 0)) := by decide +kernel
theorem sm_a134_93 : sm_at 134 93 = some (.invokevirtual 114, 3, (10, 135, 10, 1069)) := by decide +kernel
theorem sm_a134_96 : sm_at 134 96 = some (.return_, 1, (0, 0, 0, 0)) := by decide +kernel
theorem bb_134_0 {d : Nat} {M : sm_M} {Q : Option sm_V → sm_M → Prop} {a0 : Nat}
    (h : sm_K M a0 = 33 ∧ ((¬ (sm_I M a0 9) = 0 → ((¬ (sm_I M a0 9) = 2 → sm_Run d 129 0 (sm_ent 129 [.inr (some a0)]) [] M (fun v M1 => sm_Run (d + 1) 134 60 [some (.inr (some a0))] (v.toList ++ [.inl (sm_I M a0 10), .inr (some a0)]) M1 Q)) ∧ (¬ (¬ (sm_I M a0 9) = 2) → Q none (sm_putI M a0 11 1)))) ∧ (¬ (¬ (sm_I M a0 9) = 0) → ∃ b_4, sm_R M a0 1 = some b_4 ∧ sm_K M b_4 = 30 ∧ ∃ b_7, sm_R (sm_putI M b_4 5 1) a0 4 = some b_7 ∧ (1 ≤ sm_K M b_7 ∧ sm_K M b_7 % 3 ≠ 0) ∧ (((Int32.ofNat (sm_L M b_7)) ≤ 0 → Q none (sm_putI (sm_putI M b_4 5 1) a0 9 2)) ∧ (¬ ((Int32.ofNat (sm_L M b_7)) ≤ 0) → Q none (sm_putI (sm_putI M b_4 5 1) a0 9 1)))))) :
    sm_Run (d + 1) 134 0 [some (.inr (some a0))] [] M Q := by
  refine ru_go (t := (1, [some (.inr (some a0))], [.inr (some a0)], M)) sm_a134_0 rfl rfl rfl ?_
  obtain ⟨h_1, h⟩ := h
  refine ru_go (t := (4, [some (.inr (some a0))], [.inl (sm_I M a0 9)], M)) sm_a134_1 rfl rfl (st_getI h_1 rfl) ?_
  refine ru_if (pc := 4) (p := 35) (p2 := 7) sm_a134_4 (by decide) rfl ⟨fun hc_2 => ?_, fun hc_2 => ?_⟩
  · have h := h.1 hc_2
    refine ru_go (t := (36, [some (.inr (some a0))], [.inr (some a0)], M)) sm_a134_35 rfl rfl rfl ?_
    refine ru_go (t := (39, [some (.inr (some a0))], [.inl (sm_I M a0 9)], M)) sm_a134_36 rfl rfl (st_getI h_1 rfl) ?_
    refine ru_go (t := (40, [some (.inr (some a0))], [.inl 2, .inl (sm_I M a0 9)], M)) sm_a134_39 rfl rfl (st_iconst (by decide)) ?_
    refine ru_icmp (pc := 40) (p := 51) (p2 := 43) sm_a134_40 (by decide) rfl ⟨fun hc_3 => ?_, fun hc_3 => ?_⟩
    · have h := h.1 hc_3
      refine ru_go (t := (52, [some (.inr (some a0))], [.inr (some a0)], M)) sm_a134_51 rfl rfl rfl ?_
      refine ru_go (t := (53, [some (.inr (some a0))], [.inr (some a0), .inr (some a0)], M)) sm_a134_52 rfl rfl rfl ?_
      refine ru_go (t := (56, [some (.inr (some a0))], [.inl (sm_I M a0 10), .inr (some a0)], M)) sm_a134_53 rfl rfl (st_getI h_1 rfl) ?_
      refine ru_go (t := (57, [some (.inr (some a0))], [.inr (some a0), .inl (sm_I M a0 10), .inr (some a0)], M)) sm_a134_56 rfl rfl rfl ?_
      exact ru_call (p := 60) sm_a134_57 rfl (sc_virt (Or.inl rfl) rfl rfl h_1 (Nat.le_of_ble_eq_true rfl)) rfl h
    · have h := h.2 hc_3
      refine ru_go (t := (44, [some (.inr (some a0))], [.inr (some a0)], M)) sm_a134_43 rfl rfl rfl ?_
      refine ru_go (t := (45, [some (.inr (some a0))], [.inl 1, .inr (some a0)], M)) sm_a134_44 rfl rfl (st_iconst (by decide)) ?_
      refine ru_go (t := (48, [some (.inr (some a0))], [], sm_putI M a0 11 1)) sm_a134_45 rfl rfl (st_putI h_1 rfl) ?_
      refine ru_go (t := (96, [some (.inr (some a0))], [], sm_putI M a0 11 1)) sm_a134_48 rfl rfl (st_goto (pc := 48) (by decide)) ?_
      exact ru_ret sm_a134_96 (sm_rvv rfl) h
  · have h := h.2 hc_2
    refine ru_go (t := (8, [some (.inr (some a0))], [.inr (some a0)], M)) sm_a134_7 rfl rfl rfl ?_
    refine ru_go (t := (11, [some (.inr (some a0))], [.inr (sm_R M a0 1)], M)) sm_a134_8 rfl rfl (st_getR h_1 rfl rfl) ?_
    refine ru_go (t := (12, [some (.inr (some a0))], [.inl 1, .inr (sm_R M a0 1)], M)) sm_a134_11 rfl rfl (st_iconst (by decide)) ?_
    obtain ⟨b_4, hb_5, h⟩ := h
    rw [hb_5]
    obtain ⟨h_6, h⟩ := h
    refine ru_go (t := (15, [some (.inr (some a0))], [], sm_putI M b_4 5 1)) sm_a134_12 rfl rfl (st_putI h_6 rfl) ?_
    refine ru_go (t := (16, [some (.inr (some a0))], [.inr (some a0)], sm_putI M b_4 5 1)) sm_a134_15 rfl rfl rfl ?_
    refine ru_go (t := (17, [some (.inr (some a0))], [.inr (some a0), .inr (some a0)], sm_putI M b_4 5 1)) sm_a134_16 rfl rfl rfl ?_
    refine ru_go (t := (20, [some (.inr (some a0))], [.inr (sm_R (sm_putI M b_4 5 1) a0 4), .inr (some a0)], sm_putI M b_4 5 1)) sm_a134_17 rfl rfl (st_getR h_1 rfl rfl) ?_
    obtain ⟨b_7, hb_8, h⟩ := h
    rw [hb_8]
    obtain ⟨h_9, h⟩ := h
    refine ru_go (t := (21, [some (.inr (some a0))], [.inl (Int32.ofNat (sm_L M b_7)), .inr (some a0)], sm_putI M b_4 5 1)) sm_a134_20 rfl rfl (st_alen h_9) ?_
    refine ru_if (pc := 21) (p := 28) (p2 := 24) sm_a134_21 (by decide) rfl ⟨fun hc_10 => ?_, fun hc_10 => ?_⟩
    · have h := h.1 hc_10
      refine ru_go (t := (29, [some (.inr (some a0))], [.inl 2, .inr (some a0)], sm_putI M b_4 5 1)) sm_a134_28 rfl rfl (st_iconst (by decide)) ?_
      refine ru_go (t := (32, [some (.inr (some a0))], [], sm_putI (sm_putI M b_4 5 1) a0 9 2)) sm_a134_29 rfl rfl (st_putI h_1 rfl) ?_
      refine ru_go (t := (96, [some (.inr (some a0))], [], sm_putI (sm_putI M b_4 5 1) a0 9 2)) sm_a134_32 rfl rfl (st_goto (pc := 32) (by decide)) ?_
      exact ru_ret sm_a134_96 (sm_rvv rfl) h
    · have h := h.2 hc_10
      refine ru_go (t := (25, [some (.inr (some a0))], [.inl 1, .inr (some a0)], sm_putI M b_4 5 1)) sm_a134_24 rfl rfl (st_iconst (by decide)) ?_
      refine ru_go (t := (29, [some (.inr (some a0))], [.inl 1, .inr (some a0)], sm_putI M b_4 5 1)) sm_a134_25 rfl rfl (st_goto (pc := 25) (by decide)) ?_
      refine ru_go (t := (32, [some (.inr (some a0))], [], sm_putI (sm_putI M b_4 5 1) a0 9 1)) sm_a134_29 rfl rfl (st_putI h_1 rfl) ?_
      refine ru_go (t := (96, [some (.inr (some a0))], [], sm_putI (sm_putI M b_4 5 1) a0 9 1)) sm_a134_32 rfl rfl (st_goto (pc := 32) (by decide)) ?_
      exact ru_ret sm_a134_96 (sm_rvv rfl) h
theorem bb_134_60 {d : Nat} {M : sm_M} {Q : Option sm_V → sm_M → Prop} {a0 : Nat} {y0 : Int32} {y1 : Int32} {b2 : Nat}
    (h : sm_K M b2 = 33 ∧ sm_K M a0 = 33 ∧ ∃ b_3, sm_R (sm_putI M b2 10 (y1 + y0)) a0 1 = some b_3 ∧ sm_K M b_3 = 30 ∧ ∃ b_6, sm_R (sm_putI (sm_putI M b2 10 (y1 + y0)) b_3 5 (1 - (sm_I (sm_putI M b2 10 (y1 + y0)) b_3 5))) a0 4 = some b_6 ∧ (1 ≤ sm_K M b_6 ∧ sm_K M b_6 % 3 ≠ 0) ∧ ((¬ (sm_I (sm_putI (sm_putI M b2 10 (y1 + y0)) b_3 5 (1 - (sm_I (sm_putI M b2 10 (y1 + y0)) b_3 5))) a0 10) = (Int32.ofNat (sm_L M b_6)) → Q none (sm_putI (sm_putI M b2 10 (y1 + y0)) b_3 5 (1 - (sm_I (sm_putI M b2 10 (y1 + y0)) b_3 5)))) ∧ (¬ (¬ (sm_I (sm_putI (sm_putI M b2 10 (y1 + y0)) b_3 5 (1 - (sm_I (sm_putI M b2 10 (y1 + y0)) b_3 5))) a0 10) = (Int32.ofNat (sm_L M b_6))) → sm_Run d 135 0 (sm_ent 135 [.inr (some a0)]) [] (sm_putI (sm_putI M b2 10 (y1 + y0)) b_3 5 (1 - (sm_I (sm_putI M b2 10 (y1 + y0)) b_3 5))) (fun v M1 => sm_Run (d + 1) 134 96 [some (.inr (some a0))] (v.toList ++ []) M1 Q)))) :
    sm_Run (d + 1) 134 60 [some (.inr (some a0))] [.inl y0, .inl y1, .inr (some b2)] M Q := by
  refine ru_go (t := (61, [some (.inr (some a0))], [.inl (y1 + y0), .inr (some b2)], M)) sm_a134_60 rfl rfl rfl ?_
  obtain ⟨h_1, h⟩ := h
  refine ru_go (t := (64, [some (.inr (some a0))], [], sm_putI M b2 10 (y1 + y0))) sm_a134_61 rfl rfl (st_putI h_1 rfl) ?_
  refine ru_go (t := (65, [some (.inr (some a0))], [.inr (some a0)], sm_putI M b2 10 (y1 + y0))) sm_a134_64 rfl rfl rfl ?_
  obtain ⟨h_2, h⟩ := h
  refine ru_go (t := (68, [some (.inr (some a0))], [.inr (sm_R (sm_putI M b2 10 (y1 + y0)) a0 1)], sm_putI M b2 10 (y1 + y0))) sm_a134_65 rfl rfl (st_getR h_2 rfl rfl) ?_
  refine ru_go (t := (69, [some (.inr (some a0))], [.inl 1, .inr (sm_R (sm_putI M b2 10 (y1 + y0)) a0 1)], sm_putI M b2 10 (y1 + y0))) sm_a134_68 rfl rfl (st_iconst (by decide)) ?_
  refine ru_go (t := (70, [some (.inr (some a0))], [.inr (some a0), .inl 1, .inr (sm_R (sm_putI M b2 10 (y1 + y0)) a0 1)], sm_putI M b2 10 (y1 + y0))) sm_a134_69 rfl rfl rfl ?_
  refine ru_go (t := (73, [some (.inr (some a0))], [.inr (sm_R (sm_putI M b2 10 (y1 + y0)) a0 1), .inl 1, .inr (sm_R (sm_putI M b2 10 (y1 + y0)) a0 1)], sm_putI M b2 10 (y1 + y0))) sm_a134_70 rfl rfl (st_getR h_2 rfl rfl) ?_
  obtain ⟨b_3, hb_4, h⟩ := h
  rw [hb_4]
  obtain ⟨h_5, h⟩ := h
  refine ru_go (t := (76, [some (.inr (some a0))], [.inl (sm_I (sm_putI M b2 10 (y1 + y0)) b_3 5), .inl 1, .inr (some b_3)], sm_putI M b2 10 (y1 + y0))) sm_a134_73 rfl rfl (st_getI h_5 rfl) ?_
  refine ru_go (t := (77, [some (.inr (some a0))], [.inl (1 - (sm_I (sm_putI M b2 10 (y1 + y0)) b_3 5)), .inr (some b_3)], sm_putI M b2 10 (y1 + y0))) sm_a134_76 rfl rfl rfl ?_
  refine ru_go (t := (80, [some (.inr (some a0))], [], sm_putI (sm_putI M b2 10 (y1 + y0)) b_3 5 (1 - (sm_I (sm_putI M b2 10 (y1 + y0)) b_3 5)))) sm_a134_77 rfl rfl (st_putI h_5 rfl) ?_
  refine ru_go (t := (81, [some (.inr (some a0))], [.inr (some a0)], sm_putI (sm_putI M b2 10 (y1 + y0)) b_3 5 (1 - (sm_I (sm_putI M b2 10 (y1 + y0)) b_3 5)))) sm_a134_80 rfl rfl rfl ?_
  refine ru_go (t := (84, [some (.inr (some a0))], [.inl (sm_I (sm_putI (sm_putI M b2 10 (y1 + y0)) b_3 5 (1 - (sm_I (sm_putI M b2 10 (y1 + y0)) b_3 5))) a0 10)], sm_putI (sm_putI M b2 10 (y1 + y0)) b_3 5 (1 - (sm_I (sm_putI M b2 10 (y1 + y0)) b_3 5)))) sm_a134_81 rfl rfl (st_getI h_2 rfl) ?_
  refine ru_go (t := (85, [some (.inr (some a0))], [.inr (some a0), .inl (sm_I (sm_putI (sm_putI M b2 10 (y1 + y0)) b_3 5 (1 - (sm_I (sm_putI M b2 10 (y1 + y0)) b_3 5))) a0 10)], sm_putI (sm_putI M b2 10 (y1 + y0)) b_3 5 (1 - (sm_I (sm_putI M b2 10 (y1 + y0)) b_3 5)))) sm_a134_84 rfl rfl rfl ?_
  refine ru_go (t := (88, [some (.inr (some a0))], [.inr (sm_R (sm_putI (sm_putI M b2 10 (y1 + y0)) b_3 5 (1 - (sm_I (sm_putI M b2 10 (y1 + y0)) b_3 5))) a0 4), .inl (sm_I (sm_putI (sm_putI M b2 10 (y1 + y0)) b_3 5 (1 - (sm_I (sm_putI M b2 10 (y1 + y0)) b_3 5))) a0 10)], sm_putI (sm_putI M b2 10 (y1 + y0)) b_3 5 (1 - (sm_I (sm_putI M b2 10 (y1 + y0)) b_3 5)))) sm_a134_85 rfl rfl (st_getR h_2 rfl rfl) ?_
  obtain ⟨b_6, hb_7, h⟩ := h
  rw [hb_7]
  obtain ⟨h_8, h⟩ := h
  refine ru_go (t := (89, [some (.inr (some a0))], [.inl (Int32.ofNat (sm_L M b_6)), .inl (sm_I (sm_putI (sm_putI M b2 10 (y1 + y0)) b_3 5 (1 - (sm_I (sm_putI M b2 10 (y1 + y0)) b_3 5))) a0 10)], sm_putI (sm_putI M b2 10 (y1 + y0)) b_3 5 (1 - (sm_I (sm_putI M b2 10 (y1 + y0)) b_3 5)))) sm_a134_88 rfl rfl (st_alen h_8) ?_
  refine ru_icmp (pc := 89) (p := 96) (p2 := 92) sm_a134_89 (by decide) rfl ⟨fun hc_9 => ?_, fun hc_9 => ?_⟩
  · have h := h.1 hc_9
    exact ru_ret sm_a134_96 (sm_rvv rfl) h
  · have h := h.2 hc_9
    refine ru_go (t := (93, [some (.inr (some a0))], [.inr (some a0)], sm_putI (sm_putI M b2 10 (y1 + y0)) b_3 5 (1 - (sm_I (sm_putI M b2 10 (y1 + y0)) b_3 5)))) sm_a134_92 rfl rfl rfl ?_
    exact ru_call (p := 96) sm_a134_93 rfl (sc_virt (Or.inl rfl) rfl rfl h_2 (Nat.le_of_ble_eq_true rfl)) rfl h
theorem bb_134_96 {d : Nat} {M : sm_M} {Q : Option sm_V → sm_M → Prop} {a0 : Nat}
    (h : Q none M) :
    sm_Run (d + 1) 134 96 [some (.inr (some a0))] [] M Q := by
  exact ru_ret sm_a134_96 (sm_rvv rfl) h

/-! WireBus$Transfer.endData:()V -/
theorem sm_a135_0 : sm_at 135 0 = some (.aload_n 0, 1, (0, 0, 0, 0)) := by decide +kernel
theorem sm_a135_1 : sm_at 135 1 = some (.getfield 21, 3, (10, 1, 0, 625)) := by decide +kernel
theorem sm_a135_4 : sm_at 135 4 = some (.getfield 67, 3, (9, 0, 1, 358)) := by decide +kernel
theorem sm_a135_7 : sm_at 135 7 = some (.ifCond .ne 11, 3, (0, 0, 0, 0)) := by decide +kernel
theorem sm_a135_10 : sm_at 135 10 = some (.aload_n 0, 1, (0, 0, 0, 0)) := by decide +kernel
theorem sm_a135_11 : sm_at 135 11 = some (.iconst 2, 1, (0, 0, 0, 0)) := by decide +kernel
theorem sm_a135_12 : sm_at 135 12 = some (.putfield 11, 3, (10, 9, 0, 640)) := by decide +kernel
theorem sm_a135_15 : sm_at 135 15 = some (.goto 8, 3, (0, 0, 0, 0)) := by decide +kernel
theorem sm_a135_18 : sm_at 135 18 = some (.aload_n 0, 1, (0, 0, 0, 0)) := by decide +kernel
theorem sm_a135_19 : sm_at 135 19 = some (.iconst 1, 1, (0, 0, 0, 0)) := by decide +kernel
theorem sm_a135_20 : sm_at 135 20 = some (.putfield 15, 3, (10, 11, 0, 645)) := by decide +kernel
theorem sm_a135_23 : sm_at 135 23 = some (.return_, 1, (0, 0, 0, 0)) := by decide +kernel
theorem bb_135_0 {d : Nat} {M : sm_M} {Q : Option sm_V → sm_M → Prop} {a0 : Nat}
    (h : sm_K M a0 = 33 ∧ ∃ b_2, sm_R M a0 1 = some b_2 ∧ sm_K M b_2 = 30 ∧ ((¬ (sm_I M b_2 0) = 0 → Q none (sm_putI M a0 11 1)) ∧ (¬ (¬ (sm_I M b_2 0) = 0) → Q none (sm_putI M a0 9 2)))) :
    sm_Run d 135 0 [some (.inr (some a0))] [] M Q := by
  refine ru_go (t := (1, [some (.inr (some a0))], [.inr (some a0)], M)) sm_a135_0 rfl rfl rfl ?_
  obtain ⟨h_1, h⟩ := h
  refine ru_go (t := (4, [some (.inr (some a0))], [.inr (sm_R M a0 1)], M)) sm_a135_1 rfl rfl (st_getR h_1 rfl rfl) ?_
  obtain ⟨b_2, hb_3, h⟩ := h
  rw [hb_3]
  obtain ⟨h_4, h⟩ := h
  refine ru_go (t := (7, [some (.inr (some a0))], [.inl (sm_I M b_2 0)], M)) sm_a135_4 rfl rfl (st_getI h_4 rfl) ?_
  refine ru_if (pc := 7) (p := 18) (p2 := 10) sm_a135_7 (by decide) rfl ⟨fun hc_5 => ?_, fun hc_5 => ?_⟩
  · have h := h.1 hc_5
    refine ru_go (t := (19, [some (.inr (some a0))], [.inr (some a0)], M)) sm_a135_18 rfl rfl rfl ?_
    refine ru_go (t := (20, [some (.inr (some a0))], [.inl 1, .inr (some a0)], M)) sm_a135_19 rfl rfl (st_iconst (by decide)) ?_
    refine ru_go (t := (23, [some (.inr (some a0))], [], sm_putI M a0 11 1)) sm_a135_20 rfl rfl (st_putI h_1 rfl) ?_
    exact ru_ret sm_a135_23 (sm_rvv rfl) h
  · have h := h.2 hc_5
    refine ru_go (t := (11, [some (.inr (some a0))], [.inr (some a0)], M)) sm_a135_10 rfl rfl rfl ?_
    refine ru_go (t := (12, [some (.inr (some a0))], [.inl 2, .inr (some a0)], M)) sm_a135_11 rfl rfl (st_iconst (by decide)) ?_
    refine ru_go (t := (15, [some (.inr (some a0))], [], sm_putI M a0 9 2)) sm_a135_12 rfl rfl (st_putI h_1 rfl) ?_
    refine ru_go (t := (23, [some (.inr (some a0))], [], sm_putI M a0 9 2)) sm_a135_15 rfl rfl (st_goto (pc := 15) (by decide)) ?_
    exact ru_ret sm_a135_23 (sm_rvv rfl) h

/-! WireBus$Transfer.takeData:(LWireBus$Packet;)Z -/
theorem sm_a136_0 : sm_at 136 0 = some (.aload_n 0, 1, (0, 0, 0, 0)) := by decide +kernel
theorem sm_a136_1 : sm_at 136 1 = some (.getfield 11, 3, (10, 9, 0, 640)) := by decide +kernel
theorem sm_a136_4 : sm_at 136 4 = some (.iconst 2, 1, (0, 0, 0, 0)) := by decide +kernel
theorem sm_a136_5 : sm_at 136 5 = some (.if_icmp .ne 37, 3, (0, 0, 0, 0)) := by decide +kernel
theorem sm_a136_8 : sm_at 136 8 = some (.aload_n 1, 1, (0, 0, 0, 0)) := by decide +kernel
theorem sm_a136_9 : sm_at 136 9 = some (.getfield 94, 3, (7, 1, 1, 149)) := by decide +kernel
theorem sm_a136_12 : sm_at 136 12 = some (.bipush 11, 2, (0, 0, 0, 0)) := by decide +kernel
theorem sm_a136_14 : sm_at 136 14 = some (.if_icmp .ne 10, 3, (0, 0, 0, 0)) := by decide +kernel
theorem sm_a136_17 : sm_at 136 17 = some (.aload_n 1, 1, (0, 0, 0, 0)) := by decide +kernel
theorem sm_a136_18 : sm_at 136 18 = some (.getfield 117, 3, (7, 4, 1, 162)) := by decide +kernel
theorem sm_a136_21 : sm_at 136 21 = some (.ifCond .eq 9, 3, (0, 0, 0, 0)) := by decide +kernel
theorem sm_a136_24 : sm_at 136 24 = some (.aload_n 0, 1, (0, 0, 0, 0)) := by decide +kernel
theorem sm_a136_25 : sm_at 136 25 = some (.invokevirtual 111, 3, (10, 133, 10, 1063)) := by decide +kernel
theorem sm_a136_28 : sm_at 136 28 = some (.iconst 0, 1, (0, 0, 0, 0)) := by decide +kernel
theorem sm_a136_29 : sm_at 136 29 = some (.ireturn, 1, (0, 0, 0, 0)) := by decide +kernel
theorem sm_a136_30 : sm_at 136 30 = some (.aload_n 0, 1, (0, 0, 0, 0)) := by decide +kernel
theorem sm_a136_31 : sm_at 136 31 = some (.iconst 0, 1, (0, 0, 0, 0)) := by decide +kernel
theorem sm_a136_32 : sm_at 136 32 = some (.putfield 105, 3, (10, 12, 0, 648)) := by decide +kernel
theorem sm_a136_35 : sm_at 136 35 = some (.aload_n 0, 1, (0, 0, 0, 0)) := by decide +kernel
theorem sm_a136_36 : sm_at 136 36 = some (.iconst 1, 1, (0, 0, 0, 0)) := by decide +kernel
theorem sm_a136_37 : sm_at 136 37 = some (.putfield 15, 3, (10, 11, 0, 645)) := by decide +kernel
theorem sm_a136_40 : sm_at 136 40 = some (.iconst 1, 1, (0, 0, 0, 0)) := by decide +kernel
theorem sm_a136_41 : sm_at 136 41 = some (.ireturn, 1, (0, 0, 0, 0)) := by decide +kernel
theorem sm_a136_42 : sm_at 136 42 = some (.aload_n 0, 1, (0, 0, 0, 0)) := by decide +kernel
theorem sm_a136_43 : sm_at 136 43 = some (.iconst 0, 1, (0, 0, 0, 0)) := by decide +kernel
theorem sm_a136_44 : sm_at 136 44 = some (.putfield 105, 3, (10, 12, 0, 648)) := by decide +kernel
theorem sm_a136_47 : sm_at 136 47 = some (.aload_n 1, 1, (0, 0, 0, 0)) := by decide +kernel
theorem sm_a136_48 : sm_at 136 48 = some (.getfield 94, 3, (7, 1, 1, 149)) := by decide +kernel
theorem sm_a136_51 : sm_at 136 51 = some (.invokestatic 120, 3, (13, 28, 0, 1067)) := by decide +kernel
theorem sm_a136_54 : sm_at 136 54 = some (.aload_n 0, 1, (0, 0, 0, 0)) := by decide +kernel
theorem sm_a136_55 : sm_at 136 55 = some (.getfield 21, 3, (10, 1, 0, 625)) := by decide +kernel
theorem sm_a136_58 : sm_at 136 58 = some (.getfield 75, 3, (9, 5, 1, 369)) := by decide +kernel
theorem sm_a136_61 : sm_at 136 61 = some (.if_icmp .eq 5, 3, (0, 0, 0, 0)) := by decide +kernel
theorem sm_a136_64 : sm_at 136 64 = some (.iconst 1, 1, (0, 0, 0, 0)) := by decide +kernel
theorem sm_a136_65 : sm_at 136 65 = some (.ireturn, 1, (0, 0, 0, 0)) := by decide +kernel
theorem sm_a136_66 : sm_at 136 66 = some (.aload_n 0, 1, (0, 0, 0, 0)) := by decide +kernel
theorem sm_a136_67 : sm_at 136 67 = some (.getfield 21, 3, (10, 1, 0, 625)) := by decide +kernel
theorem sm_a136_70 : sm_at 136 70 = some (.iconst 1, 1, (0, 0, 0, 0)) := by decide +kernel
theorem sm_a136_71 : sm_at 136 71 = some (.aload_n 0, 1, (0, 0, 0, 0)) := by decide +kernel
theorem sm_a136_72 : sm_at 136 72 = some (.getfield 21, 3, (10, 1, 0, 625)) := by decide +kernel
theorem sm_a136_75 : sm_at 136 75 = some (.getfield 75, 3, (9, 5, 1, 369)) := by decide +kernel
theorem sm_a136_78 : sm_at 136 78 = some (.isub, 1, (0, 0, 0, 0)) := by decide +kernel
theorem sm_a136_79 : sm_at 136 79 = some (.putfield 75, 3, (9, 5, 1, 369)) := by decide +kernel
theorem sm_a136_82 : sm_at 136 82 = some (.aload_n 1, 1, (0, 0, 0, 0)) := by decide +kernel
theorem sm_a136_83 : sm_at 136 83 = some (.getfield 117, 3, (7, 4, 1, 162)) := by decide +kernel
theorem sm_a136_86 : sm_at 136 86 = some (.aload_n 0, 1, (0, 0, 0, 0)) := by decide +kernel
theorem sm_a136_87 : sm_at 136 87 = some (.getfield 38, 3, (10, 4, 0, 630)) := by decide +kernel
theorem sm_a136_90 : sm_at 136 90 = some (.arraylength, 1, (0, 0, 0, 0)) := by decide +kernel
theorem sm_a136_91 : sm_at 136 91 = some (.aload_n 0, 1, (0, 0, 0, 0)) := by decide +kernel
theorem sm_a136_92 : sm_at 136 92 = some (.getfield 57, 3, (10, 10, 0, 642)) := by decide +kernel
theorem sm_a136_95 : sm_at 136 95 = some (.isub, 1, (0, 0, 0, 0)) := by decide +kernel
theorem sm_a136_96 : sm_at 136 96 = some (.invokestatic 72, 3, (3, 0, 0, 1043)) := by decide +kernel
theorem sm_a136_99 : sm_at 136 99 = some (.istore_n 2, 1, (0, 0, 0, 0)) := by decide +kernel
theorem sm_a136_100 : sm_at 136 100 = some (.iconst 0, 1, (0, 0, 0, 0)) := by decide +kernel
theorem sm_a136_101 : sm_at 136 101 = some (.istore_n 3, 1, (0, 0, 0, 0)) := by decide +kernel
theorem sm_a136_102 : sm_at 136 102 = some (.iload_n 3, 1, (0, 0, 0, 0)) := by decide +kernel
theorem sm_a136_103 : sm_at 136 103 = some (.iload_n 2, 1, (0, 0, 0, 0)) := by decide +kernel
theorem sm_a136_104 : sm_at 136 104 = some (.if_icmp .ge 25, 3, (0, 0, 0, 0)) := by decide +kernel
theorem sm_a136_107 : sm_at 136 107 = some (.aload_n 0, 1, (0, 0, 0, 0)) := by decide +kernel
theorem sm_a136_108 : sm_at 136 108 = some (.getfield 38, 3, (10, 4, 0, 630)) := by decide +kernel
theorem sm_a136_111 : sm_at 136 111 = some (.aload_n 0, 1, (0, 0, 0, 0)) := by decide +kernel
theorem sm_a136_112 : sm_at 136 112 = some (.getfield 57, 3, (10, 10, 0, 642)) := by decide +kernel
theorem sm_a136_115 : sm_at 136 115 = some (.iload_n 3, 1, (0, 0, 0, 0)) := by decide +kernel
theorem sm_a136_116 : sm_at 136 116 = some (.iadd, 1, (0, 0, 0, 0)) := by decide +kernel
theorem sm_a136_117 : sm_at 136 117 = some (.aload_n 1, 1, (0, 0, 0, 0)) := by decide +kernel
theorem sm_a136_118 : sm_at 136 118 = some (.iload_n 3, 1, (0, 0, 0, 0)) := by decide +kernel
theorem sm_a136_119 : sm_at 136 119 = some (.invokevirtual 123, 3, (10, 107, 7, 1068)) := by decide +kernel
theorem sm_a136_122 : sm_at 136 122 = some (.iastore, 1, (0, 0, 0, 0)) := by decide +kernel
theorem sm_a136_123 : sm_at 136 123 = some (.iinc 3 1, 3, (0, 0, 0, 0)) := by decide +kernel
theorem sm_a136_126 : sm_at 136 126 = some (.goto (-24), 3, (0, 0, 0, 0)) := by decide +kernel
theorem sm_a136_129 : sm_at 136 129 = some (.aload_n 0, 1, (0, 0, 0, 0)) := by decide +kernel
theorem sm_a136_130 : sm_at 136 130 = some (.dup, 1, (0, 0, 0, 0)) := by decide +kernel
theorem sm_a136_131 : sm_at 136 131 = some (.getfield 57, 3, (10, 10, 0, 642)) := by decide +kernel
theorem sm_a136_134 : sm_at 136 134 = some (.iload_n 2, 1, (0, 0, 0, 0)) := by decide +kernel
theorem sm_a136_135 : sm_at 136 135 = some (.iadd, 1, (0, 0, 0, 0)) := by decide +kernel
theorem sm_a136_136 : sm_at 136 136 = some (.putfield 57, 3, (10, 10, 0, 642)) := by decide +kernel
theorem sm_a136_139 : sm_at 136 139 = some (.aload_n 1, 1, (0, 0, 0, 0)) := by decide +kernel
theorem sm_a136_140 : sm_at 136 140 = some (.getfield 117, 3, (7, 4, 1, 162)) := by decide +kernel
theorem sm_a136_143 : sm_at 136 143 = some (.iload_n 2, 1, (0, 0, 0, 0)) := by decide +kernel
theorem sm_a136_144 : sm_at 136 144 = some (.if_icmp .le 11, 3, (0, 0, 0, 0)) := by decide +kernel
theorem sm_a136_147 : sm_at 136 147 = some (.aload_n 0, 1, (0, 0, 0, 0)) := by decide +kernel
theorem sm_a136_148 : sm_at 136 148 = some (.iconst 3, 1, (0, 0, 0, 0)) := by decide +kernel
theorem sm_a136_149 : sm_at 136 149 = some (.putfield 15, 3, (10, 11, 0, 645)) := by decide +kernel
theorem sm_a136_152 : sm_at 136 152 = some (.goto 30, 3, (0, 0, 0, 0)) := by decide +kernel
theorem sm_a136_155 : sm_at 136 155 = some (.aload_n 0, 1, (0, 0, 0, 0)) := by decide +kernel
theorem sm_a136_156 : sm_at 136 156 = some (.getfield 57, 3, (10, 10, 0, 642)) := by decide +kernel
theorem sm_a136_159 : sm_at 136 159 = some (.aload_n 0, 1, (0, 0, 0, 0)) := by decide +kernel
theorem sm_a136_160 : sm_at 136 160 = some (.getfield 38, 3, (10, 4, 0, 630)) := by decide +kernel
theorem sm_a136_163 : sm_at 136 163 = some (.arraylength, 1, (0, 0, 0, 0)) := by decide +kernel
theorem sm_a136_164 : sm_at 136 164 = some (.if_icmp .eq 14, 3, (0, 0, 0, 0)) := by decide +kernel
theorem sm_a136_167 : sm_at 136 167 = some (.aload_n 1, 1, (0, 0, 0, 0)) := by decide +kernel
theorem sm_a136_168 : sm_at 136 168 = some (.getfield 117, 3, (7, 4, 1, 162)) := by decide +kernel
theorem sm_a136_171 : sm_at 136 171 = some (.aload_n 0, 1, (0, 0, 0, 0)) := by decide +kernel
theorem sm_a136_172 : sm_at 136 172 = some (.getfield 25, 3, (10, 2, 0, 628)) := by decide +kernel
theorem sm_a136_175 : sm_at 136 175 = some (.if_icmp .ge 7, 3, (0, 0, 0, 0)) := by decide +kernel
theorem sm_a136_178 : sm_at 136 178 = some (.aload_n 0, 1, (0, 0, 0, 0)) := by decide +kernel
theorem sm_a136_179 : sm_at 136 179 = some (.invokevirtual 114, 3, (10, 135, 10, 1069)) := by decide +kernel
theorem sm_a136_182 : sm_at 136 182 = some (.iconst 1, 1, (0, 0, 0, 0)) := by decide +kernel
theorem sm_a136_183 : sm_at 136 183 = some (.ireturn, 1, (0, 0, 0, 0)) := by decide +kernel
theorem bb_136_0 {d : Nat} {M : sm_M} {Q : Option sm_V → sm_M → Prop} {a0 : Nat} {r1 : Option Nat} {z2 : Option sm_V} {z3 : Option sm_V}
    (h : sm_K M a0 = 33 ∧ ((¬ (sm_I M a0 9) = 2 → ∃ b_3, r1 = some b_3 ∧ sm_K M b_3 = 24 ∧ sm_Run d 28 0 (sm_ent 28 [.inl (sm_I (sm_putI M a0 12 0) b_3 1)]) [] (sm_putI M a0 12 0) (fun v M1 => sm_Run (d + 1) 136 54 [some (.inr (some a0)), some (.inr (some b_3)), z2, z3] (v.toList ++ []) M1 Q)) ∧ (¬ (¬ (sm_I M a0 9) = 2) → ∃ b_6, r1 = some b_6 ∧ sm_K M b_6 = 24 ∧ ((¬ (sm_I M b_6 1) = 11 → sm_Run d 133 0 (sm_ent 133 [.inr (some a0)]) [] M (fun v M1 => sm_Run (d + 1) 136 28 [some (.inr (some a0)), some (.inr (some b_6)), z2, z3] (v.toList ++ []) M1 Q)) ∧ (¬ (¬ (sm_I M b_6 1) = 11) → (((sm_I M b_6 4) = 0 → Q (some (.inl 1)) (sm_putI (sm_putI M a0 12 0) a0 11 1)) ∧ (¬ ((sm_I M b_6 4) = 0) → sm_Run d 133 0 (sm_ent 133 [.inr (some a0)]) [] M (fun v M1 => sm_Run (d + 1) 136 28 [some (.inr (some a0)), some (.inr (some b_6)), z2, z3] (v.toList ++ []) M1 Q)))))))) :
    sm_Run (d + 1) 136 0 [some (.inr (some a0)), some (.inr r1), z2, z3] [] M Q := by
  refine ru_go (t := (1, [some (.inr (some a0)), some (.inr r1), z2, z3], [.inr (some a0)], M)) sm_a136_0 rfl rfl rfl ?_
  obtain ⟨h_1, h⟩ := h
  refine ru_go (t := (4, [some (.inr (some a0)), some (.inr r1), z2, z3], [.inl (sm_I M a0 9)], M)) sm_a136_1 rfl rfl (st_getI h_1 rfl) ?_
  refine ru_go (t := (5, [some (.inr (some a0)), some (.inr r1), z2, z3], [.inl 2, .inl (sm_I M a0 9)], M)) sm_a136_4 rfl rfl (st_iconst (by decide)) ?_
  refine ru_icmp (pc := 5) (p := 42) (p2 := 8) sm_a136_5 (by decide) rfl ⟨fun hc_2 => ?_, fun hc_2 => ?_⟩
  · have h := h.1 hc_2
    refine ru_go (t := (43, [some (.inr (some a0)), some (.inr r1), z2, z3], [.inr (some a0)], M)) sm_a136_42 rfl rfl rfl ?_
    refine ru_go (t := (44, [some (.inr (some a0)), some (.inr r1), z2, z3], [.inl 0, .inr (some a0)], M)) sm_a136_43 rfl rfl (st_iconst (by decide)) ?_
    refine ru_go (t := (47, [some (.inr (some a0)), some (.inr r1), z2, z3], [], sm_putI M a0 12 0)) sm_a136_44 rfl rfl (st_putI h_1 rfl) ?_
    refine ru_go (t := (48, [some (.inr (some a0)), some (.inr r1), z2, z3], [.inr r1], sm_putI M a0 12 0)) sm_a136_47 rfl rfl rfl ?_
    obtain ⟨b_3, hb_4, h⟩ := h
    rw [hb_4]
    obtain ⟨h_5, h⟩ := h
    refine ru_go (t := (51, [some (.inr (some a0)), some (.inr (some b_3)), z2, z3], [.inl (sm_I (sm_putI M a0 12 0) b_3 1)], sm_putI M a0 12 0)) sm_a136_48 rfl rfl (st_getI h_5 rfl) ?_
    exact ru_call (p := 54) sm_a136_51 rfl (sc_stat (Or.inr rfl) (Nat.le_of_ble_eq_true rfl) rfl rfl (Nat.le_of_ble_eq_true rfl)) rfl h
  · have h := h.2 hc_2
    refine ru_go (t := (9, [some (.inr (some a0)), some (.inr r1), z2, z3], [.inr r1], M)) sm_a136_8 rfl rfl rfl ?_
    obtain ⟨b_6, hb_7, h⟩ := h
    rw [hb_7]
    obtain ⟨h_8, h⟩ := h
    refine ru_go (t := (12, [some (.inr (some a0)), some (.inr (some b_6)), z2, z3], [.inl (sm_I M b_6 1)], M)) sm_a136_9 rfl rfl (st_getI h_8 rfl) ?_
    refine ru_go (t := (14, [some (.inr (some a0)), some (.inr (some b_6)), z2, z3], [.inl 11, .inl (sm_I M b_6 1)], M)) sm_a136_12 rfl rfl (st_bipush (by decide)) ?_
    refine ru_icmp (pc := 14) (p := 24) (p2 := 17) sm_a136_14 (by decide) rfl ⟨fun hc_9 => ?_, fun hc_9 => ?_⟩
    · have h := h.1 hc_9
      refine ru_go (t := (25, [some (.inr (some a0)), some (.inr (some b_6)), z2, z3], [.inr (some a0)], M)) sm_a136_24 rfl rfl rfl ?_
      exact ru_call (p := 28) sm_a136_25 rfl (sc_virt (Or.inl rfl) rfl rfl h_1 (Nat.le_of_ble_eq_true rfl)) rfl h
    · have h := h.2 hc_9
      refine ru_go (t := (18, [some (.inr (some a0)), some (.inr (some b_6)), z2, z3], [.inr (some b_6)], M)) sm_a136_17 rfl rfl rfl ?_
      refine ru_go (t := (21, [some (.inr (some a0)), some (.inr (some b_6)), z2, z3], [.inl (sm_I M b_6 4)], M)) sm_a136_18 rfl rfl (st_getI h_8 rfl) ?_
      refine ru_if (pc := 21) (p := 30) (p2 := 24) sm_a136_21 (by decide) rfl ⟨fun hc_10 => ?_, fun hc_10 => ?_⟩
      · have h := h.1 hc_10
        refine ru_go (t := (31, [some (.inr (some a0)), some (.inr (some b_6)), z2, z3], [.inr (some a0)], M)) sm_a136_30 rfl rfl rfl ?_
        refine ru_go (t := (32, [some (.inr (some a0)), some (.inr (some b_6)), z2, z3], [.inl 0, .inr (some a0)], M)) sm_a136_31 rfl rfl (st_iconst (by decide)) ?_
        refine ru_go (t := (35, [some (.inr (some a0)), some (.inr (some b_6)), z2, z3], [], sm_putI M a0 12 0)) sm_a136_32 rfl rfl (st_putI h_1 rfl) ?_
        refine ru_go (t := (36, [some (.inr (some a0)), some (.inr (some b_6)), z2, z3], [.inr (some a0)], sm_putI M a0 12 0)) sm_a136_35 rfl rfl rfl ?_
        refine ru_go (t := (37, [some (.inr (some a0)), some (.inr (some b_6)), z2, z3], [.inl 1, .inr (some a0)], sm_putI M a0 12 0)) sm_a136_36 rfl rfl (st_iconst (by decide)) ?_
        refine ru_go (t := (40, [some (.inr (some a0)), some (.inr (some b_6)), z2, z3], [], sm_putI (sm_putI M a0 12 0) a0 11 1)) sm_a136_37 rfl rfl (st_putI h_1 rfl) ?_
        refine ru_go (t := (41, [some (.inr (some a0)), some (.inr (some b_6)), z2, z3], [.inl 1], sm_putI (sm_putI M a0 12 0) a0 11 1)) sm_a136_40 rfl rfl (st_iconst (by decide)) ?_
        exact ru_ret sm_a136_41 (sm_rvz rfl (by decide)) h
      · have h := h.2 hc_10
        refine ru_go (t := (25, [some (.inr (some a0)), some (.inr (some b_6)), z2, z3], [.inr (some a0)], M)) sm_a136_24 rfl rfl rfl ?_
        exact ru_call (p := 28) sm_a136_25 rfl (sc_virt (Or.inl rfl) rfl rfl h_1 (Nat.le_of_ble_eq_true rfl)) rfl h
theorem bb_136_28 {d : Nat} {M : sm_M} {Q : Option sm_V → sm_M → Prop} {a0 : Nat} {r1 : Option Nat} {z2 : Option sm_V} {z3 : Option sm_V}
    (h : Q (some (.inl 0)) M) :
    sm_Run (d + 1) 136 28 [some (.inr (some a0)), some (.inr r1), z2, z3] [] M Q := by
  refine ru_go (t := (29, [some (.inr (some a0)), some (.inr r1), z2, z3], [.inl 0], M)) sm_a136_28 rfl rfl (st_iconst (by decide)) ?_
  exact ru_ret sm_a136_29 (sm_rvz rfl (by decide)) h
theorem bb_136_54 {d : Nat} {M : sm_M} {Q : Option sm_V → sm_M → Prop} {a0 : Nat} {r1 : Option Nat} {z2 : Option sm_V} {z3 : Option sm_V} {y0 : Int32}
    (h : sm_K M a0 = 33 ∧ ∃ b_2, sm_R M a0 1 = some b_2 ∧ sm_K M b_2 = 30 ∧ ((y0 = (sm_I M b_2 5) → ∃ b_6, sm_R M a0 1 = some b_6 ∧ sm_K M b_6 = 30 ∧ ∃ b_9, r1 = some b_9 ∧ sm_K M b_9 = 24 ∧ ∃ b_12, sm_R (sm_putI M b_6 5 (1 - (sm_I M b_6 5))) a0 4 = some b_12 ∧ (1 ≤ sm_K M b_12 ∧ sm_K M b_12 % 3 ≠ 0) ∧ sm_Run (d + 1) 136 102 [some (.inr (some a0)), some (.inr (some b_9)), some (.inl (if (Int32.ofNat (sm_L M b_12)) - (sm_I (sm_putI M b_6 5 (1 - (sm_I M b_6 5))) a0 10) < sm_I (sm_putI M b_6 5 (1 - (sm_I M b_6 5))) b_9 4 then (Int32.ofNat (sm_L M b_12)) - (sm_I (sm_putI M b_6 5 (1 - (sm_I M b_6 5))) a0 10) else sm_I (sm_putI M b_6 5 (1 - (sm_I M b_6 5))) b_9 4)), some (.inl 0)] [] (sm_putI M b_6 5 (1 - (sm_I M b_6 5))) Q) ∧ (¬ (y0 = (sm_I M b_2 5)) → Q (some (.inl 1)) M))) :
    sm_Run (d + 1) 136 54 [some (.inr (some a0)), some (.inr r1), z2, z3] [.inl y0] M Q := by
  refine ru_go (t := (55, [some (.inr (some a0)), some (.inr r1), z2, z3], [.inr (some a0), .inl y0], M)) sm_a136_54 rfl rfl rfl ?_
  obtain ⟨h_1, h⟩ := h
  refine ru_go (t := (58, [some (.inr (some a0)), some (.inr r1), z2, z3], [.inr (sm_R M a0 1), .inl y0], M)) sm_a136_55 rfl rfl (st_getR h_1 rfl rfl) ?_
  obtain ⟨b_2, hb_3, h⟩ := h
  rw [hb_3]
  obtain ⟨h_4, h⟩ := h
  refine ru_go (t := (61, [some (.inr (some a0)), some (.inr r1), z2, z3], [.inl (sm_I M b_2 5), .inl y0], M)) sm_a136_58 rfl rfl (st_getI h_4 rfl) ?_
  refine ru_icmp (pc := 61) (p := 66) (p2 := 64) sm_a136_61 (by decide) rfl ⟨fun hc_5 => ?_, fun hc_5 => ?_⟩
  · have h := h.1 hc_5
    refine ru_go (t := (67, [some (.inr (some a0)), some (.inr r1), z2, z3], [.inr (some a0)], M)) sm_a136_66 rfl rfl rfl ?_
    refine ru_go (t := (70, [some (.inr (some a0)), some (.inr r1), z2, z3], [.inr (sm_R M a0 1)], M)) sm_a136_67 rfl rfl (st_getR h_1 rfl rfl) ?_
    refine ru_go (t := (71, [some (.inr (some a0)), some (.inr r1), z2, z3], [.inl 1, .inr (sm_R M a0 1)], M)) sm_a136_70 rfl rfl (st_iconst (by decide)) ?_
    refine ru_go (t := (72, [some (.inr (some a0)), some (.inr r1), z2, z3], [.inr (some a0), .inl 1, .inr (sm_R M a0 1)], M)) sm_a136_71 rfl rfl rfl ?_
    refine ru_go (t := (75, [some (.inr (some a0)), some (.inr r1), z2, z3], [.inr (sm_R M a0 1), .inl 1, .inr (sm_R M a0 1)], M)) sm_a136_72 rfl rfl (st_getR h_1 rfl rfl) ?_
    obtain ⟨b_6, hb_7, h⟩ := h
    rw [hb_7]
    obtain ⟨h_8, h⟩ := h
    refine ru_go (t := (78, [some (.inr (some a0)), some (.inr r1), z2, z3], [.inl (sm_I M b_6 5), .inl 1, .inr (some b_6)], M)) sm_a136_75 rfl rfl (st_getI h_8 rfl) ?_
    refine ru_go (t := (79, [some (.inr (some a0)), some (.inr r1), z2, z3], [.inl (1 - (sm_I M b_6 5)), .inr (some b_6)], M)) sm_a136_78 rfl rfl rfl ?_
    refine ru_go (t := (82, [some (.inr (some a0)), some (.inr r1), z2, z3], [], sm_putI M b_6 5 (1 - (sm_I M b_6 5)))) sm_a136_79 rfl rfl (st_putI h_8 rfl) ?_
    refine ru_go (t := (83, [some (.inr (some a0)), some (.inr r1), z2, z3], [.inr r1], sm_putI M b_6 5 (1 - (sm_I M b_6 5)))) sm_a136_82 rfl rfl rfl ?_
    obtain ⟨b_9, hb_10, h⟩ := h
    rw [hb_10]
    obtain ⟨h_11, h⟩ := h
    refine ru_go (t := (86, [some (.inr (some a0)), some (.inr (some b_9)), z2, z3], [.inl (sm_I (sm_putI M b_6 5 (1 - (sm_I M b_6 5))) b_9 4)], sm_putI M b_6 5 (1 - (sm_I M b_6 5)))) sm_a136_83 rfl rfl (st_getI h_11 rfl) ?_
    refine ru_go (t := (87, [some (.inr (some a0)), some (.inr (some b_9)), z2, z3], [.inr (some a0), .inl (sm_I (sm_putI M b_6 5 (1 - (sm_I M b_6 5))) b_9 4)], sm_putI M b_6 5 (1 - (sm_I M b_6 5)))) sm_a136_86 rfl rfl rfl ?_
    refine ru_go (t := (90, [some (.inr (some a0)), some (.inr (some b_9)), z2, z3], [.inr (sm_R (sm_putI M b_6 5 (1 - (sm_I M b_6 5))) a0 4), .inl (sm_I (sm_putI M b_6 5 (1 - (sm_I M b_6 5))) b_9 4)], sm_putI M b_6 5 (1 - (sm_I M b_6 5)))) sm_a136_87 rfl rfl (st_getR h_1 rfl rfl) ?_
    obtain ⟨b_12, hb_13, h⟩ := h
    rw [hb_13]
    obtain ⟨h_14, h⟩ := h
    refine ru_go (t := (91, [some (.inr (some a0)), some (.inr (some b_9)), z2, z3], [.inl (Int32.ofNat (sm_L M b_12)), .inl (sm_I (sm_putI M b_6 5 (1 - (sm_I M b_6 5))) b_9 4)], sm_putI M b_6 5 (1 - (sm_I M b_6 5)))) sm_a136_90 rfl rfl (st_alen h_14) ?_
    refine ru_go (t := (92, [some (.inr (some a0)), some (.inr (some b_9)), z2, z3], [.inr (some a0), .inl (Int32.ofNat (sm_L M b_12)), .inl (sm_I (sm_putI M b_6 5 (1 - (sm_I M b_6 5))) b_9 4)], sm_putI M b_6 5 (1 - (sm_I M b_6 5)))) sm_a136_91 rfl rfl rfl ?_
    refine ru_go (t := (95, [some (.inr (some a0)), some (.inr (some b_9)), z2, z3], [.inl (sm_I (sm_putI M b_6 5 (1 - (sm_I M b_6 5))) a0 10), .inl (Int32.ofNat (sm_L M b_12)), .inl (sm_I (sm_putI M b_6 5 (1 - (sm_I M b_6 5))) b_9 4)], sm_putI M b_6 5 (1 - (sm_I M b_6 5)))) sm_a136_92 rfl rfl (st_getI h_1 rfl) ?_
    refine ru_go (t := (96, [some (.inr (some a0)), some (.inr (some b_9)), z2, z3], [.inl ((Int32.ofNat (sm_L M b_12)) - (sm_I (sm_putI M b_6 5 (1 - (sm_I M b_6 5))) a0 10)), .inl (sm_I (sm_putI M b_6 5 (1 - (sm_I M b_6 5))) b_9 4)], sm_putI M b_6 5 (1 - (sm_I M b_6 5)))) sm_a136_95 rfl rfl rfl ?_
    refine ru_go (t := (99, [some (.inr (some a0)), some (.inr (some b_9)), z2, z3], [.inl (if (Int32.ofNat (sm_L M b_12)) - (sm_I (sm_putI M b_6 5 (1 - (sm_I M b_6 5))) a0 10) < sm_I (sm_putI M b_6 5 (1 - (sm_I M b_6 5))) b_9 4 then (Int32.ofNat (sm_L M b_12)) - (sm_I (sm_putI M b_6 5 (1 - (sm_I M b_6 5))) a0 10) else sm_I (sm_putI M b_6 5 (1 - (sm_I M b_6 5))) b_9 4)], sm_putI M b_6 5 (1 - (sm_I M b_6 5)))) sm_a136_96 rfl rfl (st_min (Nat.le_of_ble_eq_true rfl)) ?_
    refine ru_go (t := (100, [some (.inr (some a0)), some (.inr (some b_9)), some (.inl (if (Int32.ofNat (sm_L M b_12)) - (sm_I (sm_putI M b_6 5 (1 - (sm_I M b_6 5))) a0 10) < sm_I (sm_putI M b_6 5 (1 - (sm_I M b_6 5))) b_9 4 then (Int32.ofNat (sm_L M b_12)) - (sm_I (sm_putI M b_6 5 (1 - (sm_I M b_6 5))) a0 10) else sm_I (sm_putI M b_6 5 (1 - (sm_I M b_6 5))) b_9 4)), z3], [], sm_putI M b_6 5 (1 - (sm_I M b_6 5)))) sm_a136_99 rfl rfl rfl ?_
    refine ru_go (t := (101, [some (.inr (some a0)), some (.inr (some b_9)), some (.inl (if (Int32.ofNat (sm_L M b_12)) - (sm_I (sm_putI M b_6 5 (1 - (sm_I M b_6 5))) a0 10) < sm_I (sm_putI M b_6 5 (1 - (sm_I M b_6 5))) b_9 4 then (Int32.ofNat (sm_L M b_12)) - (sm_I (sm_putI M b_6 5 (1 - (sm_I M b_6 5))) a0 10) else sm_I (sm_putI M b_6 5 (1 - (sm_I M b_6 5))) b_9 4)), z3], [.inl 0], sm_putI M b_6 5 (1 - (sm_I M b_6 5)))) sm_a136_100 rfl rfl (st_iconst (by decide)) ?_
    refine ru_go (t := (102, [some (.inr (some a0)), some (.inr (some b_9)), some (.inl (if (Int32.ofNat (sm_L M b_12)) - (sm_I (sm_putI M b_6 5 (1 - (sm_I M b_6 5))) a0 10) < sm_I (sm_putI M b_6 5 (1 - (sm_I M b_6 5))) b_9 4 then (Int32.ofNat (sm_L M b_12)) - (sm_I (sm_putI M b_6 5 (1 - (sm_I M b_6 5))) a0 10) else sm_I (sm_putI M b_6 5 (1 - (sm_I M b_6 5))) b_9 4)), some (.inl 0)], [], sm_putI M b_6 5 (1 - (sm_I M b_6 5)))) sm_a136_101 rfl rfl rfl ?_
    exact h
  · have h := h.2 hc_5
    refine ru_go (t := (65, [some (.inr (some a0)), some (.inr r1), z2, z3], [.inl 1], M)) sm_a136_64 rfl rfl (st_iconst (by decide)) ?_
    exact ru_ret sm_a136_65 (sm_rvz rfl (by decide)) h
theorem bb_136_102 {d : Nat} {M : sm_M} {Q : Option sm_V → sm_M → Prop} {a0 : Nat} {r1 : Option Nat} {x2 : Int32} {x3 : Int32}
    (h : ((x2 ≤ x3 → sm_K M a0 = 33 ∧ ∃ b_3, r1 = some b_3 ∧ sm_K M b_3 = 24 ∧ (((sm_I (sm_putI M a0 10 ((sm_I M a0 10) + x2)) b_3 4) ≤ x2 → ∃ b_7, sm_R (sm_putI M a0 10 ((sm_I M a0 10) + x2)) a0 4 = some b_7 ∧ (1 ≤ sm_K M b_7 ∧ sm_K M b_7 % 3 ≠ 0) ∧ (((sm_I (sm_putI M a0 10 ((sm_I M a0 10) + x2)) a0 10) = (Int32.ofNat (sm_L M b_7)) → sm_Run d 135 0 (sm_ent 135 [.inr (some a0)]) [] (sm_putI M a0 10 ((sm_I M a0 10) + x2)) (fun v M1 => sm_Run (d + 1) 136 182 [some (.inr (some a0)), some (.inr (some b_3)), some (.inl x2), some (.inl x3)] (v.toList ++ []) M1 Q)) ∧ (¬ ((sm_I (sm_putI M a0 10 ((sm_I M a0 10) + x2)) a0 10) = (Int32.ofNat (sm_L M b_7))) → (((sm_I (sm_putI M a0 10 ((sm_I M a0 10) + x2)) a0 2) ≤ (sm_I (sm_putI M a0 10 ((sm_I M a0 10) + x2)) b_3 4) → Q (some (.inl 1)) (sm_putI M a0 10 ((sm_I M a0 10) + x2))) ∧ (¬ ((sm_I (sm_putI M a0 10 ((sm_I M a0 10) + x2)) a0 2) ≤ (sm_I (sm_putI M a0 10 ((sm_I M a0 10) + x2)) b_3 4)) → sm_Run d 135 0 (sm_ent 135 [.inr (some a0)]) [] (sm_putI M a0 10 ((sm_I M a0 10) + x2)) (fun v M1 => sm_Run (d + 1) 136 182 [some (.inr (some a0)), some (.inr (some b_3)), some (.inl x2), some (.inl x3)] (v.toList ++ []) M1 Q)))))) ∧ (¬ ((sm_I (sm_putI M a0 10 ((sm_I M a0 10) + x2)) b_3 4) ≤ x2) → Q (some (.inl 1)) (sm_putI (sm_putI M a0 10 ((sm_I M a0 10) + x2)) a0 11 3)))) ∧ (¬ (x2 ≤ x3) → sm_K M a0 = 33 ∧ ∃ b_13, r1 = some b_13 ∧ sm_K M b_13 = 24 ∧ sm_Run d 107 0 (sm_ent 107 [.inr (some b_13), .inl x3]) [] M (fun v M1 => sm_Run (d + 1) 136 122 [some (.inr (some a0)), some (.inr (some b_13)), some (.inl x2), some (.inl x3)] (v.toList ++ [.inl ((sm_I M a0 10) + x3), .inr (sm_R M a0 4)]) M1 Q)))) :
    sm_Run (d + 1) 136 102 [some (.inr (some a0)), some (.inr r1), some (.inl x2), some (.inl x3)] [] M Q := by
  refine ru_go (t := (103, [some (.inr (some a0)), some (.inr r1), some (.inl x2), some (.inl x3)], [.inl x3], M)) sm_a136_102 rfl rfl rfl ?_
  refine ru_go (t := (104, [some (.inr (some a0)), some (.inr r1), some (.inl x2), some (.inl x3)], [.inl x2, .inl x3], M)) sm_a136_103 rfl rfl rfl ?_
  refine ru_icmp (pc := 104) (p := 129) (p2 := 107) sm_a136_104 (by decide) rfl ⟨fun hc_1 => ?_, fun hc_1 => ?_⟩
  · have h := h.1 hc_1
    refine ru_go (t := (130, [some (.inr (some a0)), some (.inr r1), some (.inl x2), some (.inl x3)], [.inr (some a0)], M)) sm_a136_129 rfl rfl rfl ?_
    refine ru_go (t := (131, [some (.inr (some a0)), some (.inr r1), some (.inl x2), some (.inl x3)], [.inr (some a0), .inr (some a0)], M)) sm_a136_130 rfl rfl rfl ?_
    obtain ⟨h_2, h⟩ := h
    refine ru_go (t := (134, [some (.inr (some a0)), some (.inr r1), some (.inl x2), some (.inl x3)], [.inl (sm_I M a0 10), .inr (some a0)], M)) sm_a136_131 rfl rfl (st_getI h_2 rfl) ?_
    refine ru_go (t := (135, [some (.inr (some a0)), some (.inr r1), some (.inl x2), some (.inl x3)], [.inl x2, .inl (sm_I M a0 10), .inr (some a0)], M)) sm_a136_134 rfl rfl rfl ?_
    refine ru_go (t := (136, [some (.inr (some a0)), some (.inr r1), some (.inl x2), some (.inl x3)], [.inl ((sm_I M a0 10) + x2), .inr (some a0)], M)) sm_a136_135 rfl rfl rfl ?_
    refine ru_go (t := (139, [some (.inr (some a0)), some (.inr r1), some (.inl x2), some (.inl x3)], [], sm_putI M a0 10 ((sm_I M a0 10) + x2))) sm_a136_136 rfl rfl (st_putI h_2 rfl) ?_
    refine ru_go (t := (140, [some (.inr (some a0)), some (.inr r1), some (.inl x2), some (.inl x3)], [.inr r1], sm_putI M a0 10 ((sm_I M a0 10) + x2))) sm_a136_139 rfl rfl rfl ?_
    obtain ⟨b_3, hb_4, h⟩ := h
    rw [hb_4]
    obtain ⟨h_5, h⟩ := h
    refine ru_go (t := (143, [some (.inr (some a0)), some (.inr (some b_3)), some (.inl x2), some (.inl x3)], [.inl (sm_I (sm_putI M a0 10 ((sm_I M a0 10) + x2)) b_3 4)], sm_putI M a0 10 ((sm_I M a0 10) + x2))) sm_a136_140 rfl rfl (st_getI h_5 rfl) ?_
    refine ru_go (t := (144, [some (.inr (some a0)), some (.inr (some b_3)), some (.inl x2), some (.inl x3)], [.inl x2, .inl (sm_I (sm_putI M a0 10 ((sm_I M a0 10) + x2)) b_3 4)], sm_putI M a0 10 ((sm_I M a0 10) + x2))) sm_a136_143 rfl rfl rfl ?_
    refine ru_icmp (pc := 144) (p := 155) (p2 := 147) sm_a136_144 (by decide) rfl ⟨fun hc_6 => ?_, fun hc_6 => ?_⟩
    · have h := h.1 hc_6
      refine ru_go (t := (156, [some (.inr (some a0)), some (.inr (some b_3)), some (.inl x2), some (.inl x3)], [.inr (some a0)], sm_putI M a0 10 ((sm_I M a0 10) + x2))) sm_a136_155 rfl rfl rfl ?_
      refine ru_go (t := (159, [some (.inr (some a0)), some (.inr (some b_3)), some (.inl x2), some (.inl x3)], [.inl (sm_I (sm_putI M a0 10 ((sm_I M a0 10) + x2)) a0 10)], sm_putI M a0 10 ((sm_I M a0 10) + x2))) sm_a136_156 rfl rfl (st_getI h_2 rfl) ?_
      refine ru_go (t := (160, [some (.inr (some a0)), some (.inr (some b_3)), some (.inl x2), some (.inl x3)], [.inr (some a0), .inl (sm_I (sm_putI M a0 10 ((sm_I M a0 10) + x2)) a0 10)], sm_putI M a0 10 ((sm_I M a0 10) + x2))) sm_a136_159 rfl rfl rfl ?_
      refine ru_go (t := (163, [some (.inr (some a0)), some (.inr (some b_3)), some (.inl x2), some (.inl x3)], [.inr (sm_R (sm_putI M a0 10 ((sm_I M a0 10) + x2)) a0 4), .inl (sm_I (sm_putI M a0 10 ((sm_I M a0 10) + x2)) a0 10)], sm_putI M a0 10 ((sm_I M a0 10) + x2))) sm_a136_160 rfl rfl (st_getR h_2 rfl rfl) ?_
      obtain ⟨b_7, hb_8, h⟩ := h
      rw [hb_8]
      obtain ⟨h_9, h⟩ := h
      refine ru_go (t := (164, [some (.inr (some a0)), some (.inr (some b_3)), some (.inl x2), some (.inl x3)], [.inl (Int32.ofNat (sm_L M b_7)), .inl (sm_I (sm_putI M a0 10 ((sm_I M a0 10) + x2)) a0 10)], sm_putI M a0 10 ((sm_I M a0 10) + x2))) sm_a136_163 rfl rfl (st_alen h_9) ?_
      refine ru_icmp (pc := 164) (p := 178) (p2 := 167) sm_a136_164 (by decide) rfl ⟨fun hc_10 => ?_, fun hc_10 => ?_⟩
      · have h := h.1 hc_10
        refine ru_go (t := (179, [some (.inr (some a0)), some (.inr (some b_3)), some (.inl x2), some (.inl x3)], [.inr (some a0)], sm_putI M a0 10 ((sm_I M a0 10) + x2))) sm_a136_178 rfl rfl rfl ?_
        exact ru_call (p := 182) sm_a136_179 rfl (sc_virt (Or.inl rfl) rfl rfl h_2 (Nat.le_of_ble_eq_true rfl)) rfl h
      · have h := h.2 hc_10
        refine ru_go (t := (168, [some (.inr (some a0)), some (.inr (some b_3)), some (.inl x2), some (.inl x3)], [.inr (some b_3)], sm_putI M a0 10 ((sm_I M a0 10) + x2))) sm_a136_167 rfl rfl rfl ?_
        refine ru_go (t := (171, [some (.inr (some a0)), some (.inr (some b_3)), some (.inl x2), some (.inl x3)], [.inl (sm_I (sm_putI M a0 10 ((sm_I M a0 10) + x2)) b_3 4)], sm_putI M a0 10 ((sm_I M a0 10) + x2))) sm_a136_168 rfl rfl (st_getI h_5 rfl) ?_
        refine ru_go (t := (172, [some (.inr (some a0)), some (.inr (some b_3)), some (.inl x2), some (.inl x3)], [.inr (some a0), .inl (sm_I (sm_putI M a0 10 ((sm_I M a0 10) + x2)) b_3 4)], sm_putI M a0 10 ((sm_I M a0 10) + x2))) sm_a136_171 rfl rfl rfl ?_
        refine ru_go (t := (175, [some (.inr (some a0)), some (.inr (some b_3)), some (.inl x2), some (.inl x3)], [.inl (sm_I (sm_putI M a0 10 ((sm_I M a0 10) + x2)) a0 2), .inl (sm_I (sm_putI M a0 10 ((sm_I M a0 10) + x2)) b_3 4)], sm_putI M a0 10 ((sm_I M a0 10) + x2))) sm_a136_172 rfl rfl (st_getI h_2 rfl) ?_
        refine ru_icmp (pc := 175) (p := 182) (p2 := 178) sm_a136_175 (by decide) rfl ⟨fun hc_11 => ?_, fun hc_11 => ?_⟩
        · have h := h.1 hc_11
          refine ru_go (t := (183, [some (.inr (some a0)), some (.inr (some b_3)), some (.inl x2), some (.inl x3)], [.inl 1], sm_putI M a0 10 ((sm_I M a0 10) + x2))) sm_a136_182 rfl rfl (st_iconst (by decide)) ?_
          exact ru_ret sm_a136_183 (sm_rvz rfl (by decide)) h
        · have h := h.2 hc_11
          refine ru_go (t := (179, [some (.inr (some a0)), some (.inr (some b_3)), some (.inl x2), some (.inl x3)], [.inr (some a0)], sm_putI M a0 10 ((sm_I M a0 10) + x2))) sm_a136_178 rfl rfl rfl ?_
          exact ru_call (p := 182) sm_a136_179 rfl (sc_virt (Or.inl rfl) rfl rfl h_2 (Nat.le_of_ble_eq_true rfl)) rfl h
    · have h := h.2 hc_6
      refine ru_go (t := (148, [some (.inr (some a0)), some (.inr (some b_3)), some (.inl x2), some (.inl x3)], [.inr (some a0)], sm_putI M a0 10 ((sm_I M a0 10) + x2))) sm_a136_147 rfl rfl rfl ?_
      refine ru_go (t := (149, [some (.inr (some a0)), some (.inr (some b_3)), some (.inl x2), some (.inl x3)], [.inl 3, .inr (some a0)], sm_putI M a0 10 ((sm_I M a0 10) + x2))) sm_a136_148 rfl rfl (st_iconst (by decide)) ?_
      refine ru_go (t := (152, [some (.inr (some a0)), some (.inr (some b_3)), some (.inl x2), some (.inl x3)], [], sm_putI (sm_putI M a0 10 ((sm_I M a0 10) + x2)) a0 11 3)) sm_a136_149 rfl rfl (st_putI h_2 rfl) ?_
      refine ru_go (t := (182, [some (.inr (some a0)), some (.inr (some b_3)), some (.inl x2), some (.inl x3)], [], sm_putI (sm_putI M a0 10 ((sm_I M a0 10) + x2)) a0 11 3)) sm_a136_152 rfl rfl (st_goto (pc := 152) (by decide)) ?_
      refine ru_go (t := (183, [some (.inr (some a0)), some (.inr (some b_3)), some (.inl x2), some (.inl x3)], [.inl 1], sm_putI (sm_putI M a0 10 ((sm_I M a0 10) + x2)) a0 11 3)) sm_a136_182 rfl rfl (st_iconst (by decide)) ?_
      exact ru_ret sm_a136_183 (sm_rvz rfl (by decide)) h
  · have h := h.2 hc_1
    refine ru_go (t := (108, [some (.inr (some a0)), some (.inr r1), some (.inl x2), some (.inl x3)], [.inr (some a0)], M)) sm_a136_107 rfl rfl rfl ?_
    obtain ⟨h_12, h⟩ := h
    refine ru_go (t := (111, [some (.inr (some a0)), some (.inr r1), some (.inl x2), some (.inl x3)], [.inr (sm_R M a0 4)], M)) sm_a136_108 rfl rfl (st_getR h_12 rfl rfl) ?_
    refine ru_go (t := (112, [some (.inr (some a0)), some (.inr r1), some (.inl x2), some (.inl x3)], [.inr (some a0), .inr (sm_R M a0 4)], M)) sm_a136_111 rfl rfl rfl ?_
    refine ru_go (t := (115, [some (.inr (some a0)), some (.inr r1), some (.inl x2), some (.inl x3)], [.inl (sm_I M a0 10), .inr (sm_R M a0 4)], M)) sm_a136_112 rfl rfl (st_getI h_12 rfl) ?_
    refine ru_go (t := (116, [some (.inr (some a0)), some (.inr r1), some (.inl x2), some (.inl x3)], [.inl x3, .inl (sm_I M a0 10), .inr (sm_R M a0 4)], M)) sm_a136_115 rfl rfl rfl ?_
    refine ru_go (t := (117, [some (.inr (some a0)), some (.inr r1), some (.inl x2), some (.inl x3)], [.inl ((sm_I M a0 10) + x3), .inr (sm_R M a0 4)], M)) sm_a136_116 rfl rfl rfl ?_
    refine ru_go (t := (118, [some (.inr (some a0)), some (.inr r1), some (.inl x2), some (.inl x3)], [.inr r1, .inl ((sm_I M a0 10) + x3), .inr (sm_R M a0 4)], M)) sm_a136_117 rfl rfl rfl ?_
    refine ru_go (t := (119, [some (.inr (some a0)), some (.inr r1), some (.inl x2), some (.inl x3)], [.inl x3, .inr r1, .inl ((sm_I M a0 10) + x3), .inr (sm_R M a0 4)], M)) sm_a136_118 rfl rfl rfl ?_
    obtain ⟨b_13, hb_14, h⟩ := h
    rw [hb_14]
    obtain ⟨h_15, h⟩ := h
    exact ru_call (p := 122) sm_a136_119 rfl (sc_virt (Or.inl rfl) rfl rfl h_15 (Nat.le_of_ble_eq_true rfl)) rfl h
theorem bb_136_122 {d : Nat} {M : sm_M} {Q : Option sm_V → sm_M → Prop} {a0 : Nat} {r1 : Option Nat} {x2 : Int32} {x3 : Int32} {y0 : Int32} {y1 : Int32} {t2 : Option Nat}
    (h : ∃ b_1, t2 = some b_1 ∧ sm_wA 0 M b_1 ∧ sm_in_ M b_1 y1 ∧ sm_Run (d + 1) 136 102 [some (.inr (some a0)), some (.inr r1), some (.inl x2), some (.inl (x3 + 1))] [] (sm_putI M b_1 (y1).toNatClampNeg y0) Q) :
    sm_Run (d + 1) 136 122 [some (.inr (some a0)), some (.inr r1), some (.inl x2), some (.inl x3)] [.inl y0, .inl y1, .inr t2] M Q := by
  obtain ⟨b_1, hb_2, h⟩ := h
  rw [hb_2]
  obtain ⟨h_3, h⟩ := h
  obtain ⟨h_4, h⟩ := h
  refine ru_go (t := (123, [some (.inr (some a0)), some (.inr r1), some (.inl x2), some (.inl x3)], [], sm_putI M b_1 (y1).toNatClampNeg y0)) sm_a136_122 rfl rfl (st_iast h_3 h_4) ?_
  refine ru_go (t := (126, [some (.inr (some a0)), some (.inr r1), some (.inl x2), some (.inl (x3 + 1))], [], sm_putI M b_1 (y1).toNatClampNeg y0)) sm_a136_123 rfl rfl (st_iinc rfl (by decide)) ?_
  refine ru_go (t := (102, [some (.inr (some a0)), some (.inr r1), some (.inl x2), some (.inl (x3 + 1))], [], sm_putI M b_1 (y1).toNatClampNeg y0)) sm_a136_126 rfl rfl (st_goto (pc := 126) (by decide)) ?_
  exact h
theorem bb_136_182 {d : Nat} {M : sm_M} {Q : Option sm_V → sm_M → Prop} {a0 : Nat} {r1 : Option Nat} {x2 : Int32} {x3 : Int32}
    (h : Q (some (.inl 1)) M) :
    sm_Run (d + 1) 136 182 [some (.inr (some a0)), some (.inr r1), some (.inl x2), some (.inl x3)] [] M Q := by
  refine ru_go (t := (183, [some (.inr (some a0)), some (.inr r1), some (.inl x2), some (.inl x3)], [.inl 1], M)) sm_a136_182 rfl rfl (st_iconst (by decide)) ?_
  exact ru_ret sm_a136_183 (sm_rvz rfl (by decide)) h
