/-! WireBus.<init>:(I)V -/
theorem sm_a0_0 : sm_at 0 0 = some (.aload_n 0, 1, (0, 0, 0, 0)) := by decide +kernel
theorem sm_a0_1 : sm_at 0 1 = some (.invokespecial 3, 3, (1, 0, 0, 102)) := by decide +kernel
theorem sm_a0_4 : sm_at 0 4 = some (.aload_n 0, 1, (0, 0, 0, 0)) := by decide +kernel
theorem sm_a0_5 : sm_at 0 5 = some (.bipush 20, 2, (0, 0, 0, 0)) := by decide +kernel
theorem sm_a0_7 : sm_at 0 7 = some (.newarray .int, 2, (0, 0, 0, 0)) := by decide +kernel
theorem sm_a0_9 : sm_at 0 9 = some (.putfield 9, 3, (0, 1, 0, 462)) := by decide +kernel
theorem sm_a0_12 : sm_at 0 12 = some (.aload_n 0, 1, (0, 0, 0, 0)) := by decide +kernel
theorem sm_a0_13 : sm_at 0 13 = some (.new 13, 3, (1, 0, 0, 105)) := by decide +kernel
theorem sm_a0_16 : sm_at 0 16 = some (.dup, 1, (0, 0, 0, 0)) := by decide +kernel
theorem sm_a0_17 : sm_at 0 17 = some (.sipush 200, 3, (0, 0, 0, 0)) := by decide +kernel
theorem sm_a0_20 : sm_at 0 20 = some (.invokespecial 15, 3, (14, 29, 1, 107)) := by decide +kernel
theorem sm_a0_23 : sm_at 0 23 = some (.putfield 18, 3, (0, 2, 0, 463)) := by decide +kernel
theorem sm_a0_26 : sm_at 0 26 = some (.aload_n 0, 1, (0, 0, 0, 0)) := by decide +kernel
theorem sm_a0_27 : sm_at 0 27 = some (.new 22, 3, (11, 0, 0, 127)) := by decide +kernel
theorem sm_a0_30 : sm_at 0 30 = some (.dup, 1, (0, 0, 0, 0)) := by decide +kernel
theorem sm_a0_31 : sm_at 0 31 = some (.invokespecial 24, 3, (14, 137, 11, 129)) := by decide +kernel
theorem sm_a0_34 : sm_at 0 34 = some (.putfield 25, 3, (0, 3, 0, 464)) := by decide +kernel
theorem sm_a0_37 : sm_at 0 37 = some (.aload_n 0, 1, (0, 0, 0, 0)) := by decide +kernel
theorem sm_a0_38 : sm_at 0 38 = some (.new 29, 3, (6, 0, 0, 340)) := by decide +kernel
theorem sm_a0_41 : sm_at 0 41 = some (.dup, 1, (0, 0, 0, 0)) := by decide +kernel
theorem sm_a0_42 : sm_at 0 42 = some (.invokespecial 31, 3, (14, 84, 6, 342)) := by decide +kernel
theorem sm_a0_45 : sm_at 0 45 = some (.putfield 32, 3, (0, 4, 0, 465)) := by decide +kernel
theorem sm_a0_48 : sm_at 0 48 = some (.aload_n 0, 1, (0, 0, 0, 0)) := by decide +kernel
theorem sm_a0_49 : sm_at 0 49 = some (.iconst 1, 1, (0, 0, 0, 0)) := by decide +kernel
theorem sm_a0_50 : sm_at 0 50 = some (.bipush 40, 2, (0, 0, 0, 0)) := by decide +kernel
theorem sm_a0_52 : sm_at 0 52 = some (.iload_n 1, 1, (0, 0, 0, 0)) := by decide +kernel
theorem sm_a0_53 : sm_at 0 53 = some (.invokestatic 36, 3, (3, 0, 0, 457)) := by decide +kernel
theorem sm_a0_56 : sm_at 0 56 = some (.invokestatic 42, 3, (2, 0, 0, 460)) := by decide +kernel
theorem sm_a0_59 : sm_at 0 59 = some (.putfield 45, 3, (0, 0, 0, 461)) := by decide +kernel
theorem sm_a0_62 : sm_at 0 62 = some (.return_, 1, (0, 0, 0, 0)) := by decide +kernel
theorem bb_0_0 {d : Nat} {M : sm_M} {Q : Option sm_V → sm_M → Prop} {a0 : Nat} {x1 : Int32}
    (h : sm_K (sm_new M 2 (20 : Int32).toNatClampNeg (20 : Int32).toNatClampNeg) a0 = 3 ∧ sm_Run d 29 0 (sm_ent 29 [.inr (some (sm_N (sm_putR (sm_new M 2 (20 : Int32).toNatClampNeg (20 : Int32).toNatClampNeg) a0 1 (some (sm_N M))))), .inl 200]) [] (sm_new (sm_putR (sm_new M 2 (20 : Int32).toNatClampNeg (20 : Int32).toNatClampNeg) a0 1 (some (sm_N M))) 6 0 3) (fun v M1 => sm_Run (d + 1) 0 23 [some (.inr (some a0)), some (.inl x1)] (v.toList ++ [.inr (some (sm_N (sm_putR (sm_new M 2 (20 : Int32).toNatClampNeg (20 : Int32).toNatClampNeg) a0 1 (some (sm_N M))))), .inr (some a0)]) M1 Q)) :
    sm_Run (d + 1) 0 0 [some (.inr (some a0)), some (.inl x1)] [] M Q := by
  refine ru_go (t := (1, [some (.inr (some a0)), some (.inl x1)], [.inr (some a0)], M)) sm_a0_0 rfl rfl rfl ?_
  refine ru_go (t := (4, [some (.inr (some a0)), some (.inl x1)], [], M)) sm_a0_1 rfl rfl (st_oi (Nat.le_of_ble_eq_true rfl)) ?_
  refine ru_go (t := (5, [some (.inr (some a0)), some (.inl x1)], [.inr (some a0)], M)) sm_a0_4 rfl rfl rfl ?_
  refine ru_go (t := (7, [some (.inr (some a0)), some (.inl x1)], [.inl 20, .inr (some a0)], M)) sm_a0_5 rfl rfl (st_bipush (by decide)) ?_
  refine ru_go (t := (9, [some (.inr (some a0)), some (.inl x1)], [.inr (some (sm_N M)), .inr (some a0)], sm_new M 2 (20 : Int32).toNatClampNeg (20 : Int32).toNatClampNeg)) sm_a0_7 rfl rfl (st_newa (by decide)) ?_
  obtain ⟨h_1, h⟩ := h
  refine ru_go (t := (12, [some (.inr (some a0)), some (.inl x1)], [], sm_putR (sm_new M 2 (20 : Int32).toNatClampNeg (20 : Int32).toNatClampNeg) a0 1 (some (sm_N M)))) sm_a0_9 rfl rfl (st_putR h_1 rfl) ?_
  refine ru_go (t := (13, [some (.inr (some a0)), some (.inl x1)], [.inr (some a0)], sm_putR (sm_new M 2 (20 : Int32).toNatClampNeg (20 : Int32).toNatClampNeg) a0 1 (some (sm_N M)))) sm_a0_12 rfl rfl rfl ?_
  refine ru_go (t := (16, [some (.inr (some a0)), some (.inl x1)], [.inr (some (sm_N (sm_putR (sm_new M 2 (20 : Int32).toNatClampNeg (20 : Int32).toNatClampNeg) a0 1 (some (sm_N M))))), .inr (some a0)], sm_new (sm_putR (sm_new M 2 (20 : Int32).toNatClampNeg (20 : Int32).toNatClampNeg) a0 1 (some (sm_N M))) 6 0 3)) sm_a0_13 rfl rfl rfl ?_
  refine ru_go (t := (17, [some (.inr (some a0)), some (.inl x1)], [.inr (some (sm_N (sm_putR (sm_new M 2 (20 : Int32).toNatClampNeg (20 : Int32).toNatClampNeg) a0 1 (some (sm_N M))))), .inr (some (sm_N (sm_putR (sm_new M 2 (20 : Int32).toNatClampNeg (20 : Int32).toNatClampNeg) a0 1 (some (sm_N M))))), .inr (some a0)], sm_new (sm_putR (sm_new M 2 (20 : Int32).toNatClampNeg (20 : Int32).toNatClampNeg) a0 1 (some (sm_N M))) 6 0 3)) sm_a0_16 rfl rfl rfl ?_
  refine ru_go (t := (20, [some (.inr (some a0)), some (.inl x1)], [.inl 200, .inr (some (sm_N (sm_putR (sm_new M 2 (20 : Int32).toNatClampNeg (20 : Int32).toNatClampNeg) a0 1 (some (sm_N M))))), .inr (some (sm_N (sm_putR (sm_new M 2 (20 : Int32).toNatClampNeg (20 : Int32).toNatClampNeg) a0 1 (some (sm_N M))))), .inr (some a0)], sm_new (sm_putR (sm_new M 2 (20 : Int32).toNatClampNeg (20 : Int32).toNatClampNeg) a0 1 (some (sm_N M))) 6 0 3)) sm_a0_17 rfl rfl (st_sipush (by decide)) ?_
  exact ru_call (p := 23) sm_a0_20 rfl (sc_spec (Or.inl rfl) rfl rfl (Nat.le_of_ble_eq_true rfl)) rfl h
theorem bb_0_23 {d : Nat} {M : sm_M} {Q : Option sm_V → sm_M → Prop} {a0 : Nat} {x1 : Int32} {t0 : Option Nat} {b1 : Nat}
    (h : sm_K M b1 = 3 ∧ sm_Run d 137 0 (sm_ent 137 [.inr (some (sm_N (sm_putR M b1 2 t0)))]) [] (sm_new (sm_putR M b1 2 t0) 36 0 10) (fun v M1 => sm_Run (d + 1) 0 34 [some (.inr (some a0)), some (.inl x1)] (v.toList ++ [.inr (some (sm_N (sm_putR M b1 2 t0))), .inr (some a0)]) M1 Q)) :
    sm_Run (d + 1) 0 23 [some (.inr (some a0)), some (.inl x1)] [.inr t0, .inr (some b1)] M Q := by
  obtain ⟨h_1, h⟩ := h
  refine ru_go (t := (26, [some (.inr (some a0)), some (.inl x1)], [], sm_putR M b1 2 t0)) sm_a0_23 rfl rfl (st_putR h_1 rfl) ?_
  refine ru_go (t := (27, [some (.inr (some a0)), some (.inl x1)], [.inr (some a0)], sm_putR M b1 2 t0)) sm_a0_26 rfl rfl rfl ?_
  refine ru_go (t := (30, [some (.inr (some a0)), some (.inl x1)], [.inr (some (sm_N (sm_putR M b1 2 t0))), .inr (some a0)], sm_new (sm_putR M b1 2 t0) 36 0 10)) sm_a0_27 rfl rfl rfl ?_
  refine ru_go (t := (31, [some (.inr (some a0)), some (.inl x1)], [.inr (some (sm_N (sm_putR M b1 2 t0))), .inr (some (sm_N (sm_putR M b1 2 t0))), .inr (some a0)], sm_new (sm_putR M b1 2 t0) 36 0 10)) sm_a0_30 rfl rfl rfl ?_
  exact ru_call (p := 34) sm_a0_31 rfl (sc_spec (Or.inl rfl) rfl rfl (Nat.le_of_ble_eq_true rfl)) rfl h
theorem bb_0_34 {d : Nat} {M : sm_M} {Q : Option sm_V → sm_M → Prop} {a0 : Nat} {x1 : Int32} {t0 : Option Nat} {b1 : Nat}
    (h : sm_K M b1 = 3 ∧ sm_Run d 84 0 (sm_ent 84 [.inr (some (sm_N (sm_putR M b1 3 t0)))]) [] (sm_new (sm_putR M b1 3 t0) 21 0 9) (fun v M1 => sm_Run (d + 1) 0 45 [some (.inr (some a0)), some (.inl x1)] (v.toList ++ [.inr (some (sm_N (sm_putR M b1 3 t0))), .inr (some a0)]) M1 Q)) :
    sm_Run (d + 1) 0 34 [some (.inr (some a0)), some (.inl x1)] [.inr t0, .inr (some b1)] M Q := by
  obtain ⟨h_1, h⟩ := h
  refine ru_go (t := (37, [some (.inr (some a0)), some (.inl x1)], [], sm_putR M b1 3 t0)) sm_a0_34 rfl rfl (st_putR h_1 rfl) ?_
  refine ru_go (t := (38, [some (.inr (some a0)), some (.inl x1)], [.inr (some a0)], sm_putR M b1 3 t0)) sm_a0_37 rfl rfl rfl ?_
  refine ru_go (t := (41, [some (.inr (some a0)), some (.inl x1)], [.inr (some (sm_N (sm_putR M b1 3 t0))), .inr (some a0)], sm_new (sm_putR M b1 3 t0) 21 0 9)) sm_a0_38 rfl rfl rfl ?_
  refine ru_go (t := (42, [some (.inr (some a0)), some (.inl x1)], [.inr (some (sm_N (sm_putR M b1 3 t0))), .inr (some (sm_N (sm_putR M b1 3 t0))), .inr (some a0)], sm_new (sm_putR M b1 3 t0) 21 0 9)) sm_a0_41 rfl rfl rfl ?_
  exact ru_call (p := 45) sm_a0_42 rfl (sc_spec (Or.inl rfl) rfl rfl (Nat.le_of_ble_eq_true rfl)) rfl h
theorem bb_0_45 {d : Nat} {M : sm_M} {Q : Option sm_V → sm_M → Prop} {a0 : Nat} {x1 : Int32} {t0 : Option Nat} {b1 : Nat}
    (h : sm_K M b1 = 3 ∧ sm_K M a0 = 3 ∧ Q none (sm_putI (sm_putR M b1 4 t0) a0 0 (if 1 < if x1 < 40 then x1 else 40 then if x1 < 40 then x1 else 40 else 1))) :
    sm_Run (d + 1) 0 45 [some (.inr (some a0)), some (.inl x1)] [.inr t0, .inr (some b1)] M Q := by
  obtain ⟨h_1, h⟩ := h
  refine ru_go (t := (48, [some (.inr (some a0)), some (.inl x1)], [], sm_putR M b1 4 t0)) sm_a0_45 rfl rfl (st_putR h_1 rfl) ?_
  refine ru_go (t := (49, [some (.inr (some a0)), some (.inl x1)], [.inr (some a0)], sm_putR M b1 4 t0)) sm_a0_48 rfl rfl rfl ?_
  refine ru_go (t := (50, [some (.inr (some a0)), some (.inl x1)], [.inl 1, .inr (some a0)], sm_putR M b1 4 t0)) sm_a0_49 rfl rfl (st_iconst (by decide)) ?_
  refine ru_go (t := (52, [some (.inr (some a0)), some (.inl x1)], [.inl 40, .inl 1, .inr (some a0)], sm_putR M b1 4 t0)) sm_a0_50 rfl rfl (st_bipush (by decide)) ?_
  refine ru_go (t := (53, [some (.inr (some a0)), some (.inl x1)], [.inl x1, .inl 40, .inl 1, .inr (some a0)], sm_putR M b1 4 t0)) sm_a0_52 rfl rfl rfl ?_
  refine ru_go (t := (56, [some (.inr (some a0)), some (.inl x1)], [.inl (if x1 < 40 then x1 else 40), .inl 1, .inr (some a0)], sm_putR M b1 4 t0)) sm_a0_53 rfl rfl (st_min (Nat.le_of_ble_eq_true rfl)) ?_
  refine ru_go (t := (59, [some (.inr (some a0)), some (.inl x1)], [.inl (if 1 < if x1 < 40 then x1 else 40 then if x1 < 40 then x1 else 40 else 1), .inr (some a0)], sm_putR M b1 4 t0)) sm_a0_56 rfl rfl (st_max (Nat.le_of_ble_eq_true rfl)) ?_
  obtain ⟨h_2, h⟩ := h
  refine ru_go (t := (62, [some (.inr (some a0)), some (.inl x1)], [], sm_putI (sm_putR M b1 4 t0) a0 0 (if 1 < if x1 < 40 then x1 else 40 then if x1 < 40 then x1 else 40 else 1))) sm_a0_59 rfl rfl (st_putI h_2 rfl) ?_
  exact ru_ret sm_a0_62 (sm_rvv rfl) h

/-! WireBus.feed:(IIIII)V -/
theorem sm_a1_0 : sm_at 1 0 = some (.aload_n 0, 1, (0, 0, 0, 0)) := by decide +kernel
theorem sm_a1_1 : sm_at 1 1 = some (.iconst 0, 1, (0, 0, 0, 0)) := by decide +kernel
theorem sm_a1_2 : sm_at 1 2 = some (.iload_n 1, 1, (0, 0, 0, 0)) := by decide +kernel
theorem sm_a1_3 : sm_at 1 3 = some (.invokevirtual 49, 3, (10, 2, 0, 481)) := by decide +kernel
theorem sm_a1_6 : sm_at 1 6 = some (.aload_n 0, 1, (0, 0, 0, 0)) := by decide +kernel
theorem sm_a1_7 : sm_at 1 7 = some (.iconst 4, 1, (0, 0, 0, 0)) := by decide +kernel
theorem sm_a1_8 : sm_at 1 8 = some (.iload_n 2, 1, (0, 0, 0, 0)) := by decide +kernel
theorem sm_a1_9 : sm_at 1 9 = some (.invokevirtual 49, 3, (10, 2, 0, 481)) := by decide +kernel
theorem sm_a1_12 : sm_at 1 12 = some (.aload_n 0, 1, (0, 0, 0, 0)) := by decide +kernel
theorem sm_a1_13 : sm_at 1 13 = some (.bipush 8, 2, (0, 0, 0, 0)) := by decide +kernel
theorem sm_a1_15 : sm_at 1 15 = some (.iload_n 3, 1, (0, 0, 0, 0)) := by decide +kernel
theorem sm_a1_16 : sm_at 1 16 = some (.invokevirtual 49, 3, (10, 2, 0, 481)) := by decide +kernel
theorem sm_a1_19 : sm_at 1 19 = some (.aload_n 0, 1, (0, 0, 0, 0)) := by decide +kernel
theorem sm_a1_20 : sm_at 1 20 = some (.bipush 12, 2, (0, 0, 0, 0)) := by decide +kernel
theorem sm_a1_22 : sm_at 1 22 = some (.iload 4, 2, (0, 0, 0, 0)) := by decide +kernel
theorem sm_a1_24 : sm_at 1 24 = some (.invokevirtual 49, 3, (10, 2, 0, 481)) := by decide +kernel
theorem sm_a1_27 : sm_at 1 27 = some (.aload_n 0, 1, (0, 0, 0, 0)) := by decide +kernel
theorem sm_a1_28 : sm_at 1 28 = some (.bipush 16, 2, (0, 0, 0, 0)) := by decide +kernel
theorem sm_a1_30 : sm_at 1 30 = some (.iload 5, 2, (0, 0, 0, 0)) := by decide +kernel
theorem sm_a1_32 : sm_at 1 32 = some (.invokevirtual 49, 3, (10, 2, 0, 481)) := by decide +kernel
theorem sm_a1_35 : sm_at 1 35 = some (.return_, 1, (0, 0, 0, 0)) := by decide +kernel
theorem bb_1_0 {d : Nat} {M : sm_M} {Q : Option sm_V → sm_M → Prop} {a0 : Nat} {x1 : Int32} {x2 : Int32} {x3 : Int32} {x4 : Int32} {x5 : Int32}
    (h : sm_K M a0 = 3 ∧ sm_Run d 2 0 (sm_ent 2 [.inr (some a0), .inl 0, .inl x1]) [] M (fun v M1 => sm_Run (d + 1) 1 6 [some (.inr (some a0)), some (.inl x1), some (.inl x2), some (.inl x3), some (.inl x4), some (.inl x5)] (v.toList ++ []) M1 Q)) :
    sm_Run (d + 1) 1 0 [some (.inr (some a0)), some (.inl x1), some (.inl x2), some (.inl x3), some (.inl x4), some (.inl x5)] [] M Q := by
  refine ru_go (t := (1, [some (.inr (some a0)), some (.inl x1), some (.inl x2), some (.inl x3), some (.inl x4), some (.inl x5)], [.inr (some a0)], M)) sm_a1_0 rfl rfl rfl ?_
  refine ru_go (t := (2, [some (.inr (some a0)), some (.inl x1), some (.inl x2), some (.inl x3), some (.inl x4), some (.inl x5)], [.inl 0, .inr (some a0)], M)) sm_a1_1 rfl rfl (st_iconst (by decide)) ?_
  refine ru_go (t := (3, [some (.inr (some a0)), some (.inl x1), some (.inl x2), some (.inl x3), some (.inl x4), some (.inl x5)], [.inl x1, .inl 0, .inr (some a0)], M)) sm_a1_2 rfl rfl rfl ?_
  obtain ⟨h_1, h⟩ := h
  exact ru_call (p := 6) sm_a1_3 rfl (sc_virt (Or.inl rfl) rfl rfl h_1 (Nat.le_of_ble_eq_true rfl)) rfl h
theorem bb_1_6 {d : Nat} {M : sm_M} {Q : Option sm_V → sm_M → Prop} {a0 : Nat} {x1 : Int32} {x2 : Int32} {x3 : Int32} {x4 : Int32} {x5 : Int32}
    (h : sm_K M a0 = 3 ∧ sm_Run d 2 0 (sm_ent 2 [.inr (some a0), .inl 4, .inl x2]) [] M (fun v M1 => sm_Run (d + 1) 1 12 [some (.inr (some a0)), some (.inl x1), some (.inl x2), some (.inl x3), some (.inl x4), some (.inl x5)] (v.toList ++ []) M1 Q)) :
    sm_Run (d + 1) 1 6 [some (.inr (some a0)), some (.inl x1), some (.inl x2), some (.inl x3), some (.inl x4), some (.inl x5)] [] M Q := by
  refine ru_go (t := (7, [some (.inr (some a0)), some (.inl x1), some (.inl x2), some (.inl x3), some (.inl x4), some (.inl x5)], [.inr (some a0)], M)) sm_a1_6 rfl rfl rfl ?_
  refine ru_go (t := (8, [some (.inr (some a0)), some (.inl x1), some (.inl x2), some (.inl x3), some (.inl x4), some (.inl x5)], [.inl 4, .inr (some a0)], M)) sm_a1_7 rfl rfl (st_iconst (by decide)) ?_
  refine ru_go (t := (9, [some (.inr (some a0)), some (.inl x1), some (.inl x2), some (.inl x3), some (.inl x4), some (.inl x5)], [.inl x2, .inl 4, .inr (some a0)], M)) sm_a1_8 rfl rfl rfl ?_
  obtain ⟨h_1, h⟩ := h
  exact ru_call (p := 12) sm_a1_9 rfl (sc_virt (Or.inl rfl) rfl rfl h_1 (Nat.le_of_ble_eq_true rfl)) rfl h
theorem bb_1_12 {d : Nat} {M : sm_M} {Q : Option sm_V → sm_M → Prop} {a0 : Nat} {x1 : Int32} {x2 : Int32} {x3 : Int32} {x4 : Int32} {x5 : Int32}
    (h : sm_K M a0 = 3 ∧ sm_Run d 2 0 (sm_ent 2 [.inr (some a0), .inl 8, .inl x3]) [] M (fun v M1 => sm_Run (d + 1) 1 19 [some (.inr (some a0)), some (.inl x1), some (.inl x2), some (.inl x3), some (.inl x4), some (.inl x5)] (v.toList ++ []) M1 Q)) :
    sm_Run (d + 1) 1 12 [some (.inr (some a0)), some (.inl x1), some (.inl x2), some (.inl x3), some (.inl x4), some (.inl x5)] [] M Q := by
  refine ru_go (t := (13, [some (.inr (some a0)), some (.inl x1), some (.inl x2), some (.inl x3), some (.inl x4), some (.inl x5)], [.inr (some a0)], M)) sm_a1_12 rfl rfl rfl ?_
  refine ru_go (t := (15, [some (.inr (some a0)), some (.inl x1), some (.inl x2), some (.inl x3), some (.inl x4), some (.inl x5)], [.inl 8, .inr (some a0)], M)) sm_a1_13 rfl rfl (st_bipush (by decide)) ?_
  refine ru_go (t := (16, [some (.inr (some a0)), some (.inl x1), some (.inl x2), some (.inl x3), some (.inl x4), some (.inl x5)], [.inl x3, .inl 8, .inr (some a0)], M)) sm_a1_15 rfl rfl rfl ?_
  obtain ⟨h_1, h⟩ := h
  exact ru_call (p := 19) sm_a1_16 rfl (sc_virt (Or.inl rfl) rfl rfl h_1 (Nat.le_of_ble_eq_true rfl)) rfl h
theorem bb_1_19 {d : Nat} {M : sm_M} {Q : Option sm_V → sm_M → Prop} {a0 : Nat} {x1 : Int32} {x2 : Int32} {x3 : Int32} {x4 : Int32} {x5 : Int32}
    (h : sm_K M a0 = 3 ∧ sm_Run d 2 0 (sm_ent 2 [.inr (some a0), .inl 12, .inl x4]) [] M (fun v M1 => sm_Run (d + 1) 1 27 [some (.inr (some a0)), some (.inl x1), some (.inl x2), some (.inl x3), some (.inl x4), some (.inl x5)] (v.toList ++ []) M1 Q)) :
    sm_Run (d + 1) 1 19 [some (.inr (some a0)), some (.inl x1), some (.inl x2), some (.inl x3), some (.inl x4), some (.inl x5)] [] M Q := by
  refine ru_go (t := (20, [some (.inr (some a0)), some (.inl x1), some (.inl x2), some (.inl x3), some (.inl x4), some (.inl x5)], [.inr (some a0)], M)) sm_a1_19 rfl rfl rfl ?_
  refine ru_go (t := (22, [some (.inr (some a0)), some (.inl x1), some (.inl x2), some (.inl x3), some (.inl x4), some (.inl x5)], [.inl 12, .inr (some a0)], M)) sm_a1_20 rfl rfl (st_bipush (by decide)) ?_
  refine ru_go (t := (24, [some (.inr (some a0)), some (.inl x1), some (.inl x2), some (.inl x3), some (.inl x4), some (.inl x5)], [.inl x4, .inl 12, .inr (some a0)], M)) sm_a1_22 rfl rfl rfl ?_
  obtain ⟨h_1, h⟩ := h
  exact ru_call (p := 27) sm_a1_24 rfl (sc_virt (Or.inl rfl) rfl rfl h_1 (Nat.le_of_ble_eq_true rfl)) rfl h
theorem bb_1_27 {d : Nat} {M : sm_M} {Q : Option sm_V → sm_M → Prop} {a0 : Nat} {x1 : Int32} {x2 : Int32} {x3 : Int32} {x4 : Int32} {x5 : Int32}
    (h : sm_K M a0 = 3 ∧ sm_Run d 2 0 (sm_ent 2 [.inr (some a0), .inl 16, .inl x5]) [] M (fun v M1 => sm_Run (d + 1) 1 35 [some (.inr (some a0)), some (.inl x1), some (.inl x2), some (.inl x3), some (.inl x4), some (.inl x5)] (v.toList ++ []) M1 Q)) :
    sm_Run (d + 1) 1 27 [some (.inr (some a0)), some (.inl x1), some (.inl x2), some (.inl x3), some (.inl x4), some (.inl x5)] [] M Q := by
  refine ru_go (t := (28, [some (.inr (some a0)), some (.inl x1), some (.inl x2), some (.inl x3), some (.inl x4), some (.inl x5)], [.inr (some a0)], M)) sm_a1_27 rfl rfl rfl ?_
  refine ru_go (t := (30, [some (.inr (some a0)), some (.inl x1), some (.inl x2), some (.inl x3), some (.inl x4), some (.inl x5)], [.inl 16, .inr (some a0)], M)) sm_a1_28 rfl rfl (st_bipush (by decide)) ?_
  refine ru_go (t := (32, [some (.inr (some a0)), some (.inl x1), some (.inl x2), some (.inl x3), some (.inl x4), some (.inl x5)], [.inl x5, .inl 16, .inr (some a0)], M)) sm_a1_30 rfl rfl rfl ?_
  obtain ⟨h_1, h⟩ := h
  exact ru_call (p := 35) sm_a1_32 rfl (sc_virt (Or.inl rfl) rfl rfl h_1 (Nat.le_of_ble_eq_true rfl)) rfl h
theorem bb_1_35 {d : Nat} {M : sm_M} {Q : Option sm_V → sm_M → Prop} {a0 : Nat} {x1 : Int32} {x2 : Int32} {x3 : Int32} {x4 : Int32} {x5 : Int32}
    (h : Q none M) :
    sm_Run (d + 1) 1 35 [some (.inr (some a0)), some (.inl x1), some (.inl x2), some (.inl x3), some (.inl x4), some (.inl x5)] [] M Q := by
  exact ru_ret sm_a1_35 (sm_rvv rfl) h

/-! WireBus.makeReady:(II)V -/
theorem sm_a2_0 : sm_at 2 0 = some (.iconst 0, 1, (0, 0, 0, 0)) := by decide +kernel
theorem sm_a2_1 : sm_at 2 1 = some (.istore_n 3, 1, (0, 0, 0, 0)) := by decide +kernel
theorem sm_a2_2 : sm_at 2 2 = some (.iload_n 3, 1, (0, 0, 0, 0)) := by decide +kernel
theorem sm_a2_3 : sm_at 2 3 = some (.iconst 4, 1, (0, 0, 0, 0)) := by decide +kernel
theorem sm_a2_4 : sm_at 2 4 = some (.if_icmp .ge 38, 3, (0, 0, 0, 0)) := by decide +kernel
theorem sm_a2_7 : sm_at 2 7 = some (.iload_n 1, 1, (0, 0, 0, 0)) := by decide +kernel
theorem sm_a2_8 : sm_at 2 8 = some (.iload_n 3, 1, (0, 0, 0, 0)) := by decide +kernel
theorem sm_a2_9 : sm_at 2 9 = some (.iadd, 1, (0, 0, 0, 0)) := by decide +kernel
theorem sm_a2_10 : sm_at 2 10 = some (.bipush 20, 2, (0, 0, 0, 0)) := by decide +kernel
theorem sm_a2_12 : sm_at 2 12 = some (.if_icmp .ge 30, 3, (0, 0, 0, 0)) := by decide +kernel
theorem sm_a2_15 : sm_at 2 15 = some (.aload_n 0, 1, (0, 0, 0, 0)) := by decide +kernel
theorem sm_a2_16 : sm_at 2 16 = some (.getfield 9, 3, (0, 1, 0, 462)) := by decide +kernel
theorem sm_a2_19 : sm_at 2 19 = some (.iload_n 1, 1, (0, 0, 0, 0)) := by decide +kernel
theorem sm_a2_20 : sm_at 2 20 = some (.iload_n 3, 1, (0, 0, 0, 0)) := by decide +kernel
theorem sm_a2_21 : sm_at 2 21 = some (.iadd, 1, (0, 0, 0, 0)) := by decide +kernel
theorem sm_a2_22 : sm_at 2 22 = some (.iload_n 2, 1, (0, 0, 0, 0)) := by decide +kernel
theorem sm_a2_23 : sm_at 2 23 = some (.bipush 24, 2, (0, 0, 0, 0)) := by decide +kernel
theorem sm_a2_25 : sm_at 2 25 = some (.bipush 8, 2, (0, 0, 0, 0)) := by decide +kernel
theorem sm_a2_27 : sm_at 2 27 = some (.iload_n 3, 1, (0, 0, 0, 0)) := by decide +kernel
theorem sm_a2_28 : sm_at 2 28 = some (.imul, 1, (0, 0, 0, 0)) := by decide +kernel
theorem sm_a2_29 : sm_at 2 29 = some (.isub, 1, (0, 0, 0, 0)) := by decide +kernel
theorem sm_a2_30 : sm_at 2 30 = some (.ishr, 1, (0, 0, 0, 0)) := by decide +kernel
theorem sm_a2_31 : sm_at 2 31 = some (.sipush 255, 3, (0, 0, 0, 0)) := by decide +kernel
theorem sm_a2_34 : sm_at 2 34 = some (.iand, 1, (0, 0, 0, 0)) := by decide +kernel
theorem sm_a2_35 : sm_at 2 35 = some (.iastore, 1, (0, 0, 0, 0)) := by decide +kernel
theorem sm_a2_36 : sm_at 2 36 = some (.iinc 3 1, 3, (0, 0, 0, 0)) := by decide +kernel
theorem sm_a2_39 : sm_at 2 39 = some (.goto (-37), 3, (0, 0, 0, 0)) := by decide +kernel
theorem sm_a2_42 : sm_at 2 42 = some (.return_, 1, (0, 0, 0, 0)) := by decide +kernel
theorem bb_2_0 {d : Nat} {M : sm_M} {Q : Option sm_V → sm_M → Prop} {a0 : Nat} {x1 : Int32} {x2 : Int32} {z3 : Option sm_V}
    (h : sm_Run d 2 2 [some (.inr (some a0)), some (.inl x1), some (.inl x2), some (.inl 0)] [] M Q) :
    sm_Run d 2 0 [some (.inr (some a0)), some (.inl x1), some (.inl x2), z3] [] M Q := by
  refine ru_go (t := (1, [some (.inr (some a0)), some (.inl x1), some (.inl x2), z3], [.inl 0], M)) sm_a2_0 rfl rfl (st_iconst (by decide)) ?_
  refine ru_go (t := (2, [some (.inr (some a0)), some (.inl x1), some (.inl x2), some (.inl 0)], [], M)) sm_a2_1 rfl rfl rfl ?_
  exact h
theorem bb_2_2 {d : Nat} {M : sm_M} {Q : Option sm_V → sm_M → Prop} {a0 : Nat} {x1 : Int32} {x2 : Int32} {x3 : Int32}
    (h : ((4 ≤ x3 → Q none M) ∧ (¬ (4 ≤ x3) → ((20 ≤ (x1 + x3) → Q none M) ∧ (¬ (20 ≤ (x1 + x3)) → sm_K M a0 = 3 ∧ ∃ b_4, sm_R M a0 1 = some b_4 ∧ sm_wA 0 M b_4 ∧ sm_in_ M b_4 (x1 + x3) ∧ sm_Run d 2 2 [some (.inr (some a0)), some (.inl x1), some (.inl x2), some (.inl (x3 + 1))] [] (sm_putI M b_4 (x1 + x3).toNatClampNeg ((x2 >>> ((24 - (8 * x3)) &&& 31)) &&& 255)) Q))))) :
    sm_Run d 2 2 [some (.inr (some a0)), some (.inl x1), some (.inl x2), some (.inl x3)] [] M Q := by
  refine ru_go (t := (3, [some (.inr (some a0)), some (.inl x1), some (.inl x2), some (.inl x3)], [.inl x3], M)) sm_a2_2 rfl rfl rfl ?_
  refine ru_go (t := (4, [some (.inr (some a0)), some (.inl x1), some (.inl x2), some (.inl x3)], [.inl 4, .inl x3], M)) sm_a2_3 rfl rfl (st_iconst (by decide)) ?_
  refine ru_icmp (pc := 4) (p := 42) (p2 := 7) sm_a2_4 (by decide) rfl ⟨fun hc_1 => ?_, fun hc_1 => ?_⟩
  · have h := h.1 hc_1
    exact ru_ret sm_a2_42 (sm_rvv rfl) h
  · have h := h.2 hc_1
    refine ru_go (t := (8, [some (.inr (some a0)), some (.inl x1), some (.inl x2), some (.inl x3)], [.inl x1], M)) sm_a2_7 rfl rfl rfl ?_
    refine ru_go (t := (9, [some (.inr (some a0)), some (.inl x1), some (.inl x2), some (.inl x3)], [.inl x3, .inl x1], M)) sm_a2_8 rfl rfl rfl ?_
    refine ru_go (t := (10, [some (.inr (some a0)), some (.inl x1), some (.inl x2), some (.inl x3)], [.inl (x1 + x3)], M)) sm_a2_9 rfl rfl rfl ?_
    refine ru_go (t := (12, [some (.inr (some a0)), some (.inl x1), some (.inl x2), some (.inl x3)], [.inl 20, .inl (x1 + x3)], M)) sm_a2_10 rfl rfl (st_bipush (by decide)) ?_
    refine ru_icmp (pc := 12) (p := 42) (p2 := 15) sm_a2_12 (by decide) rfl ⟨fun hc_2 => ?_, fun hc_2 => ?_⟩
    · have h := h.1 hc_2
      exact ru_ret sm_a2_42 (sm_rvv rfl) h
    · have h := h.2 hc_2
      refine ru_go (t := (16, [some (.inr (some a0)), some (.inl x1), some (.inl x2), some (.inl x3)], [.inr (some a0)], M)) sm_a2_15 rfl rfl rfl ?_
      obtain ⟨h_3, h⟩ := h
      refine ru_go (t := (19, [some (.inr (some a0)), some (.inl x1), some (.inl x2), some (.inl x3)], [.inr (sm_R M a0 1)], M)) sm_a2_16 rfl rfl (st_getR h_3 rfl rfl) ?_
      refine ru_go (t := (20, [some (.inr (some a0)), some (.inl x1), some (.inl x2), some (.inl x3)], [.inl x1, .inr (sm_R M a0 1)], M)) sm_a2_19 rfl rfl rfl ?_
      refine ru_go (t := (21, [some (.inr (some a0)), some (.inl x1), some (.inl x2), some (.inl x3)], [.inl x3, .inl x1, .inr (sm_R M a0 1)], M)) sm_a2_20 rfl rfl rfl ?_
      refine ru_go (t := (22, [some (.inr (some a0)), some (.inl x1), some (.inl x2), some (.inl x3)], [.inl (x1 + x3), .inr (sm_R M a0 1)], M)) sm_a2_21 rfl rfl rfl ?_
      refine ru_go (t := (23, [some (.inr (some a0)), some (.inl x1), some (.inl x2), some (.inl x3)], [.inl x2, .inl (x1 + x3), .inr (sm_R M a0 1)], M)) sm_a2_22 rfl rfl rfl ?_
      refine ru_go (t := (25, [some (.inr (some a0)), some (.inl x1), some (.inl x2), some (.inl x3)], [.inl 24, .inl x2, .inl (x1 + x3), .inr (sm_R M a0 1)], M)) sm_a2_23 rfl rfl (st_bipush (by decide)) ?_
      refine ru_go (t := (27, [some (.inr (some a0)), some (.inl x1), some (.inl x2), some (.inl x3)], [.inl 8, .inl 24, .inl x2, .inl (x1 + x3), .inr (sm_R M a0 1)], M)) sm_a2_25 rfl rfl (st_bipush (by decide)) ?_
      refine ru_go (t := (28, [some (.inr (some a0)), some (.inl x1), some (.inl x2), some (.inl x3)], [.inl x3, .inl 8, .inl 24, .inl x2, .inl (x1 + x3), .inr (sm_R M a0 1)], M)) sm_a2_27 rfl rfl rfl ?_
      refine ru_go (t := (29, [some (.inr (some a0)), some (.inl x1), some (.inl x2), some (.inl x3)], [.inl (8 * x3), .inl 24, .inl x2, .inl (x1 + x3), .inr (sm_R M a0 1)], M)) sm_a2_28 rfl rfl rfl ?_
      refine ru_go (t := (30, [some (.inr (some a0)), some (.inl x1), some (.inl x2), some (.inl x3)], [.inl (24 - (8 * x3)), .inl x2, .inl (x1 + x3), .inr (sm_R M a0 1)], M)) sm_a2_29 rfl rfl rfl ?_
      refine ru_go (t := (31, [some (.inr (some a0)), some (.inl x1), some (.inl x2), some (.inl x3)], [.inl (x2 >>> ((24 - (8 * x3)) &&& 31)), .inl (x1 + x3), .inr (sm_R M a0 1)], M)) sm_a2_30 rfl rfl rfl ?_
      refine ru_go (t := (34, [some (.inr (some a0)), some (.inl x1), some (.inl x2), some (.inl x3)], [.inl 255, .inl (x2 >>> ((24 - (8 * x3)) &&& 31)), .inl (x1 + x3), .inr (sm_R M a0 1)], M)) sm_a2_31 rfl rfl (st_sipush (by decide)) ?_
      refine ru_go (t := (35, [some (.inr (some a0)), some (.inl x1), some (.inl x2), some (.inl x3)], [.inl ((x2 >>> ((24 - (8 * x3)) &&& 31)) &&& 255), .inl (x1 + x3), .inr (sm_R M a0 1)], M)) sm_a2_34 rfl rfl rfl ?_
      obtain ⟨b_4, hb_5, h⟩ := h
      rw [hb_5]
      obtain ⟨h_6, h⟩ := h
      obtain ⟨h_7, h⟩ := h
      refine ru_go (t := (36, [some (.inr (some a0)), some (.inl x1), some (.inl x2), some (.inl x3)], [], sm_putI M b_4 (x1 + x3).toNatClampNeg ((x2 >>> ((24 - (8 * x3)) &&& 31)) &&& 255))) sm_a2_35 rfl rfl (st_iast h_6 h_7) ?_
      refine ru_go (t := (39, [some (.inr (some a0)), some (.inl x1), some (.inl x2), some (.inl (x3 + 1))], [], sm_putI M b_4 (x1 + x3).toNatClampNeg ((x2 >>> ((24 - (8 * x3)) &&& 31)) &&& 255))) sm_a2_36 rfl rfl (st_iinc rfl (by decide)) ?_
      refine ru_go (t := (2, [some (.inr (some a0)), some (.inl x1), some (.inl x2), some (.inl (x3 + 1))], [], sm_putI M b_4 (x1 + x3).toNatClampNeg ((x2 >>> ((24 - (8 * x3)) &&& 31)) &&& 255))) sm_a2_39 rfl rfl (st_goto (pc := 39) (by decide)) ?_
      exact h

/-! WireBus.end:(I)I -/
theorem sm_a3_0 : sm_at 3 0 = some (.iload_n 1, 1, (0, 0, 0, 0)) := by decide +kernel
theorem sm_a3_1 : sm_at 3 1 = some (.ifCond .lt 20, 3, (0, 0, 0, 0)) := by decide +kernel
theorem sm_a3_4 : sm_at 3 4 = some (.iload_n 1, 1, (0, 0, 0, 0)) := by decide +kernel
theorem sm_a3_5 : sm_at 3 5 = some (.bipush 20, 2, (0, 0, 0, 0)) := by decide +kernel
theorem sm_a3_7 : sm_at 3 7 = some (.if_icmp .gt 14, 3, (0, 0, 0, 0)) := by decide +kernel
theorem sm_a3_10 : sm_at 3 10 = some (.iload_n 1, 1, (0, 0, 0, 0)) := by decide +kernel
theorem sm_a3_11 : sm_at 3 11 = some (.aload_n 0, 1, (0, 0, 0, 0)) := by decide +kernel
theorem sm_a3_12 : sm_at 3 12 = some (.getfield 18, 3, (0, 2, 0, 463)) := by decide +kernel
theorem sm_a3_15 : sm_at 3 15 = some (.invokevirtual 53, 3, (10, 30, 1, 489)) := by decide +kernel
theorem sm_a3_18 : sm_at 3 18 = some (.if_icmp .le 5, 3, (0, 0, 0, 0)) := by decide +kernel
theorem sm_a3_21 : sm_at 3 21 = some (.iconst (-1), 1, (0, 0, 0, 0)) := by decide +kernel
theorem sm_a3_22 : sm_at 3 22 = some (.ireturn, 1, (0, 0, 0, 0)) := by decide +kernel
theorem sm_a3_23 : sm_at 3 23 = some (.iconst 0, 1, (0, 0, 0, 0)) := by decide +kernel
theorem sm_a3_24 : sm_at 3 24 = some (.istore_n 2, 1, (0, 0, 0, 0)) := by decide +kernel
theorem sm_a3_25 : sm_at 3 25 = some (.iload_n 2, 1, (0, 0, 0, 0)) := by decide +kernel
theorem sm_a3_26 : sm_at 3 26 = some (.iload_n 1, 1, (0, 0, 0, 0)) := by decide +kernel
theorem sm_a3_27 : sm_at 3 27 = some (.if_icmp .ge 22, 3, (0, 0, 0, 0)) := by decide +kernel
theorem sm_a3_30 : sm_at 3 30 = some (.aload_n 0, 1, (0, 0, 0, 0)) := by decide +kernel
theorem sm_a3_31 : sm_at 3 31 = some (.getfield 18, 3, (0, 2, 0, 463)) := by decide +kernel
theorem sm_a3_34 : sm_at 3 34 = some (.aload_n 0, 1, (0, 0, 0, 0)) := by decide +kernel
theorem sm_a3_35 : sm_at 3 35 = some (.getfield 9, 3, (0, 1, 0, 462)) := by decide +kernel
theorem sm_a3_38 : sm_at 3 38 = some (.iload_n 2, 1, (0, 0, 0, 0)) := by decide +kernel
theorem sm_a3_39 : sm_at 3 39 = some (.iaload, 1, (0, 0, 0, 0)) := by decide +kernel
theorem sm_a3_40 : sm_at 3 40 = some (.invokevirtual 57, 3, (10, 33, 1, 493)) := by decide +kernel
theorem sm_a3_43 : sm_at 3 43 = some (.iinc 2 1, 3, (0, 0, 0, 0)) := by decide +kernel
theorem sm_a3_46 : sm_at 3 46 = some (.goto (-21), 3, (0, 0, 0, 0)) := by decide +kernel
theorem sm_a3_49 : sm_at 3 49 = some (.iconst 0, 1, (0, 0, 0, 0)) := by decide +kernel
theorem sm_a3_50 : sm_at 3 50 = some (.istore_n 2, 1, (0, 0, 0, 0)) := by decide +kernel
theorem sm_a3_51 : sm_at 3 51 = some (.iload_n 2, 1, (0, 0, 0, 0)) := by decide +kernel
theorem sm_a3_52 : sm_at 3 52 = some (.bipush 20, 2, (0, 0, 0, 0)) := by decide +kernel
theorem sm_a3_54 : sm_at 3 54 = some (.if_icmp .ge 16, 3, (0, 0, 0, 0)) := by decide +kernel
theorem sm_a3_57 : sm_at 3 57 = some (.aload_n 0, 1, (0, 0, 0, 0)) := by decide +kernel
theorem sm_a3_58 : sm_at 3 58 = some (.getfield 9, 3, (0, 1, 0, 462)) := by decide +kernel
theorem sm_a3_61 : sm_at 3 61 = some (.iload_n 2, 1, (0, 0, 0, 0)) := by decide +kernel
theorem sm_a3_62 : sm_at 3 62 = some (.iconst 0, 1, (0, 0, 0, 0)) := by decide +kernel
theorem sm_a3_63 : sm_at 3 63 = some (.iastore, 1, (0, 0, 0, 0)) := by decide +kernel
theorem sm_a3_64 : sm_at 3 64 = some (.iinc 2 1, 3, (0, 0, 0, 0)) := by decide +kernel
theorem sm_a3_67 : sm_at 3 67 = some (.goto (-16), 3, (0, 0, 0, 0)) := by decide +kernel
theorem sm_a3_70 : sm_at 3 70 = some (.aload_n 0, 1, (0, 0, 0, 0)) := by decide +kernel
theorem sm_a3_71 : sm_at 3 71 = some (.getfield 18, 3, (0, 2, 0, 463)) := by decide +kernel
theorem sm_a3_74 : sm_at 3 74 = some (.getfield 60, 3, (1, 2, 1, 117)) := by decide +kernel
theorem sm_a3_77 : sm_at 3 77 = some (.ireturn, 1, (0, 0, 0, 0)) := by decide +kernel
theorem bb_3_0 {d : Nat} {M : sm_M} {Q : Option sm_V → sm_M → Prop} {a0 : Nat} {x1 : Int32} {z2 : Option sm_V}
    (h : ((x1 < 0 → Q (some (.inl (-1))) M) ∧ (¬ (x1 < 0) → ((20 < x1 → Q (some (.inl (-1))) M) ∧ (¬ (20 < x1) → sm_K M a0 = 3 ∧ ∃ b_4, sm_R M a0 2 = some b_4 ∧ sm_K M b_4 = 6 ∧ sm_Run d 30 0 (sm_ent 30 [.inr (some b_4)]) [] M (fun v M1 => sm_Run (d + 1) 3 18 [some (.inr (some a0)), some (.inl x1), z2] (v.toList ++ [.inl x1]) M1 Q)))))) :
    sm_Run (d + 1) 3 0 [some (.inr (some a0)), some (.inl x1), z2] [] M Q := by
  refine ru_go (t := (1, [some (.inr (some a0)), some (.inl x1), z2], [.inl x1], M)) sm_a3_0 rfl rfl rfl ?_
  refine ru_if (pc := 1) (p := 21) (p2 := 4) sm_a3_1 (by decide) rfl ⟨fun hc_1 => ?_, fun hc_1 => ?_⟩
  · have h := h.1 hc_1
    refine ru_go (t := (22, [some (.inr (some a0)), some (.inl x1), z2], [.inl (-1)], M)) sm_a3_21 rfl rfl (st_iconst (by decide)) ?_
    exact ru_ret sm_a3_22 rfl h
  · have h := h.2 hc_1
    refine ru_go (t := (5, [some (.inr (some a0)), some (.inl x1), z2], [.inl x1], M)) sm_a3_4 rfl rfl rfl ?_
    refine ru_go (t := (7, [some (.inr (some a0)), some (.inl x1), z2], [.inl 20, .inl x1], M)) sm_a3_5 rfl rfl (st_bipush (by decide)) ?_
    refine ru_icmp (pc := 7) (p := 21) (p2 := 10) sm_a3_7 (by decide) rfl ⟨fun hc_2 => ?_, fun hc_2 => ?_⟩
    · have h := h.1 hc_2
      refine ru_go (t := (22, [some (.inr (some a0)), some (.inl x1), z2], [.inl (-1)], M)) sm_a3_21 rfl rfl (st_iconst (by decide)) ?_
      exact ru_ret sm_a3_22 rfl h
    · have h := h.2 hc_2
      refine ru_go (t := (11, [some (.inr (some a0)), some (.inl x1), z2], [.inl x1], M)) sm_a3_10 rfl rfl rfl ?_
      refine ru_go (t := (12, [some (.inr (some a0)), some (.inl x1), z2], [.inr (some a0), .inl x1], M)) sm_a3_11 rfl rfl rfl ?_
      obtain ⟨h_3, h⟩ := h
      refine ru_go (t := (15, [some (.inr (some a0)), some (.inl x1), z2], [.inr (sm_R M a0 2), .inl x1], M)) sm_a3_12 rfl rfl (st_getR h_3 rfl rfl) ?_
      obtain ⟨b_4, hb_5, h⟩ := h
      rw [hb_5]
      obtain ⟨h_6, h⟩ := h
      exact ru_call (p := 18) sm_a3_15 rfl (sc_virt (Or.inl rfl) rfl rfl h_6 (Nat.le_of_ble_eq_true rfl)) rfl h
theorem bb_3_18 {d : Nat} {M : sm_M} {Q : Option sm_V → sm_M → Prop} {a0 : Nat} {x1 : Int32} {z2 : Option sm_V} {y0 : Int32} {y1 : Int32}
    (h : ((y1 ≤ y0 → sm_Run (d + 1) 3 25 [some (.inr (some a0)), some (.inl x1), some (.inl 0)] [] M Q) ∧ (¬ (y1 ≤ y0) → Q (some (.inl (-1))) M))) :
    sm_Run (d + 1) 3 18 [some (.inr (some a0)), some (.inl x1), z2] [.inl y0, .inl y1] M Q := by
  refine ru_icmp (pc := 18) (p := 23) (p2 := 21) sm_a3_18 (by decide) rfl ⟨fun hc_1 => ?_, fun hc_1 => ?_⟩
  · have h := h.1 hc_1
    refine ru_go (t := (24, [some (.inr (some a0)), some (.inl x1), z2], [.inl 0], M)) sm_a3_23 rfl rfl (st_iconst (by decide)) ?_
    refine ru_go (t := (25, [some (.inr (some a0)), some (.inl x1), some (.inl 0)], [], M)) sm_a3_24 rfl rfl rfl ?_
    exact h
  · have h := h.2 hc_1
    refine ru_go (t := (22, [some (.inr (some a0)), some (.inl x1), z2], [.inl (-1)], M)) sm_a3_21 rfl rfl (st_iconst (by decide)) ?_
    exact ru_ret sm_a3_22 rfl h
theorem bb_3_25 {d : Nat} {M : sm_M} {Q : Option sm_V → sm_M → Prop} {a0 : Nat} {x1 : Int32} {x2 : Int32}
    (h : ((x1 ≤ x2 → sm_Run (d + 1) 3 51 [some (.inr (some a0)), some (.inl x1), some (.inl 0)] [] M Q) ∧ (¬ (x1 ≤ x2) → sm_K M a0 = 3 ∧ ∃ b_3, sm_R M a0 1 = some b_3 ∧ sm_iA M b_3 ∧ sm_in_ M b_3 x2 ∧ ∃ b_7, sm_R M a0 2 = some b_7 ∧ sm_K M b_7 = 6 ∧ sm_Run d 33 0 (sm_ent 33 [.inr (some b_7), .inl (sm_I M b_3 (x2).toNatClampNeg)]) [] M (fun v M1 => sm_Run (d + 1) 3 43 [some (.inr (some a0)), some (.inl x1), some (.inl x2)] (v.toList ++ []) M1 Q)))) :
    sm_Run (d + 1) 3 25 [some (.inr (some a0)), some (.inl x1), some (.inl x2)] [] M Q := by
  refine ru_go (t := (26, [some (.inr (some a0)), some (.inl x1), some (.inl x2)], [.inl x2], M)) sm_a3_25 rfl rfl rfl ?_
  refine ru_go (t := (27, [some (.inr (some a0)), some (.inl x1), some (.inl x2)], [.inl x1, .inl x2], M)) sm_a3_26 rfl rfl rfl ?_
  refine ru_icmp (pc := 27) (p := 49) (p2 := 30) sm_a3_27 (by decide) rfl ⟨fun hc_1 => ?_, fun hc_1 => ?_⟩
  · have h := h.1 hc_1
    refine ru_go (t := (50, [some (.inr (some a0)), some (.inl x1), some (.inl x2)], [.inl 0], M)) sm_a3_49 rfl rfl (st_iconst (by decide)) ?_
    refine ru_go (t := (51, [some (.inr (some a0)), some (.inl x1), some (.inl 0)], [], M)) sm_a3_50 rfl rfl rfl ?_
    exact h
  · have h := h.2 hc_1
    refine ru_go (t := (31, [some (.inr (some a0)), some (.inl x1), some (.inl x2)], [.inr (some a0)], M)) sm_a3_30 rfl rfl rfl ?_
    obtain ⟨h_2, h⟩ := h
    refine ru_go (t := (34, [some (.inr (some a0)), some (.inl x1), some (.inl x2)], [.inr (sm_R M a0 2)], M)) sm_a3_31 rfl rfl (st_getR h_2 rfl rfl) ?_
    refine ru_go (t := (35, [some (.inr (some a0)), some (.inl x1), some (.inl x2)], [.inr (some a0), .inr (sm_R M a0 2)], M)) sm_a3_34 rfl rfl rfl ?_
    refine ru_go (t := (38, [some (.inr (some a0)), some (.inl x1), some (.inl x2)], [.inr (sm_R M a0 1), .inr (sm_R M a0 2)], M)) sm_a3_35 rfl rfl (st_getR h_2 rfl rfl) ?_
    refine ru_go (t := (39, [some (.inr (some a0)), some (.inl x1), some (.inl x2)], [.inl x2, .inr (sm_R M a0 1), .inr (sm_R M a0 2)], M)) sm_a3_38 rfl rfl rfl ?_
    obtain ⟨b_3, hb_4, h⟩ := h
    rw [hb_4]
    obtain ⟨h_5, h⟩ := h
    obtain ⟨h_6, h⟩ := h
    refine ru_go (t := (40, [some (.inr (some a0)), some (.inl x1), some (.inl x2)], [.inl (sm_I M b_3 (x2).toNatClampNeg), .inr (sm_R M a0 2)], M)) sm_a3_39 rfl rfl (st_iald h_5 h_6) ?_
    obtain ⟨b_7, hb_8, h⟩ := h
    rw [hb_8]
    obtain ⟨h_9, h⟩ := h
    exact ru_call (p := 43) sm_a3_40 rfl (sc_virt (Or.inl rfl) rfl rfl h_9 (Nat.le_of_ble_eq_true rfl)) rfl h
theorem bb_3_43 {d : Nat} {M : sm_M} {Q : Option sm_V → sm_M → Prop} {a0 : Nat} {x1 : Int32} {x2 : Int32}
    (h : sm_Run (d + 1) 3 25 [some (.inr (some a0)), some (.inl x1), some (.inl (x2 + 1))] [] M Q) :
    sm_Run (d + 1) 3 43 [some (.inr (some a0)), some (.inl x1), some (.inl x2)] [] M Q := by
  refine ru_go (t := (46, [some (.inr (some a0)), some (.inl x1), some (.inl (x2 + 1))], [], M)) sm_a3_43 rfl rfl (st_iinc rfl (by decide)) ?_
  refine ru_go (t := (25, [some (.inr (some a0)), some (.inl x1), some (.inl (x2 + 1))], [], M)) sm_a3_46 rfl rfl (st_goto (pc := 46) (by decide)) ?_
  exact h
theorem bb_3_51 {d : Nat} {M : sm_M} {Q : Option sm_V → sm_M → Prop} {a0 : Nat} {x1 : Int32} {x2 : Int32}
    (h : ((20 ≤ x2 → sm_K M a0 = 3 ∧ ∃ b_3, sm_R M a0 2 = some b_3 ∧ sm_K M b_3 = 6 ∧ Q (some (.inl (sm_I M b_3 2))) M) ∧ (¬ (20 ≤ x2) → sm_K M a0 = 3 ∧ ∃ b_7, sm_R M a0 1 = some b_7 ∧ sm_wA 0 M b_7 ∧ sm_in_ M b_7 x2 ∧ sm_Run (d + 1) 3 51 [some (.inr (some a0)), some (.inl x1), some (.inl (x2 + 1))] [] (sm_putI M b_7 (x2).toNatClampNeg 0) Q))) :
    sm_Run (d + 1) 3 51 [some (.inr (some a0)), some (.inl x1), some (.inl x2)] [] M Q := by
  refine ru_go (t := (52, [some (.inr (some a0)), some (.inl x1), some (.inl x2)], [.inl x2], M)) sm_a3_51 rfl rfl rfl ?_
  refine ru_go (t := (54, [some (.inr (some a0)), some (.inl x1), some (.inl x2)], [.inl 20, .inl x2], M)) sm_a3_52 rfl rfl (st_bipush (by decide)) ?_
  refine ru_icmp (pc := 54) (p := 70) (p2 := 57) sm_a3_54 (by decide) rfl ⟨fun hc_1 => ?_, fun hc_1 => ?_⟩
  · have h := h.1 hc_1
    refine ru_go (t := (71, [some (.inr (some a0)), some (.inl x1), some (.inl x2)], [.inr (some a0)], M)) sm_a3_70 rfl rfl rfl ?_
    obtain ⟨h_2, h⟩ := h
    refine ru_go (t := (74, [some (.inr (some a0)), some (.inl x1), some (.inl x2)], [.inr (sm_R M a0 2)], M)) sm_a3_71 rfl rfl (st_getR h_2 rfl rfl) ?_
    obtain ⟨b_3, hb_4, h⟩ := h
    rw [hb_4]
    obtain ⟨h_5, h⟩ := h
    refine ru_go (t := (77, [some (.inr (some a0)), some (.inl x1), some (.inl x2)], [.inl (sm_I M b_3 2)], M)) sm_a3_74 rfl rfl (st_getI h_5 rfl) ?_
    exact ru_ret sm_a3_77 rfl h
  · have h := h.2 hc_1
    refine ru_go (t := (58, [some (.inr (some a0)), some (.inl x1), some (.inl x2)], [.inr (some a0)], M)) sm_a3_57 rfl rfl rfl ?_
    obtain ⟨h_6, h⟩ := h
    refine ru_go (t := (61, [some (.inr (some a0)), some (.inl x1), some (.inl x2)], [.inr (sm_R M a0 1)], M)) sm_a3_58 rfl rfl (st_getR h_6 rfl rfl) ?_
    refine ru_go (t := (62, [some (.inr (some a0)), some (.inl x1), some (.inl x2)], [.inl x2, .inr (sm_R M a0 1)], M)) sm_a3_61 rfl rfl rfl ?_
    refine ru_go (t := (63, [some (.inr (some a0)), some (.inl x1), some (.inl x2)], [.inl 0, .inl x2, .inr (sm_R M a0 1)], M)) sm_a3_62 rfl rfl (st_iconst (by decide)) ?_
    obtain ⟨b_7, hb_8, h⟩ := h
    rw [hb_8]
    obtain ⟨h_9, h⟩ := h
    obtain ⟨h_10, h⟩ := h
    refine ru_go (t := (64, [some (.inr (some a0)), some (.inl x1), some (.inl x2)], [], sm_putI M b_7 (x2).toNatClampNeg 0)) sm_a3_63 rfl rfl (st_iast h_9 h_10) ?_
    refine ru_go (t := (67, [some (.inr (some a0)), some (.inl x1), some (.inl (x2 + 1))], [], sm_putI M b_7 (x2).toNatClampNeg 0)) sm_a3_64 rfl rfl (st_iinc rfl (by decide)) ?_
    refine ru_go (t := (51, [some (.inr (some a0)), some (.inl x1), some (.inl (x2 + 1))], [], sm_putI M b_7 (x2).toNatClampNeg 0)) sm_a3_67 rfl rfl (st_goto (pc := 67) (by decide)) ?_
    exact h

/-! WireBus.device:(IIII)Z -/
theorem sm_a4_0 : sm_at 4 0 = some (.iload_n 1, 1, (0, 0, 0, 0)) := by decide +kernel
theorem sm_a4_1 : sm_at 4 1 = some (.invokestatic 63, 3, (12, 21, 0, 505)) := by decide +kernel
theorem sm_a4_4 : sm_at 4 4 = some (.ifCond .eq 25, 3, (0, 0, 0, 0)) := by decide +kernel
theorem sm_a4_7 : sm_at 4 7 = some (.aload_n 0, 1, (0, 0, 0, 0)) := by decide +kernel
theorem sm_a4_8 : sm_at 4 8 = some (.getfield 25, 3, (0, 3, 0, 464)) := by decide +kernel
theorem sm_a4_11 : sm_at 4 11 = some (.getfield 67, 3, (11, 3, 1, 310)) := by decide +kernel
theorem sm_a4_14 : sm_at 4 14 = some (.iload_n 1, 1, (0, 0, 0, 0)) := by decide +kernel
theorem sm_a4_15 : sm_at 4 15 = some (.aaload, 1, (0, 0, 0, 0)) := by decide +kernel
theorem sm_a4_16 : sm_at 4 16 = some (.getfield 71, 3, (4, 3, 1, 261)) := by decide +kernel
theorem sm_a4_19 : sm_at 4 19 = some (.ifCond .ne 10, 3, (0, 0, 0, 0)) := by decide +kernel
theorem sm_a4_22 : sm_at 4 22 = some (.iload_n 2, 1, (0, 0, 0, 0)) := by decide +kernel
theorem sm_a4_23 : sm_at 4 23 = some (.invokestatic 76, 3, (12, 22, 0, 508)) := by decide +kernel
theorem sm_a4_26 : sm_at 4 26 = some (.ifCond .ne 5, 3, (0, 0, 0, 0)) := by decide +kernel
theorem sm_a4_29 : sm_at 4 29 = some (.iconst 0, 1, (0, 0, 0, 0)) := by decide +kernel
theorem sm_a4_30 : sm_at 4 30 = some (.ireturn, 1, (0, 0, 0, 0)) := by decide +kernel
theorem sm_a4_31 : sm_at 4 31 = some (.aload_n 0, 1, (0, 0, 0, 0)) := by decide +kernel
theorem sm_a4_32 : sm_at 4 32 = some (.getfield 25, 3, (0, 3, 0, 464)) := by decide +kernel
theorem sm_a4_35 : sm_at 4 35 = some (.getfield 67, 3, (11, 3, 1, 310)) := by decide +kernel
theorem sm_a4_38 : sm_at 4 38 = some (.iload_n 1, 1, (0, 0, 0, 0)) := by decide +kernel
theorem sm_a4_39 : sm_at 4 39 = some (.aaload, 1, (0, 0, 0, 0)) := by decide +kernel
theorem sm_a4_40 : sm_at 4 40 = some (.iload_n 2, 1, (0, 0, 0, 0)) := by decide +kernel
theorem sm_a4_41 : sm_at 4 41 = some (.iload_n 3, 1, (0, 0, 0, 0)) := by decide +kernel
theorem sm_a4_42 : sm_at 4 42 = some (.ldc 79, 2, (65535, 0, 0, 511)) := by decide +kernel
theorem sm_a4_44 : sm_at 4 44 = some (.iand, 1, (0, 0, 0, 0)) := by decide +kernel
theorem sm_a4_45 : sm_at 4 45 = some (.iload 4, 2, (0, 0, 0, 0)) := by decide +kernel
theorem sm_a4_47 : sm_at 4 47 = some (.ldc 79, 2, (65535, 0, 0, 511)) := by decide +kernel
theorem sm_a4_49 : sm_at 4 49 = some (.iand, 1, (0, 0, 0, 0)) := by decide +kernel
theorem sm_a4_50 : sm_at 4 50 = some (.invokevirtual 80, 3, (10, 60, 4, 512)) := by decide +kernel
theorem sm_a4_53 : sm_at 4 53 = some (.iconst 1, 1, (0, 0, 0, 0)) := by decide +kernel
theorem sm_a4_54 : sm_at 4 54 = some (.ireturn, 1, (0, 0, 0, 0)) := by decide +kernel
theorem bb_4_0 {d : Nat} {M : sm_M} {Q : Option sm_V → sm_M → Prop} {a0 : Nat} {x1 : Int32} {x2 : Int32} {x3 : Int32} {x4 : Int32}
    (h : sm_Run d 21 0 (sm_ent 21 [.inl x1]) [] M (fun v M1 => sm_Run (d + 1) 4 4 [some (.inr (some a0)), some (.inl x1), some (.inl x2), some (.inl x3), some (.inl x4)] (v.toList ++ []) M1 Q)) :
    sm_Run (d + 1) 4 0 [some (.inr (some a0)), some (.inl x1), some (.inl x2), some (.inl x3), some (.inl x4)] [] M Q := by
  refine ru_go (t := (1, [some (.inr (some a0)), some (.inl x1), some (.inl x2), some (.inl x3), some (.inl x4)], [.inl x1], M)) sm_a4_0 rfl rfl rfl ?_
  exact ru_call (p := 4) sm_a4_1 rfl (sc_stat (Or.inl rfl) (Nat.le_of_ble_eq_true rfl) rfl rfl (Nat.le_of_ble_eq_true rfl)) rfl h
theorem bb_4_4 {d : Nat} {M : sm_M} {Q : Option sm_V → sm_M → Prop} {a0 : Nat} {x1 : Int32} {x2 : Int32} {x3 : Int32} {x4 : Int32} {y0 : Int32}
    (h : ((y0 = 0 → Q (some (.inl 0)) M) ∧ (¬ (y0 = 0) → sm_K M a0 = 3 ∧ ∃ b_3, sm_R M a0 3 = some b_3 ∧ sm_K M b_3 = 36 ∧ ∃ b_6, sm_R M b_3 3 = some b_6 ∧ (∃ ci, sm_K M b_6 = 4 + 3 * ci) ∧ sm_in_ M b_6 x1 ∧ ∃ b_10, sm_R M b_6 (x1).toNatClampNeg = some b_10 ∧ sm_K M b_10 = 15 ∧ ((¬ (sm_I M b_10 3) = 0 → Q (some (.inl 0)) M) ∧ (¬ (¬ (sm_I M b_10 3) = 0) → sm_Run d 22 0 (sm_ent 22 [.inl x2]) [] M (fun v M1 => sm_Run (d + 1) 4 26 [some (.inr (some a0)), some (.inl x1), some (.inl x2), some (.inl x3), some (.inl x4)] (v.toList ++ []) M1 Q)))))) :
    sm_Run (d + 1) 4 4 [some (.inr (some a0)), some (.inl x1), some (.inl x2), some (.inl x3), some (.inl x4)] [.inl y0] M Q := by
  refine ru_if (pc := 4) (p := 29) (p2 := 7) sm_a4_4 (by decide) rfl ⟨fun hc_1 => ?_, fun hc_1 => ?_⟩
  · have h := h.1 hc_1
    refine ru_go (t := (30, [some (.inr (some a0)), some (.inl x1), some (.inl x2), some (.inl x3), some (.inl x4)], [.inl 0], M)) sm_a4_29 rfl rfl (st_iconst (by decide)) ?_
    exact ru_ret sm_a4_30 (sm_rvz rfl (by decide)) h
  · have h := h.2 hc_1
    refine ru_go (t := (8, [some (.inr (some a0)), some (.inl x1), some (.inl x2), some (.inl x3), some (.inl x4)], [.inr (some a0)], M)) sm_a4_7 rfl rfl rfl ?_
    obtain ⟨h_2, h⟩ := h
    refine ru_go (t := (11, [some (.inr (some a0)), some (.inl x1), some (.inl x2), some (.inl x3), some (.inl x4)], [.inr (sm_R M a0 3)], M)) sm_a4_8 rfl rfl (st_getR h_2 rfl rfl) ?_
    obtain ⟨b_3, hb_4, h⟩ := h
    rw [hb_4]
    obtain ⟨h_5, h⟩ := h
    refine ru_go (t := (14, [some (.inr (some a0)), some (.inl x1), some (.inl x2), some (.inl x3), some (.inl x4)], [.inr (sm_R M b_3 3)], M)) sm_a4_11 rfl rfl (st_getR h_5 rfl rfl) ?_
    refine ru_go (t := (15, [some (.inr (some a0)), some (.inl x1), some (.inl x2), some (.inl x3), some (.inl x4)], [.inl x1, .inr (sm_R M b_3 3)], M)) sm_a4_14 rfl rfl rfl ?_
    obtain ⟨b_6, hb_7, h⟩ := h
    rw [hb_7]
    obtain ⟨h_8, h⟩ := h
    obtain ⟨h_9, h⟩ := h
    refine ru_go (t := (16, [some (.inr (some a0)), some (.inl x1), some (.inl x2), some (.inl x3), some (.inl x4)], [.inr (sm_R M b_6 (x1).toNatClampNeg)], M)) sm_a4_15 rfl rfl (st_aald h_8.choose_spec h_9 rfl) ?_
    obtain ⟨b_10, hb_11, h⟩ := h
    rw [hb_11]
    obtain ⟨h_12, h⟩ := h
    refine ru_go (t := (19, [some (.inr (some a0)), some (.inl x1), some (.inl x2), some (.inl x3), some (.inl x4)], [.inl (sm_I M b_10 3)], M)) sm_a4_16 rfl rfl (st_getI h_12 rfl) ?_
    refine ru_if (pc := 19) (p := 29) (p2 := 22) sm_a4_19 (by decide) rfl ⟨fun hc_13 => ?_, fun hc_13 => ?_⟩
    · have h := h.1 hc_13
      refine ru_go (t := (30, [some (.inr (some a0)), some (.inl x1), some (.inl x2), some (.inl x3), some (.inl x4)], [.inl 0], M)) sm_a4_29 rfl rfl (st_iconst (by decide)) ?_
      exact ru_ret sm_a4_30 (sm_rvz rfl (by decide)) h
    · have h := h.2 hc_13
      refine ru_go (t := (23, [some (.inr (some a0)), some (.inl x1), some (.inl x2), some (.inl x3), some (.inl x4)], [.inl x2], M)) sm_a4_22 rfl rfl rfl ?_
      exact ru_call (p := 26) sm_a4_23 rfl (sc_stat (Or.inl rfl) (Nat.le_of_ble_eq_true rfl) rfl rfl (Nat.le_of_ble_eq_true rfl)) rfl h
theorem bb_4_26 {d : Nat} {M : sm_M} {Q : Option sm_V → sm_M → Prop} {a0 : Nat} {x1 : Int32} {x2 : Int32} {x3 : Int32} {x4 : Int32} {y0 : Int32}
    (h : ((¬ y0 = 0 → sm_K M a0 = 3 ∧ ∃ b_3, sm_R M a0 3 = some b_3 ∧ sm_K M b_3 = 36 ∧ ∃ b_6, sm_R M b_3 3 = some b_6 ∧ (∃ ci, sm_K M b_6 = 4 + 3 * ci) ∧ sm_in_ M b_6 x1 ∧ ∃ b_10, sm_R M b_6 (x1).toNatClampNeg = some b_10 ∧ sm_K M b_10 = 15 ∧ sm_Run d 60 0 (sm_ent 60 [.inr (some b_10), .inl x2, .inl (x3 &&& 65535), .inl (x4 &&& 65535)]) [] M (fun v M1 => sm_Run (d + 1) 4 53 [some (.inr (some a0)), some (.inl x1), some (.inl x2), some (.inl x3), some (.inl x4)] (v.toList ++ []) M1 Q)) ∧ (¬ (¬ y0 = 0) → Q (some (.inl 0)) M))) :
    sm_Run (d + 1) 4 26 [some (.inr (some a0)), some (.inl x1), some (.inl x2), some (.inl x3), some (.inl x4)] [.inl y0] M Q := by
  refine ru_if (pc := 26) (p := 31) (p2 := 29) sm_a4_26 (by decide) rfl ⟨fun hc_1 => ?_, fun hc_1 => ?_⟩
  · have h := h.1 hc_1
    refine ru_go (t := (32, [some (.inr (some a0)), some (.inl x1), some (.inl x2), some (.inl x3), some (.inl x4)], [.inr (some a0)], M)) sm_a4_31 rfl rfl rfl ?_
    obtain ⟨h_2, h⟩ := h
    refine ru_go (t := (35, [some (.inr (some a0)), some (.inl x1), some (.inl x2), some (.inl x3), some (.inl x4)], [.inr (sm_R M a0 3)], M)) sm_a4_32 rfl rfl (st_getR h_2 rfl rfl) ?_
    obtain ⟨b_3, hb_4, h⟩ := h
    rw [hb_4]
    obtain ⟨h_5, h⟩ := h
    refine ru_go (t := (38, [some (.inr (some a0)), some (.inl x1), some (.inl x2), some (.inl x3), some (.inl x4)], [.inr (sm_R M b_3 3)], M)) sm_a4_35 rfl rfl (st_getR h_5 rfl rfl) ?_
    refine ru_go (t := (39, [some (.inr (some a0)), some (.inl x1), some (.inl x2), some (.inl x3), some (.inl x4)], [.inl x1, .inr (sm_R M b_3 3)], M)) sm_a4_38 rfl rfl rfl ?_
    obtain ⟨b_6, hb_7, h⟩ := h
    rw [hb_7]
    obtain ⟨h_8, h⟩ := h
    obtain ⟨h_9, h⟩ := h
    refine ru_go (t := (40, [some (.inr (some a0)), some (.inl x1), some (.inl x2), some (.inl x3), some (.inl x4)], [.inr (sm_R M b_6 (x1).toNatClampNeg)], M)) sm_a4_39 rfl rfl (st_aald h_8.choose_spec h_9 rfl) ?_
    refine ru_go (t := (41, [some (.inr (some a0)), some (.inl x1), some (.inl x2), some (.inl x3), some (.inl x4)], [.inl x2, .inr (sm_R M b_6 (x1).toNatClampNeg)], M)) sm_a4_40 rfl rfl rfl ?_
    refine ru_go (t := (42, [some (.inr (some a0)), some (.inl x1), some (.inl x2), some (.inl x3), some (.inl x4)], [.inl x3, .inl x2, .inr (sm_R M b_6 (x1).toNatClampNeg)], M)) sm_a4_41 rfl rfl rfl ?_
    refine ru_go (t := (44, [some (.inr (some a0)), some (.inl x1), some (.inl x2), some (.inl x3), some (.inl x4)], [.inl 65535, .inl x3, .inl x2, .inr (sm_R M b_6 (x1).toNatClampNeg)], M)) sm_a4_42 rfl rfl (st_ldc (by decide)) ?_
    refine ru_go (t := (45, [some (.inr (some a0)), some (.inl x1), some (.inl x2), some (.inl x3), some (.inl x4)], [.inl (x3 &&& 65535), .inl x2, .inr (sm_R M b_6 (x1).toNatClampNeg)], M)) sm_a4_44 rfl rfl rfl ?_
    refine ru_go (t := (47, [some (.inr (some a0)), some (.inl x1), some (.inl x2), some (.inl x3), some (.inl x4)], [.inl x4, .inl (x3 &&& 65535), .inl x2, .inr (sm_R M b_6 (x1).toNatClampNeg)], M)) sm_a4_45 rfl rfl rfl ?_
    refine ru_go (t := (49, [some (.inr (some a0)), some (.inl x1), some (.inl x2), some (.inl x3), some (.inl x4)], [.inl 65535, .inl x4, .inl (x3 &&& 65535), .inl x2, .inr (sm_R M b_6 (x1).toNatClampNeg)], M)) sm_a4_47 rfl rfl (st_ldc (by decide)) ?_
    refine ru_go (t := (50, [some (.inr (some a0)), some (.inl x1), some (.inl x2), some (.inl x3), some (.inl x4)], [.inl (x4 &&& 65535), .inl (x3 &&& 65535), .inl x2, .inr (sm_R M b_6 (x1).toNatClampNeg)], M)) sm_a4_49 rfl rfl rfl ?_
    obtain ⟨b_10, hb_11, h⟩ := h
    rw [hb_11]
    obtain ⟨h_12, h⟩ := h
    exact ru_call (p := 53) sm_a4_50 rfl (sc_virt (Or.inl rfl) rfl rfl h_12 (Nat.le_of_ble_eq_true rfl)) rfl h
  · have h := h.2 hc_1
    refine ru_go (t := (30, [some (.inr (some a0)), some (.inl x1), some (.inl x2), some (.inl x3), some (.inl x4)], [.inl 0], M)) sm_a4_29 rfl rfl (st_iconst (by decide)) ?_
    exact ru_ret sm_a4_30 (sm_rvz rfl (by decide)) h
theorem bb_4_53 {d : Nat} {M : sm_M} {Q : Option sm_V → sm_M → Prop} {a0 : Nat} {x1 : Int32} {x2 : Int32} {x3 : Int32} {x4 : Int32}
    (h : Q (some (.inl 1)) M) :
    sm_Run (d + 1) 4 53 [some (.inr (some a0)), some (.inl x1), some (.inl x2), some (.inl x3), some (.inl x4)] [] M Q := by
  refine ru_go (t := (54, [some (.inr (some a0)), some (.inl x1), some (.inl x2), some (.inl x3), some (.inl x4)], [.inl 1], M)) sm_a4_53 rfl rfl (st_iconst (by decide)) ?_
  exact ru_ret sm_a4_54 (sm_rvz rfl (by decide)) h

/-! WireBus.endpoint:(IIII)Z -/
theorem sm_a5_0 : sm_at 5 0 = some (.iload_n 1, 1, (0, 0, 0, 0)) := by decide +kernel
theorem sm_a5_1 : sm_at 5 1 = some (.invokestatic 63, 3, (12, 21, 0, 505)) := by decide +kernel
theorem sm_a5_4 : sm_at 5 4 = some (.ifCond .eq 28, 3, (0, 0, 0, 0)) := by decide +kernel
theorem sm_a5_7 : sm_at 5 7 = some (.aload_n 0, 1, (0, 0, 0, 0)) := by decide +kernel
theorem sm_a5_8 : sm_at 5 8 = some (.getfield 25, 3, (0, 3, 0, 464)) := by decide +kernel
theorem sm_a5_11 : sm_at 5 11 = some (.getfield 67, 3, (11, 3, 1, 310)) := by decide +kernel
theorem sm_a5_14 : sm_at 5 14 = some (.iload_n 1, 1, (0, 0, 0, 0)) := by decide +kernel
theorem sm_a5_15 : sm_at 5 15 = some (.aaload, 1, (0, 0, 0, 0)) := by decide +kernel
theorem sm_a5_16 : sm_at 5 16 = some (.getfield 71, 3, (4, 3, 1, 261)) := by decide +kernel
theorem sm_a5_19 : sm_at 5 19 = some (.ifCond .ne 13, 3, (0, 0, 0, 0)) := by decide +kernel
theorem sm_a5_22 : sm_at 5 22 = some (.iload_n 2, 1, (0, 0, 0, 0)) := by decide +kernel
theorem sm_a5_23 : sm_at 5 23 = some (.iload_n 3, 1, (0, 0, 0, 0)) := by decide +kernel
theorem sm_a5_24 : sm_at 5 24 = some (.iload 4, 2, (0, 0, 0, 0)) := by decide +kernel
theorem sm_a5_26 : sm_at 5 26 = some (.invokestatic 84, 3, (12, 23, 0, 520)) := by decide +kernel
theorem sm_a5_29 : sm_at 5 29 = some (.ifCond .ne 5, 3, (0, 0, 0, 0)) := by decide +kernel
theorem sm_a5_32 : sm_at 5 32 = some (.iconst 0, 1, (0, 0, 0, 0)) := by decide +kernel
theorem sm_a5_33 : sm_at 5 33 = some (.ireturn, 1, (0, 0, 0, 0)) := by decide +kernel
theorem sm_a5_34 : sm_at 5 34 = some (.aload_n 0, 1, (0, 0, 0, 0)) := by decide +kernel
theorem sm_a5_35 : sm_at 5 35 = some (.getfield 25, 3, (0, 3, 0, 464)) := by decide +kernel
theorem sm_a5_38 : sm_at 5 38 = some (.getfield 67, 3, (11, 3, 1, 310)) := by decide +kernel
theorem sm_a5_41 : sm_at 5 41 = some (.iload_n 1, 1, (0, 0, 0, 0)) := by decide +kernel
theorem sm_a5_42 : sm_at 5 42 = some (.aaload, 1, (0, 0, 0, 0)) := by decide +kernel
theorem sm_a5_43 : sm_at 5 43 = some (.iload_n 2, 1, (0, 0, 0, 0)) := by decide +kernel
theorem sm_a5_44 : sm_at 5 44 = some (.iload_n 3, 1, (0, 0, 0, 0)) := by decide +kernel
theorem sm_a5_45 : sm_at 5 45 = some (.iload 4, 2, (0, 0, 0, 0)) := by decide +kernel
theorem sm_a5_47 : sm_at 5 47 = some (.invokevirtual 88, 3, (10, 61, 4, 523)) := by decide +kernel
theorem sm_a5_50 : sm_at 5 50 = some (.ireturn, 1, (0, 0, 0, 0)) := by decide +kernel
theorem bb_5_0 {d : Nat} {M : sm_M} {Q : Option sm_V → sm_M → Prop} {a0 : Nat} {x1 : Int32} {x2 : Int32} {x3 : Int32} {x4 : Int32}
    (h : sm_Run d 21 0 (sm_ent 21 [.inl x1]) [] M (fun v M1 => sm_Run (d + 1) 5 4 [some (.inr (some a0)), some (.inl x1), some (.inl x2), some (.inl x3), some (.inl x4)] (v.toList ++ []) M1 Q)) :
    sm_Run (d + 1) 5 0 [some (.inr (some a0)), some (.inl x1), some (.inl x2), some (.inl x3), some (.inl x4)] [] M Q := by
  refine ru_go (t := (1, [some (.inr (some a0)), some (.inl x1), some (.inl x2), some (.inl x3), some (.inl x4)], [.inl x1], M)) sm_a5_0 rfl rfl rfl ?_
  exact ru_call (p := 4) sm_a5_1 rfl (sc_stat (Or.inl rfl) (Nat.le_of_ble_eq_true rfl) rfl rfl (Nat.le_of_ble_eq_true rfl)) rfl h
theorem bb_5_4 {d : Nat} {M : sm_M} {Q : Option sm_V → sm_M → Prop} {a0 : Nat} {x1 : Int32} {x2 : Int32} {x3 : Int32} {x4 : Int32} {y0 : Int32}
    (h : ((y0 = 0 → Q (some (.inl 0)) M) ∧ (¬ (y0 = 0) → sm_K M a0 = 3 ∧ ∃ b_3, sm_R M a0 3 = some b_3 ∧ sm_K M b_3 = 36 ∧ ∃ b_6, sm_R M b_3 3 = some b_6 ∧ (∃ ci, sm_K M b_6 = 4 + 3 * ci) ∧ sm_in_ M b_6 x1 ∧ ∃ b_10, sm_R M b_6 (x1).toNatClampNeg = some b_10 ∧ sm_K M b_10 = 15 ∧ ((¬ (sm_I M b_10 3) = 0 → Q (some (.inl 0)) M) ∧ (¬ (¬ (sm_I M b_10 3) = 0) → sm_Run d 23 0 (sm_ent 23 [.inl x2, .inl x3, .inl x4]) [] M (fun v M1 => sm_Run (d + 1) 5 29 [some (.inr (some a0)), some (.inl x1), some (.inl x2), some (.inl x3), some (.inl x4)] (v.toList ++ []) M1 Q)))))) :
    sm_Run (d + 1) 5 4 [some (.inr (some a0)), some (.inl x1), some (.inl x2), some (.inl x3), some (.inl x4)] [.inl y0] M Q := by
  refine ru_if (pc := 4) (p := 32) (p2 := 7) sm_a5_4 (by decide) rfl ⟨fun hc_1 => ?_, fun hc_1 => ?_⟩
  · have h := h.1 hc_1
    refine ru_go (t := (33, [some (.inr (some a0)), some (.inl x1), some (.inl x2), some (.inl x3), some (.inl x4)], [.inl 0], M)) sm_a5_32 rfl rfl (st_iconst (by decide)) ?_
    exact ru_ret sm_a5_33 (sm_rvz rfl (by decide)) h
  · have h := h.2 hc_1
    refine ru_go (t := (8, [some (.inr (some a0)), some (.inl x1), some (.inl x2), some (.inl x3), some (.inl x4)], [.inr (some a0)], M)) sm_a5_7 rfl rfl rfl ?_
    obtain ⟨h_2, h⟩ := h
    refine ru_go (t := (11, [some (.inr (some a0)), some (.inl x1), some (.inl x2), some (.inl x3), some (.inl x4)], [.inr (sm_R M a0 3)], M)) sm_a5_8 rfl rfl (st_getR h_2 rfl rfl) ?_
    obtain ⟨b_3, hb_4, h⟩ := h
    rw [hb_4]
    obtain ⟨h_5, h⟩ := h
    refine ru_go (t := (14, [some (.inr (some a0)), some (.inl x1), some (.inl x2), some (.inl x3), some (.inl x4)], [.inr (sm_R M b_3 3)], M)) sm_a5_11 rfl rfl (st_getR h_5 rfl rfl) ?_
    refine ru_go (t := (15, [some (.inr (some a0)), some (.inl x1), some (.inl x2), some (.inl x3), some (.inl x4)], [.inl x1, .inr (sm_R M b_3 3)], M)) sm_a5_14 rfl rfl rfl ?_
    obtain ⟨b_6, hb_7, h⟩ := h
    rw [hb_7]
    obtain ⟨h_8, h⟩ := h
    obtain ⟨h_9, h⟩ := h
    refine ru_go (t := (16, [some (.inr (some a0)), some (.inl x1), some (.inl x2), some (.inl x3), some (.inl x4)], [.inr (sm_R M b_6 (x1).toNatClampNeg)], M)) sm_a5_15 rfl rfl (st_aald h_8.choose_spec h_9 rfl) ?_
    obtain ⟨b_10, hb_11, h⟩ := h
    rw [hb_11]
    obtain ⟨h_12, h⟩ := h
    refine ru_go (t := (19, [some (.inr (some a0)), some (.inl x1), some (.inl x2), some (.inl x3), some (.inl x4)], [.inl (sm_I M b_10 3)], M)) sm_a5_16 rfl rfl (st_getI h_12 rfl) ?_
    refine ru_if (pc := 19) (p := 32) (p2 := 22) sm_a5_19 (by decide) rfl ⟨fun hc_13 => ?_, fun hc_13 => ?_⟩
    · have h := h.1 hc_13
      refine ru_go (t := (33, [some (.inr (some a0)), some (.inl x1), some (.inl x2), some (.inl x3), some (.inl x4)], [.inl 0], M)) sm_a5_32 rfl rfl (st_iconst (by decide)) ?_
      exact ru_ret sm_a5_33 (sm_rvz rfl (by decide)) h
    · have h := h.2 hc_13
      refine ru_go (t := (23, [some (.inr (some a0)), some (.inl x1), some (.inl x2), some (.inl x3), some (.inl x4)], [.inl x2], M)) sm_a5_22 rfl rfl rfl ?_
      refine ru_go (t := (24, [some (.inr (some a0)), some (.inl x1), some (.inl x2), some (.inl x3), some (.inl x4)], [.inl x3, .inl x2], M)) sm_a5_23 rfl rfl rfl ?_
      refine ru_go (t := (26, [some (.inr (some a0)), some (.inl x1), some (.inl x2), some (.inl x3), some (.inl x4)], [.inl x4, .inl x3, .inl x2], M)) sm_a5_24 rfl rfl rfl ?_
      exact ru_call (p := 29) sm_a5_26 rfl (sc_stat (Or.inl rfl) (Nat.le_of_ble_eq_true rfl) rfl rfl (Nat.le_of_ble_eq_true rfl)) rfl h
theorem bb_5_29 {d : Nat} {M : sm_M} {Q : Option sm_V → sm_M → Prop} {a0 : Nat} {x1 : Int32} {x2 : Int32} {x3 : Int32} {x4 : Int32} {y0 : Int32}
    (h : ((¬ y0 = 0 → sm_K M a0 = 3 ∧ ∃ b_3, sm_R M a0 3 = some b_3 ∧ sm_K M b_3 = 36 ∧ ∃ b_6, sm_R M b_3 3 = some b_6 ∧ (∃ ci, sm_K M b_6 = 4 + 3 * ci) ∧ sm_in_ M b_6 x1 ∧ ∃ b_10, sm_R M b_6 (x1).toNatClampNeg = some b_10 ∧ sm_K M b_10 = 15 ∧ sm_Run d 61 0 (sm_ent 61 [.inr (some b_10), .inl x2, .inl x3, .inl x4]) [] M (fun v M1 => sm_Run (d + 1) 5 50 [some (.inr (some a0)), some (.inl x1), some (.inl x2), some (.inl x3), some (.inl x4)] (v.toList ++ []) M1 Q)) ∧ (¬ (¬ y0 = 0) → Q (some (.inl 0)) M))) :
    sm_Run (d + 1) 5 29 [some (.inr (some a0)), some (.inl x1), some (.inl x2), some (.inl x3), some (.inl x4)] [.inl y0] M Q := by
  refine ru_if (pc := 29) (p := 34) (p2 := 32) sm_a5_29 (by decide) rfl ⟨fun hc_1 => ?_, fun hc_1 => ?_⟩
  · have h := h.1 hc_1
    refine ru_go (t := (35, [some (.inr (some a0)), some (.inl x1), some (.inl x2), some (.inl x3), some (.inl x4)], [.inr (some a0)], M)) sm_a5_34 rfl rfl rfl ?_
    obtain ⟨h_2, h⟩ := h
    refine ru_go (t := (38, [some (.inr (some a0)), some (.inl x1), some (.inl x2), some (.inl x3), some (.inl x4)], [.inr (sm_R M a0 3)], M)) sm_a5_35 rfl rfl (st_getR h_2 rfl rfl) ?_
    obtain ⟨b_3, hb_4, h⟩ := h
    rw [hb_4]
    obtain ⟨h_5, h⟩ := h
    refine ru_go (t := (41, [some (.inr (some a0)), some (.inl x1), some (.inl x2), some (.inl x3), some (.inl x4)], [.inr (sm_R M b_3 3)], M)) sm_a5_38 rfl rfl (st_getR h_5 rfl rfl) ?_
    refine ru_go (t := (42, [some (.inr (some a0)), some (.inl x1), some (.inl x2), some (.inl x3), some (.inl x4)], [.inl x1, .inr (sm_R M b_3 3)], M)) sm_a5_41 rfl rfl rfl ?_
    obtain ⟨b_6, hb_7, h⟩ := h
    rw [hb_7]
    obtain ⟨h_8, h⟩ := h
    obtain ⟨h_9, h⟩ := h
    refine ru_go (t := (43, [some (.inr (some a0)), some (.inl x1), some (.inl x2), some (.inl x3), some (.inl x4)], [.inr (sm_R M b_6 (x1).toNatClampNeg)], M)) sm_a5_42 rfl rfl (st_aald h_8.choose_spec h_9 rfl) ?_
    refine ru_go (t := (44, [some (.inr (some a0)), some (.inl x1), some (.inl x2), some (.inl x3), some (.inl x4)], [.inl x2, .inr (sm_R M b_6 (x1).toNatClampNeg)], M)) sm_a5_43 rfl rfl rfl ?_
    refine ru_go (t := (45, [some (.inr (some a0)), some (.inl x1), some (.inl x2), some (.inl x3), some (.inl x4)], [.inl x3, .inl x2, .inr (sm_R M b_6 (x1).toNatClampNeg)], M)) sm_a5_44 rfl rfl rfl ?_
    refine ru_go (t := (47, [some (.inr (some a0)), some (.inl x1), some (.inl x2), some (.inl x3), some (.inl x4)], [.inl x4, .inl x3, .inl x2, .inr (sm_R M b_6 (x1).toNatClampNeg)], M)) sm_a5_45 rfl rfl rfl ?_
    obtain ⟨b_10, hb_11, h⟩ := h
    rw [hb_11]
    obtain ⟨h_12, h⟩ := h
    exact ru_call (p := 50) sm_a5_47 rfl (sc_virt (Or.inl rfl) rfl rfl h_12 (Nat.le_of_ble_eq_true rfl)) rfl h
  · have h := h.2 hc_1
    refine ru_go (t := (33, [some (.inr (some a0)), some (.inl x1), some (.inl x2), some (.inl x3), some (.inl x4)], [.inl 0], M)) sm_a5_32 rfl rfl (st_iconst (by decide)) ?_
    exact ru_ret sm_a5_33 (sm_rvz rfl (by decide)) h
theorem bb_5_50 {d : Nat} {M : sm_M} {Q : Option sm_V → sm_M → Prop} {a0 : Nat} {x1 : Int32} {x2 : Int32} {x3 : Int32} {x4 : Int32} {y0 : Int32}
    (h : sm_fit .boolean y0 = true ∧ Q (some (.inl y0)) M) :
    sm_Run (d + 1) 5 50 [some (.inr (some a0)), some (.inl x1), some (.inl x2), some (.inl x3), some (.inl x4)] [.inl y0] M Q := by
  obtain ⟨h_1, h⟩ := h
  exact ru_ret sm_a5_50 (sm_rvz rfl h_1) h

/-! WireBus.attach:(I)Z -/
theorem sm_a6_0 : sm_at 6 0 = some (.iload_n 1, 1, (0, 0, 0, 0)) := by decide +kernel
theorem sm_a6_1 : sm_at 6 1 = some (.invokestatic 63, 3, (12, 21, 0, 505)) := by decide +kernel
theorem sm_a6_4 : sm_at 6 4 = some (.ifCond .eq 38, 3, (0, 0, 0, 0)) := by decide +kernel
theorem sm_a6_7 : sm_at 6 7 = some (.aload_n 0, 1, (0, 0, 0, 0)) := by decide +kernel
theorem sm_a6_8 : sm_at 6 8 = some (.getfield 25, 3, (0, 3, 0, 464)) := by decide +kernel
theorem sm_a6_11 : sm_at 6 11 = some (.getfield 67, 3, (11, 3, 1, 310)) := by decide +kernel
theorem sm_a6_14 : sm_at 6 14 = some (.iload_n 1, 1, (0, 0, 0, 0)) := by decide +kernel
theorem sm_a6_15 : sm_at 6 15 = some (.aaload, 1, (0, 0, 0, 0)) := by decide +kernel
theorem sm_a6_16 : sm_at 6 16 = some (.getfield 71, 3, (4, 3, 1, 261)) := by decide +kernel
theorem sm_a6_19 : sm_at 6 19 = some (.ifCond .ne 23, 3, (0, 0, 0, 0)) := by decide +kernel
theorem sm_a6_22 : sm_at 6 22 = some (.aload_n 0, 1, (0, 0, 0, 0)) := by decide +kernel
theorem sm_a6_23 : sm_at 6 23 = some (.getfield 25, 3, (0, 3, 0, 464)) := by decide +kernel
theorem sm_a6_26 : sm_at 6 26 = some (.invokevirtual 91, 3, (10, 138, 11, 584)) := by decide +kernel
theorem sm_a6_29 : sm_at 6 29 = some (.ifCond .ne 13, 3, (0, 0, 0, 0)) := by decide +kernel
theorem sm_a6_32 : sm_at 6 32 = some (.aload_n 0, 1, (0, 0, 0, 0)) := by decide +kernel
theorem sm_a6_33 : sm_at 6 33 = some (.getfield 32, 3, (0, 4, 0, 465)) := by decide +kernel
theorem sm_a6_36 : sm_at 6 36 = some (.invokevirtual 95, 3, (10, 85, 6, 588)) := by decide +kernel
theorem sm_a6_39 : sm_at 6 39 = some (.ifCond .ne 5, 3, (0, 0, 0, 0)) := by decide +kernel
theorem sm_a6_42 : sm_at 6 42 = some (.iconst 0, 1, (0, 0, 0, 0)) := by decide +kernel
theorem sm_a6_43 : sm_at 6 43 = some (.ireturn, 1, (0, 0, 0, 0)) := by decide +kernel
theorem sm_a6_44 : sm_at 6 44 = some (.aload_n 0, 1, (0, 0, 0, 0)) := by decide +kernel
theorem sm_a6_45 : sm_at 6 45 = some (.getfield 25, 3, (0, 3, 0, 464)) := by decide +kernel
theorem sm_a6_48 : sm_at 6 48 = some (.getfield 67, 3, (11, 3, 1, 310)) := by decide +kernel
theorem sm_a6_51 : sm_at 6 51 = some (.iload_n 1, 1, (0, 0, 0, 0)) := by decide +kernel
theorem sm_a6_52 : sm_at 6 52 = some (.aaload, 1, (0, 0, 0, 0)) := by decide +kernel
theorem sm_a6_53 : sm_at 6 53 = some (.invokevirtual 98, 3, (10, 63, 4, 592)) := by decide +kernel
theorem sm_a6_56 : sm_at 6 56 = some (.aload_n 0, 1, (0, 0, 0, 0)) := by decide +kernel
theorem sm_a6_57 : sm_at 6 57 = some (.getfield 32, 3, (0, 4, 0, 465)) := by decide +kernel
theorem sm_a6_60 : sm_at 6 60 = some (.iload_n 1, 1, (0, 0, 0, 0)) := by decide +kernel
theorem sm_a6_61 : sm_at 6 61 = some (.invokevirtual 101, 3, (10, 90, 6, 598)) := by decide +kernel
theorem sm_a6_64 : sm_at 6 64 = some (.iconst 1, 1, (0, 0, 0, 0)) := by decide +kernel
theorem sm_a6_65 : sm_at 6 65 = some (.ireturn, 1, (0, 0, 0, 0)) := by decide +kernel
theorem bb_6_0 {d : Nat} {M : sm_M} {Q : Option sm_V → sm_M → Prop} {a0 : Nat} {x1 : Int32}
    (h : sm_Run d 21 0 (sm_ent 21 [.inl x1]) [] M (fun v M1 => sm_Run (d + 1) 6 4 [some (.inr (some a0)), some (.inl x1)] (v.toList ++ []) M1 Q)) :
    sm_Run (d + 1) 6 0 [some (.inr (some a0)), some (.inl x1)] [] M Q := by
  refine ru_go (t := (1, [some (.inr (some a0)), some (.inl x1)], [.inl x1], M)) sm_a6_0 rfl rfl rfl ?_
  exact ru_call (p := 4) sm_a6_1 rfl (sc_stat (Or.inl rfl) (Nat.le_of_ble_eq_true rfl) rfl rfl (Nat.le_of_ble_eq_true rfl)) rfl h
theorem bb_6_4 {d : Nat} {M : sm_M} {Q : Option sm_V → sm_M → Prop} {a0 : Nat} {x1 : Int32} {y0 : Int32}
    (h : ((y0 = 0 → Q (some (.inl 0)) M) ∧ (¬ (y0 = 0) → sm_K M a0 = 3 ∧ ∃ b_3, sm_R M a0 3 = some b_3 ∧ sm_K M b_3 = 36 ∧ ∃ b_6, sm_R M b_3 3 = some b_6 ∧ (∃ ci, sm_K M b_6 = 4 + 3 * ci) ∧ sm_in_ M b_6 x1 ∧ ∃ b_10, sm_R M b_6 (x1).toNatClampNeg = some b_10 ∧ sm_K M b_10 = 15 ∧ ((¬ (sm_I M b_10 3) = 0 → Q (some (.inl 0)) M) ∧ (¬ (¬ (sm_I M b_10 3) = 0) → ∃ b_14, sm_R M a0 3 = some b_14 ∧ sm_K M b_14 = 36 ∧ sm_Run d 138 0 (sm_ent 138 [.inr (some b_14)]) [] M (fun v M1 => sm_Run (d + 1) 6 29 [some (.inr (some a0)), some (.inl x1)] (v.toList ++ []) M1 Q)))))) :
    sm_Run (d + 1) 6 4 [some (.inr (some a0)), some (.inl x1)] [.inl y0] M Q := by
  refine ru_if (pc := 4) (p := 42) (p2 := 7) sm_a6_4 (by decide) rfl ⟨fun hc_1 => ?_, fun hc_1 => ?_⟩
  · have h := h.1 hc_1
    refine ru_go (t := (43, [some (.inr (some a0)), some (.inl x1)], [.inl 0], M)) sm_a6_42 rfl rfl (st_iconst (by decide)) ?_
    exact ru_ret sm_a6_43 (sm_rvz rfl (by decide)) h
  · have h := h.2 hc_1
    refine ru_go (t := (8, [some (.inr (some a0)), some (.inl x1)], [.inr (some a0)], M)) sm_a6_7 rfl rfl rfl ?_
    obtain ⟨h_2, h⟩ := h
    refine ru_go (t := (11, [some (.inr (some a0)), some (.inl x1)], [.inr (sm_R M a0 3)], M)) sm_a6_8 rfl rfl (st_getR h_2 rfl rfl) ?_
    obtain ⟨b_3, hb_4, h⟩ := h
    rw [hb_4]
    obtain ⟨h_5, h⟩ := h
    refine ru_go (t := (14, [some (.inr (some a0)), some (.inl x1)], [.inr (sm_R M b_3 3)], M)) sm_a6_11 rfl rfl (st_getR h_5 rfl rfl) ?_
    refine ru_go (t := (15, [some (.inr (some a0)), some (.inl x1)], [.inl x1, .inr (sm_R M b_3 3)], M)) sm_a6_14 rfl rfl rfl ?_
    obtain ⟨b_6, hb_7, h⟩ := h
    rw [hb_7]
    obtain ⟨h_8, h⟩ := h
    obtain ⟨h_9, h⟩ := h
    refine ru_go (t := (16, [some (.inr (some a0)), some (.inl x1)], [.inr (sm_R M b_6 (x1).toNatClampNeg)], M)) sm_a6_15 rfl rfl (st_aald h_8.choose_spec h_9 rfl) ?_
    obtain ⟨b_10, hb_11, h⟩ := h
    rw [hb_11]
    obtain ⟨h_12, h⟩ := h
    refine ru_go (t := (19, [some (.inr (some a0)), some (.inl x1)], [.inl (sm_I M b_10 3)], M)) sm_a6_16 rfl rfl (st_getI h_12 rfl) ?_
    refine ru_if (pc := 19) (p := 42) (p2 := 22) sm_a6_19 (by decide) rfl ⟨fun hc_13 => ?_, fun hc_13 => ?_⟩
    · have h := h.1 hc_13
      refine ru_go (t := (43, [some (.inr (some a0)), some (.inl x1)], [.inl 0], M)) sm_a6_42 rfl rfl (st_iconst (by decide)) ?_
      exact ru_ret sm_a6_43 (sm_rvz rfl (by decide)) h
    · have h := h.2 hc_13
      refine ru_go (t := (23, [some (.inr (some a0)), some (.inl x1)], [.inr (some a0)], M)) sm_a6_22 rfl rfl rfl ?_
      refine ru_go (t := (26, [some (.inr (some a0)), some (.inl x1)], [.inr (sm_R M a0 3)], M)) sm_a6_23 rfl rfl (st_getR h_2 rfl rfl) ?_
      obtain ⟨b_14, hb_15, h⟩ := h
      rw [hb_15]
      obtain ⟨h_16, h⟩ := h
      exact ru_call (p := 29) sm_a6_26 rfl (sc_virt (Or.inl rfl) rfl rfl h_16 (Nat.le_of_ble_eq_true rfl)) rfl h
theorem bb_6_29 {d : Nat} {M : sm_M} {Q : Option sm_V → sm_M → Prop} {a0 : Nat} {x1 : Int32} {y0 : Int32}
    (h : ((¬ y0 = 0 → Q (some (.inl 0)) M) ∧ (¬ (¬ y0 = 0) → sm_K M a0 = 3 ∧ ∃ b_3, sm_R M a0 4 = some b_3 ∧ sm_K M b_3 = 21 ∧ sm_Run d 85 0 (sm_ent 85 [.inr (some b_3)]) [] M (fun v M1 => sm_Run (d + 1) 6 39 [some (.inr (some a0)), some (.inl x1)] (v.toList ++ []) M1 Q)))) :
    sm_Run (d + 1) 6 29 [some (.inr (some a0)), some (.inl x1)] [.inl y0] M Q := by
  refine ru_if (pc := 29) (p := 42) (p2 := 32) sm_a6_29 (by decide) rfl ⟨fun hc_1 => ?_, fun hc_1 => ?_⟩
  · have h := h.1 hc_1
    refine ru_go (t := (43, [some (.inr (some a0)), some (.inl x1)], [.inl 0], M)) sm_a6_42 rfl rfl (st_iconst (by decide)) ?_
    exact ru_ret sm_a6_43 (sm_rvz rfl (by decide)) h
  · have h := h.2 hc_1
    refine ru_go (t := (33, [some (.inr (some a0)), some (.inl x1)], [.inr (some a0)], M)) sm_a6_32 rfl rfl rfl ?_
    obtain ⟨h_2, h⟩ := h
    refine ru_go (t := (36, [some (.inr (some a0)), some (.inl x1)], [.inr (sm_R M a0 4)], M)) sm_a6_33 rfl rfl (st_getR h_2 rfl rfl) ?_
    obtain ⟨b_3, hb_4, h⟩ := h
    rw [hb_4]
    obtain ⟨h_5, h⟩ := h
    exact ru_call (p := 39) sm_a6_36 rfl (sc_virt (Or.inl rfl) rfl rfl h_5 (Nat.le_of_ble_eq_true rfl)) rfl h
theorem bb_6_39 {d : Nat} {M : sm_M} {Q : Option sm_V → sm_M → Prop} {a0 : Nat} {x1 : Int32} {y0 : Int32}
    (h : ((¬ y0 = 0 → sm_K M a0 = 3 ∧ ∃ b_3, sm_R M a0 3 = some b_3 ∧ sm_K M b_3 = 36 ∧ ∃ b_6, sm_R M b_3 3 = some b_6 ∧ (∃ ci, sm_K M b_6 = 4 + 3 * ci) ∧ sm_in_ M b_6 x1 ∧ ∃ b_10, sm_R M b_6 (x1).toNatClampNeg = some b_10 ∧ sm_K M b_10 = 15 ∧ sm_Run d 63 0 (sm_ent 63 [.inr (some b_10)]) [] M (fun v M1 => sm_Run (d + 1) 6 56 [some (.inr (some a0)), some (.inl x1)] (v.toList ++ []) M1 Q)) ∧ (¬ (¬ y0 = 0) → Q (some (.inl 0)) M))) :
    sm_Run (d + 1) 6 39 [some (.inr (some a0)), some (.inl x1)] [.inl y0] M Q := by
  refine ru_if (pc := 39) (p := 44) (p2 := 42) sm_a6_39 (by decide) rfl ⟨fun hc_1 => ?_, fun hc_1 => ?_⟩
  · have h := h.1 hc_1
    refine ru_go (t := (45, [some (.inr (some a0)), some (.inl x1)], [.inr (some a0)], M)) sm_a6_44 rfl rfl rfl ?_
    obtain ⟨h_2, h⟩ := h
    refine ru_go (t := (48, [some (.inr (some a0)), some (.inl x1)], [.inr (sm_R M a0 3)], M)) sm_a6_45 rfl rfl (st_getR h_2 rfl rfl) ?_
    obtain ⟨b_3, hb_4, h⟩ := h
    rw [hb_4]
    obtain ⟨h_5, h⟩ := h
    refine ru_go (t := (51, [some (.inr (some a0)), some (.inl x1)], [.inr (sm_R M b_3 3)], M)) sm_a6_48 rfl rfl (st_getR h_5 rfl rfl) ?_
    refine ru_go (t := (52, [some (.inr (some a0)), some (.inl x1)], [.inl x1, .inr (sm_R M b_3 3)], M)) sm_a6_51 rfl rfl rfl ?_
    obtain ⟨b_6, hb_7, h⟩ := h
    rw [hb_7]
    obtain ⟨h_8, h⟩ := h
    obtain ⟨h_9, h⟩ := h
    refine ru_go (t := (53, [some (.inr (some a0)), some (.inl x1)], [.inr (sm_R M b_6 (x1).toNatClampNeg)], M)) sm_a6_52 rfl rfl (st_aald h_8.choose_spec h_9 rfl) ?_
    obtain ⟨b_10, hb_11, h⟩ := h
    rw [hb_11]
    obtain ⟨h_12, h⟩ := h
    exact ru_call (p := 56) sm_a6_53 rfl (sc_virt (Or.inl rfl) rfl rfl h_12 (Nat.le_of_ble_eq_true rfl)) rfl h
  · have h := h.2 hc_1
    refine ru_go (t := (43, [some (.inr (some a0)), some (.inl x1)], [.inl 0], M)) sm_a6_42 rfl rfl (st_iconst (by decide)) ?_
    exact ru_ret sm_a6_43 (sm_rvz rfl (by decide)) h
theorem bb_6_56 {d : Nat} {M : sm_M} {Q : Option sm_V → sm_M → Prop} {a0 : Nat} {x1 : Int32}
    (h : sm_K M a0 = 3 ∧ ∃ b_2, sm_R M a0 4 = some b_2 ∧ sm_K M b_2 = 21 ∧ sm_Run d 90 0 (sm_ent 90 [.inr (some b_2), .inl x1]) [] M (fun v M1 => sm_Run (d + 1) 6 64 [some (.inr (some a0)), some (.inl x1)] (v.toList ++ []) M1 Q)) :
    sm_Run (d + 1) 6 56 [some (.inr (some a0)), some (.inl x1)] [] M Q := by
  refine ru_go (t := (57, [some (.inr (some a0)), some (.inl x1)], [.inr (some a0)], M)) sm_a6_56 rfl rfl rfl ?_
  obtain ⟨h_1, h⟩ := h
  refine ru_go (t := (60, [some (.inr (some a0)), some (.inl x1)], [.inr (sm_R M a0 4)], M)) sm_a6_57 rfl rfl (st_getR h_1 rfl rfl) ?_
  refine ru_go (t := (61, [some (.inr (some a0)), some (.inl x1)], [.inl x1, .inr (sm_R M a0 4)], M)) sm_a6_60 rfl rfl rfl ?_
  obtain ⟨b_2, hb_3, h⟩ := h
  rw [hb_3]
  obtain ⟨h_4, h⟩ := h
  exact ru_call (p := 64) sm_a6_61 rfl (sc_virt (Or.inl rfl) rfl rfl h_4 (Nat.le_of_ble_eq_true rfl)) rfl h
theorem bb_6_64 {d : Nat} {M : sm_M} {Q : Option sm_V → sm_M → Prop} {a0 : Nat} {x1 : Int32}
    (h : Q (some (.inl 1)) M) :
    sm_Run (d + 1) 6 64 [some (.inr (some a0)), some (.inl x1)] [] M Q := by
  refine ru_go (t := (65, [some (.inr (some a0)), some (.inl x1)], [.inl 1], M)) sm_a6_64 rfl rfl (st_iconst (by decide)) ?_
  exact ru_ret sm_a6_65 (sm_rvz rfl (by decide)) h

/-! WireBus.detach:(I)Z -/
theorem sm_a7_0 : sm_at 7 0 = some (.iload_n 1, 1, (0, 0, 0, 0)) := by decide +kernel
theorem sm_a7_1 : sm_at 7 1 = some (.invokestatic 63, 3, (12, 21, 0, 505)) := by decide +kernel
theorem sm_a7_4 : sm_at 7 4 = some (.ifCond .eq 18, 3, (0, 0, 0, 0)) := by decide +kernel
theorem sm_a7_7 : sm_at 7 7 = some (.aload_n 0, 1, (0, 0, 0, 0)) := by decide +kernel
theorem sm_a7_8 : sm_at 7 8 = some (.getfield 25, 3, (0, 3, 0, 464)) := by decide +kernel
theorem sm_a7_11 : sm_at 7 11 = some (.getfield 67, 3, (11, 3, 1, 310)) := by decide +kernel
theorem sm_a7_14 : sm_at 7 14 = some (.iload_n 1, 1, (0, 0, 0, 0)) := by decide +kernel
theorem sm_a7_15 : sm_at 7 15 = some (.aaload, 1, (0, 0, 0, 0)) := by decide +kernel
theorem sm_a7_16 : sm_at 7 16 = some (.getfield 71, 3, (4, 3, 1, 261)) := by decide +kernel
theorem sm_a7_19 : sm_at 7 19 = some (.ifCond .ne 5, 3, (0, 0, 0, 0)) := by decide +kernel
theorem sm_a7_22 : sm_at 7 22 = some (.iconst 0, 1, (0, 0, 0, 0)) := by decide +kernel
theorem sm_a7_23 : sm_at 7 23 = some (.ireturn, 1, (0, 0, 0, 0)) := by decide +kernel
theorem sm_a7_24 : sm_at 7 24 = some (.aload_n 0, 1, (0, 0, 0, 0)) := by decide +kernel
theorem sm_a7_25 : sm_at 7 25 = some (.getfield 25, 3, (0, 3, 0, 464)) := by decide +kernel
theorem sm_a7_28 : sm_at 7 28 = some (.getfield 67, 3, (11, 3, 1, 310)) := by decide +kernel
theorem sm_a7_31 : sm_at 7 31 = some (.iload_n 1, 1, (0, 0, 0, 0)) := by decide +kernel
theorem sm_a7_32 : sm_at 7 32 = some (.aaload, 1, (0, 0, 0, 0)) := by decide +kernel
theorem sm_a7_33 : sm_at 7 33 = some (.invokevirtual 104, 3, (10, 64, 4, 689)) := by decide +kernel
theorem sm_a7_36 : sm_at 7 36 = some (.aload_n 0, 1, (0, 0, 0, 0)) := by decide +kernel
theorem sm_a7_37 : sm_at 7 37 = some (.getfield 32, 3, (0, 4, 0, 465)) := by decide +kernel
theorem sm_a7_40 : sm_at 7 40 = some (.iload_n 1, 1, (0, 0, 0, 0)) := by decide +kernel
theorem sm_a7_41 : sm_at 7 41 = some (.invokevirtual 107, 3, (10, 92, 6, 693)) := by decide +kernel
theorem sm_a7_44 : sm_at 7 44 = some (.iconst 1, 1, (0, 0, 0, 0)) := by decide +kernel
theorem sm_a7_45 : sm_at 7 45 = some (.ireturn, 1, (0, 0, 0, 0)) := by decide +kernel
theorem bb_7_0 {d : Nat} {M : sm_M} {Q : Option sm_V → sm_M → Prop} {a0 : Nat} {x1 : Int32}
    (h : sm_Run d 21 0 (sm_ent 21 [.inl x1]) [] M (fun v M1 => sm_Run (d + 1) 7 4 [some (.inr (some a0)), some (.inl x1)] (v.toList ++ []) M1 Q)) :
    sm_Run (d + 1) 7 0 [some (.inr (some a0)), some (.inl x1)] [] M Q := by
  refine ru_go (t := (1, [some (.inr (some a0)), some (.inl x1)], [.inl x1], M)) sm_a7_0 rfl rfl rfl ?_
  exact ru_call (p := 4) sm_a7_1 rfl (sc_stat (Or.inl rfl) (Nat.le_of_ble_eq_true rfl) rfl rfl (Nat.le_of_ble_eq_true rfl)) rfl h
theorem bb_7_4 {d : Nat} {M : sm_M} {Q : Option sm_V → sm_M → Prop} {a0 : Nat} {x1 : Int32} {y0 : Int32}
    (h : ((y0 = 0 → Q (some (.inl 0)) M) ∧ (¬ (y0 = 0) → sm_K M a0 = 3 ∧ ∃ b_3, sm_R M a0 3 = some b_3 ∧ sm_K M b_3 = 36 ∧ ∃ b_6, sm_R M b_3 3 = some b_6 ∧ (∃ ci, sm_K M b_6 = 4 + 3 * ci) ∧ sm_in_ M b_6 x1 ∧ ∃ b_10, sm_R M b_6 (x1).toNatClampNeg = some b_10 ∧ sm_K M b_10 = 15 ∧ ((¬ (sm_I M b_10 3) = 0 → ∃ b_14, sm_R M a0 3 = some b_14 ∧ sm_K M b_14 = 36 ∧ ∃ b_17, sm_R M b_14 3 = some b_17 ∧ (∃ ci, sm_K M b_17 = 4 + 3 * ci) ∧ sm_in_ M b_17 x1 ∧ ∃ b_21, sm_R M b_17 (x1).toNatClampNeg = some b_21 ∧ sm_K M b_21 = 15 ∧ sm_Run d 64 0 (sm_ent 64 [.inr (some b_21)]) [] M (fun v M1 => sm_Run (d + 1) 7 36 [some (.inr (some a0)), some (.inl x1)] (v.toList ++ []) M1 Q)) ∧ (¬ (¬ (sm_I M b_10 3) = 0) → Q (some (.inl 0)) M))))) :
    sm_Run (d + 1) 7 4 [some (.inr (some a0)), some (.inl x1)] [.inl y0] M Q := by
  refine ru_if (pc := 4) (p := 22) (p2 := 7) sm_a7_4 (by decide) rfl ⟨fun hc_1 => ?_, fun hc_1 => ?_⟩
  · have h := h.1 hc_1
    refine ru_go (t := (23, [some (.inr (some a0)), some (.inl x1)], [.inl 0], M)) sm_a7_22 rfl rfl (st_iconst (by decide)) ?_
    exact ru_ret sm_a7_23 (sm_rvz rfl (by decide)) h
  · have h := h.2 hc_1
    refine ru_go (t := (8, [some (.inr (some a0)), some (.inl x1)], [.inr (some a0)], M)) sm_a7_7 rfl rfl rfl ?_
    obtain ⟨h_2, h⟩ := h
    refine ru_go (t := (11, [some (.inr (some a0)), some (.inl x1)], [.inr (sm_R M a0 3)], M)) sm_a7_8 rfl rfl (st_getR h_2 rfl rfl) ?_
    obtain ⟨b_3, hb_4, h⟩ := h
    rw [hb_4]
    obtain ⟨h_5, h⟩ := h
    refine ru_go (t := (14, [some (.inr (some a0)), some (.inl x1)], [.inr (sm_R M b_3 3)], M)) sm_a7_11 rfl rfl (st_getR h_5 rfl rfl) ?_
    refine ru_go (t := (15, [some (.inr (some a0)), some (.inl x1)], [.inl x1, .inr (sm_R M b_3 3)], M)) sm_a7_14 rfl rfl rfl ?_
    obtain ⟨b_6, hb_7, h⟩ := h
    rw [hb_7]
    obtain ⟨h_8, h⟩ := h
    obtain ⟨h_9, h⟩ := h
    refine ru_go (t := (16, [some (.inr (some a0)), some (.inl x1)], [.inr (sm_R M b_6 (x1).toNatClampNeg)], M)) sm_a7_15 rfl rfl (st_aald h_8.choose_spec h_9 rfl) ?_
    obtain ⟨b_10, hb_11, h⟩ := h
    rw [hb_11]
    obtain ⟨h_12, h⟩ := h
    refine ru_go (t := (19, [some (.inr (some a0)), some (.inl x1)], [.inl (sm_I M b_10 3)], M)) sm_a7_16 rfl rfl (st_getI h_12 rfl) ?_
    refine ru_if (pc := 19) (p := 24) (p2 := 22) sm_a7_19 (by decide) rfl ⟨fun hc_13 => ?_, fun hc_13 => ?_⟩
    · have h := h.1 hc_13
      refine ru_go (t := (25, [some (.inr (some a0)), some (.inl x1)], [.inr (some a0)], M)) sm_a7_24 rfl rfl rfl ?_
      refine ru_go (t := (28, [some (.inr (some a0)), some (.inl x1)], [.inr (sm_R M a0 3)], M)) sm_a7_25 rfl rfl (st_getR h_2 rfl rfl) ?_
      obtain ⟨b_14, hb_15, h⟩ := h
      rw [hb_15]
      obtain ⟨h_16, h⟩ := h
      refine ru_go (t := (31, [some (.inr (some a0)), some (.inl x1)], [.inr (sm_R M b_14 3)], M)) sm_a7_28 rfl rfl (st_getR h_16 rfl rfl) ?_
      refine ru_go (t := (32, [some (.inr (some a0)), some (.inl x1)], [.inl x1, .inr (sm_R M b_14 3)], M)) sm_a7_31 rfl rfl rfl ?_
      obtain ⟨b_17, hb_18, h⟩ := h
      rw [hb_18]
      obtain ⟨h_19, h⟩ := h
      obtain ⟨h_20, h⟩ := h
      refine ru_go (t := (33, [some (.inr (some a0)), some (.inl x1)], [.inr (sm_R M b_17 (x1).toNatClampNeg)], M)) sm_a7_32 rfl rfl (st_aald h_19.choose_spec h_20 rfl) ?_
      obtain ⟨b_21, hb_22, h⟩ := h
      rw [hb_22]
      obtain ⟨h_23, h⟩ := h
      exact ru_call (p := 36) sm_a7_33 rfl (sc_virt (Or.inl rfl) rfl rfl h_23 (Nat.le_of_ble_eq_true rfl)) rfl h
    · have h := h.2 hc_13
      refine ru_go (t := (23, [some (.inr (some a0)), some (.inl x1)], [.inl 0], M)) sm_a7_22 rfl rfl (st_iconst (by decide)) ?_
      exact ru_ret sm_a7_23 (sm_rvz rfl (by decide)) h
theorem bb_7_36 {d : Nat} {M : sm_M} {Q : Option sm_V → sm_M → Prop} {a0 : Nat} {x1 : Int32}
    (h : sm_K M a0 = 3 ∧ ∃ b_2, sm_R M a0 4 = some b_2 ∧ sm_K M b_2 = 21 ∧ sm_Run d 92 0 (sm_ent 92 [.inr (some b_2), .inl x1]) [] M (fun v M1 => sm_Run (d + 1) 7 44 [some (.inr (some a0)), some (.inl x1)] (v.toList ++ []) M1 Q)) :
    sm_Run (d + 1) 7 36 [some (.inr (some a0)), some (.inl x1)] [] M Q := by
  refine ru_go (t := (37, [some (.inr (some a0)), some (.inl x1)], [.inr (some a0)], M)) sm_a7_36 rfl rfl rfl ?_
  obtain ⟨h_1, h⟩ := h
  refine ru_go (t := (40, [some (.inr (some a0)), some (.inl x1)], [.inr (sm_R M a0 4)], M)) sm_a7_37 rfl rfl (st_getR h_1 rfl rfl) ?_
  refine ru_go (t := (41, [some (.inr (some a0)), some (.inl x1)], [.inl x1, .inr (sm_R M a0 4)], M)) sm_a7_40 rfl rfl rfl ?_
  obtain ⟨b_2, hb_3, h⟩ := h
  rw [hb_3]
  obtain ⟨h_4, h⟩ := h
  exact ru_call (p := 44) sm_a7_41 rfl (sc_virt (Or.inl rfl) rfl rfl h_4 (Nat.le_of_ble_eq_true rfl)) rfl h
theorem bb_7_44 {d : Nat} {M : sm_M} {Q : Option sm_V → sm_M → Prop} {a0 : Nat} {x1 : Int32}
    (h : Q (some (.inl 1)) M) :
    sm_Run (d + 1) 7 44 [some (.inr (some a0)), some (.inl x1)] [] M Q := by
  refine ru_go (t := (45, [some (.inr (some a0)), some (.inl x1)], [.inl 1], M)) sm_a7_44 rfl rfl (st_iconst (by decide)) ?_
  exact ru_ret sm_a7_45 (sm_rvz rfl (by decide)) h

/-! WireBus.send:(III)I -/
theorem sm_a8_0 : sm_at 8 0 = some (.iload_n 3, 1, (0, 0, 0, 0)) := by decide +kernel
theorem sm_a8_1 : sm_at 8 1 = some (.ifCond .lt 21, 3, (0, 0, 0, 0)) := by decide +kernel
theorem sm_a8_4 : sm_at 8 4 = some (.iload_n 2, 1, (0, 0, 0, 0)) := by decide +kernel
theorem sm_a8_5 : sm_at 8 5 = some (.sipush 128, 3, (0, 0, 0, 0)) := by decide +kernel
theorem sm_a8_8 : sm_at 8 8 = some (.if_icmp .ge 14, 3, (0, 0, 0, 0)) := by decide +kernel
theorem sm_a8_11 : sm_at 8 11 = some (.iload_n 3, 1, (0, 0, 0, 0)) := by decide +kernel
theorem sm_a8_12 : sm_at 8 12 = some (.aload_n 0, 1, (0, 0, 0, 0)) := by decide +kernel
theorem sm_a8_13 : sm_at 8 13 = some (.getfield 18, 3, (0, 2, 0, 463)) := by decide +kernel
theorem sm_a8_16 : sm_at 8 16 = some (.getfield 60, 3, (1, 2, 1, 117)) := by decide +kernel
theorem sm_a8_19 : sm_at 8 19 = some (.if_icmp .le 5, 3, (0, 0, 0, 0)) := by decide +kernel
theorem sm_a8_22 : sm_at 8 22 = some (.iconst (-1), 1, (0, 0, 0, 0)) := by decide +kernel
theorem sm_a8_23 : sm_at 8 23 = some (.ireturn, 1, (0, 0, 0, 0)) := by decide +kernel
theorem sm_a8_24 : sm_at 8 24 = some (.aload_n 0, 1, (0, 0, 0, 0)) := by decide +kernel
theorem sm_a8_25 : sm_at 8 25 = some (.getfield 32, 3, (0, 4, 0, 465)) := by decide +kernel
theorem sm_a8_28 : sm_at 8 28 = some (.iload_n 1, 1, (0, 0, 0, 0)) := by decide +kernel
theorem sm_a8_29 : sm_at 8 29 = some (.iload_n 2, 1, (0, 0, 0, 0)) := by decide +kernel
theorem sm_a8_30 : sm_at 8 30 = some (.iload_n 3, 1, (0, 0, 0, 0)) := by decide +kernel
theorem sm_a8_31 : sm_at 8 31 = some (.invokevirtual 110, 3, (10, 87, 6, 701)) := by decide +kernel
theorem sm_a8_34 : sm_at 8 34 = some (.astore 4, 2, (0, 0, 0, 0)) := by decide +kernel
theorem sm_a8_36 : sm_at 8 36 = some (.aload 4, 2, (0, 0, 0, 0)) := by decide +kernel
theorem sm_a8_38 : sm_at 8 38 = some (.ifnonnull 5, 3, (0, 0, 0, 0)) := by decide +kernel
theorem sm_a8_41 : sm_at 8 41 = some (.iconst (-1), 1, (0, 0, 0, 0)) := by decide +kernel
theorem sm_a8_42 : sm_at 8 42 = some (.ireturn, 1, (0, 0, 0, 0)) := by decide +kernel
theorem sm_a8_43 : sm_at 8 43 = some (.aload 4, 2, (0, 0, 0, 0)) := by decide +kernel
theorem sm_a8_45 : sm_at 8 45 = some (.aload_n 0, 1, (0, 0, 0, 0)) := by decide +kernel
theorem sm_a8_46 : sm_at 8 46 = some (.getfield 18, 3, (0, 2, 0, 463)) := by decide +kernel
theorem sm_a8_49 : sm_at 8 49 = some (.invokevirtual 114, 3, (10, 123, 10, 710)) := by decide +kernel
theorem sm_a8_52 : sm_at 8 52 = some (.aload_n 0, 1, (0, 0, 0, 0)) := by decide +kernel
theorem sm_a8_53 : sm_at 8 53 = some (.getfield 32, 3, (0, 4, 0, 465)) := by decide +kernel
theorem sm_a8_56 : sm_at 8 56 = some (.getfield 120, 3, (6, 2, 1, 429)) := by decide +kernel
theorem sm_a8_59 : sm_at 8 59 = some (.iconst 1, 1, (0, 0, 0, 0)) := by decide +kernel
theorem sm_a8_60 : sm_at 8 60 = some (.isub, 1, (0, 0, 0, 0)) := by decide +kernel
theorem sm_a8_61 : sm_at 8 61 = some (.ireturn, 1, (0, 0, 0, 0)) := by decide +kernel
theorem bb_8_0 {d : Nat} {M : sm_M} {Q : Option sm_V → sm_M → Prop} {a0 : Nat} {x1 : Int32} {x2 : Int32} {x3 : Int32} {z4 : Option sm_V}
    (h : ((x3 < 0 → Q (some (.inl (-1))) M) ∧ (¬ (x3 < 0) → ((128 ≤ x2 → Q (some (.inl (-1))) M) ∧ (¬ (128 ≤ x2) → sm_K M a0 = 3 ∧ ∃ b_4, sm_R M a0 2 = some b_4 ∧ sm_K M b_4 = 6 ∧ ((x3 ≤ (sm_I M b_4 2) → ∃ b_8, sm_R M a0 4 = some b_8 ∧ sm_K M b_8 = 21 ∧ sm_Run d 87 0 (sm_ent 87 [.inr (some b_8), .inl x1, .inl x2, .inl x3]) [] M (fun v M1 => sm_Run (d + 1) 8 34 [some (.inr (some a0)), some (.inl x1), some (.inl x2), some (.inl x3), z4] (v.toList ++ []) M1 Q)) ∧ (¬ (x3 ≤ (sm_I M b_4 2)) → Q (some (.inl (-1))) M))))))) :
    sm_Run (d + 1) 8 0 [some (.inr (some a0)), some (.inl x1), some (.inl x2), some (.inl x3), z4] [] M Q := by
  refine ru_go (t := (1, [some (.inr (some a0)), some (.inl x1), some (.inl x2), some (.inl x3), z4], [.inl x3], M)) sm_a8_0 rfl rfl rfl ?_
  refine ru_if (pc := 1) (p := 22) (p2 := 4) sm_a8_1 (by decide) rfl ⟨fun hc_1 => ?_, fun hc_1 => ?_⟩
  · have h := h.1 hc_1
    refine ru_go (t := (23, [some (.inr (some a0)), some (.inl x1), some (.inl x2), some (.inl x3), z4], [.inl (-1)], M)) sm_a8_22 rfl rfl (st_iconst (by decide)) ?_
    exact ru_ret sm_a8_23 rfl h
  · have h := h.2 hc_1
    refine ru_go (t := (5, [some (.inr (some a0)), some (.inl x1), some (.inl x2), some (.inl x3), z4], [.inl x2], M)) sm_a8_4 rfl rfl rfl ?_
    refine ru_go (t := (8, [some (.inr (some a0)), some (.inl x1), some (.inl x2), some (.inl x3), z4], [.inl 128, .inl x2], M)) sm_a8_5 rfl rfl (st_sipush (by decide)) ?_
    refine ru_icmp (pc := 8) (p := 22) (p2 := 11) sm_a8_8 (by decide) rfl ⟨fun hc_2 => ?_, fun hc_2 => ?_⟩
    · have h := h.1 hc_2
      refine ru_go (t := (23, [some (.inr (some a0)), some (.inl x1), some (.inl x2), some (.inl x3), z4], [.inl (-1)], M)) sm_a8_22 rfl rfl (st_iconst (by decide)) ?_
      exact ru_ret sm_a8_23 rfl h
    · have h := h.2 hc_2
      refine ru_go (t := (12, [some (.inr (some a0)), some (.inl x1), some (.inl x2), some (.inl x3), z4], [.inl x3], M)) sm_a8_11 rfl rfl rfl ?_
      refine ru_go (t := (13, [some (.inr (some a0)), some (.inl x1), some (.inl x2), some (.inl x3), z4], [.inr (some a0), .inl x3], M)) sm_a8_12 rfl rfl rfl ?_
      obtain ⟨h_3, h⟩ := h
      refine ru_go (t := (16, [some (.inr (some a0)), some (.inl x1), some (.inl x2), some (.inl x3), z4], [.inr (sm_R M a0 2), .inl x3], M)) sm_a8_13 rfl rfl (st_getR h_3 rfl rfl) ?_
      obtain ⟨b_4, hb_5, h⟩ := h
      rw [hb_5]
      obtain ⟨h_6, h⟩ := h
      refine ru_go (t := (19, [some (.inr (some a0)), some (.inl x1), some (.inl x2), some (.inl x3), z4], [.inl (sm_I M b_4 2), .inl x3], M)) sm_a8_16 rfl rfl (st_getI h_6 rfl) ?_
      refine ru_icmp (pc := 19) (p := 24) (p2 := 22) sm_a8_19 (by decide) rfl ⟨fun hc_7 => ?_, fun hc_7 => ?_⟩
      · have h := h.1 hc_7
        refine ru_go (t := (25, [some (.inr (some a0)), some (.inl x1), some (.inl x2), some (.inl x3), z4], [.inr (some a0)], M)) sm_a8_24 rfl rfl rfl ?_
        refine ru_go (t := (28, [some (.inr (some a0)), some (.inl x1), some (.inl x2), some (.inl x3), z4], [.inr (sm_R M a0 4)], M)) sm_a8_25 rfl rfl (st_getR h_3 rfl rfl) ?_
        refine ru_go (t := (29, [some (.inr (some a0)), some (.inl x1), some (.inl x2), some (.inl x3), z4], [.inl x1, .inr (sm_R M a0 4)], M)) sm_a8_28 rfl rfl rfl ?_
        refine ru_go (t := (30, [some (.inr (some a0)), some (.inl x1), some (.inl x2), some (.inl x3), z4], [.inl x2, .inl x1, .inr (sm_R M a0 4)], M)) sm_a8_29 rfl rfl rfl ?_
        refine ru_go (t := (31, [some (.inr (some a0)), some (.inl x1), some (.inl x2), some (.inl x3), z4], [.inl x3, .inl x2, .inl x1, .inr (sm_R M a0 4)], M)) sm_a8_30 rfl rfl rfl ?_
        obtain ⟨b_8, hb_9, h⟩ := h
        rw [hb_9]
        obtain ⟨h_10, h⟩ := h
        exact ru_call (p := 34) sm_a8_31 rfl (sc_virt (Or.inl rfl) rfl rfl h_10 (Nat.le_of_ble_eq_true rfl)) rfl h
      · have h := h.2 hc_7
        refine ru_go (t := (23, [some (.inr (some a0)), some (.inl x1), some (.inl x2), some (.inl x3), z4], [.inl (-1)], M)) sm_a8_22 rfl rfl (st_iconst (by decide)) ?_
        exact ru_ret sm_a8_23 rfl h
theorem bb_8_34 {d : Nat} {M : sm_M} {Q : Option sm_V → sm_M → Prop} {a0 : Nat} {x1 : Int32} {x2 : Int32} {x3 : Int32} {z4 : Option sm_V} {t0 : Option Nat}
    (h : ((t0 = none → Q (some (.inl (-1))) M) ∧ (∀ b_1, t0 = some b_1 → sm_K M a0 = 3 ∧ sm_K M b_1 = 33 ∧ sm_Run d 123 0 (sm_ent 123 [.inr (some b_1), .inr (sm_R M a0 2)]) [] M (fun v M1 => sm_Run (d + 1) 8 52 [some (.inr (some a0)), some (.inl x1), some (.inl x2), some (.inl x3), some (.inr (some b_1))] (v.toList ++ []) M1 Q)))) :
    sm_Run (d + 1) 8 34 [some (.inr (some a0)), some (.inl x1), some (.inl x2), some (.inl x3), z4] [.inr t0] M Q := by
  refine ru_go (t := (36, [some (.inr (some a0)), some (.inl x1), some (.inl x2), some (.inl x3), some (.inr t0)], [], M)) sm_a8_34 rfl rfl rfl ?_
  refine ru_go (t := (38, [some (.inr (some a0)), some (.inl x1), some (.inl x2), some (.inl x3), some (.inr t0)], [.inr t0], M)) sm_a8_36 rfl rfl rfl ?_
  refine ru_ifnonnull (pc := 38) (p := 43) (p2 := 41) sm_a8_38 (by decide) rfl ⟨fun b_1 hc => ?_, fun hc => ?_⟩
  · have h := h.2 b_1 hc
    try rw [hc]
    refine ru_go (t := (45, [some (.inr (some a0)), some (.inl x1), some (.inl x2), some (.inl x3), some (.inr (some b_1))], [.inr (some b_1)], M)) sm_a8_43 rfl rfl rfl ?_
    refine ru_go (t := (46, [some (.inr (some a0)), some (.inl x1), some (.inl x2), some (.inl x3), some (.inr (some b_1))], [.inr (some a0), .inr (some b_1)], M)) sm_a8_45 rfl rfl rfl ?_
    obtain ⟨h_3, h⟩ := h
    refine ru_go (t := (49, [some (.inr (some a0)), some (.inl x1), some (.inl x2), some (.inl x3), some (.inr (some b_1))], [.inr (sm_R M a0 2), .inr (some b_1)], M)) sm_a8_46 rfl rfl (st_getR h_3 rfl rfl) ?_
    obtain ⟨h_4, h⟩ := h
    exact ru_call (p := 52) sm_a8_49 rfl (sc_virt (Or.inl rfl) rfl rfl h_4 (Nat.le_of_ble_eq_true rfl)) rfl h
  · have h := h.1 hc
    try rw [hc]
    refine ru_go (t := (42, [some (.inr (some a0)), some (.inl x1), some (.inl x2), some (.inl x3), some (.inr none)], [.inl (-1)], M)) sm_a8_41 rfl rfl (st_iconst (by decide)) ?_
    exact ru_ret sm_a8_42 rfl h
theorem bb_8_52 {d : Nat} {M : sm_M} {Q : Option sm_V → sm_M → Prop} {a0 : Nat} {x1 : Int32} {x2 : Int32} {x3 : Int32} {r4 : Option Nat}
    (h : sm_K M a0 = 3 ∧ ∃ b_2, sm_R M a0 4 = some b_2 ∧ sm_K M b_2 = 21 ∧ Q (some (.inl ((sm_I M b_2 2) - 1))) M) :
    sm_Run (d + 1) 8 52 [some (.inr (some a0)), some (.inl x1), some (.inl x2), some (.inl x3), some (.inr r4)] [] M Q := by
  refine ru_go (t := (53, [some (.inr (some a0)), some (.inl x1), some (.inl x2), some (.inl x3), some (.inr r4)], [.inr (some a0)], M)) sm_a8_52 rfl rfl rfl ?_
  obtain ⟨h_1, h⟩ := h
  refine ru_go (t := (56, [some (.inr (some a0)), some (.inl x1), some (.inl x2), some (.inl x3), some (.inr r4)], [.inr (sm_R M a0 4)], M)) sm_a8_53 rfl rfl (st_getR h_1 rfl rfl) ?_
  obtain ⟨b_2, hb_3, h⟩ := h
  rw [hb_3]
  obtain ⟨h_4, h⟩ := h
  refine ru_go (t := (59, [some (.inr (some a0)), some (.inl x1), some (.inl x2), some (.inl x3), some (.inr r4)], [.inl (sm_I M b_2 2)], M)) sm_a8_56 rfl rfl (st_getI h_4 rfl) ?_
  refine ru_go (t := (60, [some (.inr (some a0)), some (.inl x1), some (.inl x2), some (.inl x3), some (.inr r4)], [.inl 1, .inl (sm_I M b_2 2)], M)) sm_a8_59 rfl rfl (st_iconst (by decide)) ?_
  refine ru_go (t := (61, [some (.inr (some a0)), some (.inl x1), some (.inl x2), some (.inl x3), some (.inr r4)], [.inl ((sm_I M b_2 2) - 1)], M)) sm_a8_60 rfl rfl rfl ?_
  exact ru_ret sm_a8_61 rfl h

/-! WireBus.receive:(III)I -/
theorem sm_a9_0 : sm_at 9 0 = some (.iload_n 3, 1, (0, 0, 0, 0)) := by decide +kernel
theorem sm_a9_1 : sm_at 9 1 = some (.iconst 1, 1, (0, 0, 0, 0)) := by decide +kernel
theorem sm_a9_2 : sm_at 9 2 = some (.if_icmp .lt 10, 3, (0, 0, 0, 0)) := by decide +kernel
theorem sm_a9_5 : sm_at 9 5 = some (.iload_n 2, 1, (0, 0, 0, 0)) := by decide +kernel
theorem sm_a9_6 : sm_at 9 6 = some (.sipush 128, 3, (0, 0, 0, 0)) := by decide +kernel
theorem sm_a9_9 : sm_at 9 9 = some (.if_icmp .ge 5, 3, (0, 0, 0, 0)) := by decide +kernel
theorem sm_a9_12 : sm_at 9 12 = some (.iconst (-1), 1, (0, 0, 0, 0)) := by decide +kernel
theorem sm_a9_13 : sm_at 9 13 = some (.ireturn, 1, (0, 0, 0, 0)) := by decide +kernel
theorem sm_a9_14 : sm_at 9 14 = some (.aload_n 0, 1, (0, 0, 0, 0)) := by decide +kernel
theorem sm_a9_15 : sm_at 9 15 = some (.getfield 32, 3, (0, 4, 0, 465)) := by decide +kernel
theorem sm_a9_18 : sm_at 9 18 = some (.iload_n 1, 1, (0, 0, 0, 0)) := by decide +kernel
theorem sm_a9_19 : sm_at 9 19 = some (.iload_n 2, 1, (0, 0, 0, 0)) := by decide +kernel
theorem sm_a9_20 : sm_at 9 20 = some (.iload_n 3, 1, (0, 0, 0, 0)) := by decide +kernel
theorem sm_a9_21 : sm_at 9 21 = some (.invokevirtual 110, 3, (10, 87, 6, 701)) := by decide +kernel
theorem sm_a9_24 : sm_at 9 24 = some (.ifnonnull 7, 3, (0, 0, 0, 0)) := by decide +kernel
theorem sm_a9_27 : sm_at 9 27 = some (.iconst (-1), 1, (0, 0, 0, 0)) := by decide +kernel
theorem sm_a9_28 : sm_at 9 28 = some (.goto 12, 3, (0, 0, 0, 0)) := by decide +kernel
theorem sm_a9_31 : sm_at 9 31 = some (.aload_n 0, 1, (0, 0, 0, 0)) := by decide +kernel
theorem sm_a9_32 : sm_at 9 32 = some (.getfield 32, 3, (0, 4, 0, 465)) := by decide +kernel
theorem sm_a9_35 : sm_at 9 35 = some (.getfield 120, 3, (6, 2, 1, 429)) := by decide +kernel
theorem sm_a9_38 : sm_at 9 38 = some (.iconst 1, 1, (0, 0, 0, 0)) := by decide +kernel
theorem sm_a9_39 : sm_at 9 39 = some (.isub, 1, (0, 0, 0, 0)) := by decide +kernel
theorem sm_a9_40 : sm_at 9 40 = some (.ireturn, 1, (0, 0, 0, 0)) := by decide +kernel
theorem bb_9_0 {d : Nat} {M : sm_M} {Q : Option sm_V → sm_M → Prop} {a0 : Nat} {x1 : Int32} {x2 : Int32} {x3 : Int32}
    (h : ((x3 < 1 → Q (some (.inl (-1))) M) ∧ (¬ (x3 < 1) → ((128 ≤ x2 → sm_K M a0 = 3 ∧ ∃ b_4, sm_R M a0 4 = some b_4 ∧ sm_K M b_4 = 21 ∧ sm_Run d 87 0 (sm_ent 87 [.inr (some b_4), .inl x1, .inl x2, .inl x3]) [] M (fun v M1 => sm_Run (d + 1) 9 24 [some (.inr (some a0)), some (.inl x1), some (.inl x2), some (.inl x3)] (v.toList ++ []) M1 Q)) ∧ (¬ (128 ≤ x2) → Q (some (.inl (-1))) M))))) :
    sm_Run (d + 1) 9 0 [some (.inr (some a0)), some (.inl x1), some (.inl x2), some (.inl x3)] [] M Q := by
  refine ru_go (t := (1, [some (.inr (some a0)), some (.inl x1), some (.inl x2), some (.inl x3)], [.inl x3], M)) sm_a9_0 rfl rfl rfl ?_
  refine ru_go (t := (2, [some (.inr (some a0)), some (.inl x1), some (.inl x2), some (.inl x3)], [.inl 1, .inl x3], M)) sm_a9_1 rfl rfl (st_iconst (by decide)) ?_
  refine ru_icmp (pc := 2) (p := 12) (p2 := 5) sm_a9_2 (by decide) rfl ⟨fun hc_1 => ?_, fun hc_1 => ?_⟩
  · have h := h.1 hc_1
    refine ru_go (t := (13, [some (.inr (some a0)), some (.inl x1), some (.inl x2), some (.inl x3)], [.inl (-1)], M)) sm_a9_12 rfl rfl (st_iconst (by decide)) ?_
    exact ru_ret sm_a9_13 rfl h
  · have h := h.2 hc_1
    refine ru_go (t := (6, [some (.inr (some a0)), some (.inl x1), some (.inl x2), some (.inl x3)], [.inl x2], M)) sm_a9_5 rfl rfl rfl ?_
    refine ru_go (t := (9, [some (.inr (some a0)), some (.inl x1), some (.inl x2), some (.inl x3)], [.inl 128, .inl x2], M)) sm_a9_6 rfl rfl (st_sipush (by decide)) ?_
    refine ru_icmp (pc := 9) (p := 14) (p2 := 12) sm_a9_9 (by decide) rfl ⟨fun hc_2 => ?_, fun hc_2 => ?_⟩
    · have h := h.1 hc_2
      refine ru_go (t := (15, [some (.inr (some a0)), some (.inl x1), some (.inl x2), some (.inl x3)], [.inr (some a0)], M)) sm_a9_14 rfl rfl rfl ?_
      obtain ⟨h_3, h⟩ := h
      refine ru_go (t := (18, [some (.inr (some a0)), some (.inl x1), some (.inl x2), some (.inl x3)], [.inr (sm_R M a0 4)], M)) sm_a9_15 rfl rfl (st_getR h_3 rfl rfl) ?_
      refine ru_go (t := (19, [some (.inr (some a0)), some (.inl x1), some (.inl x2), some (.inl x3)], [.inl x1, .inr (sm_R M a0 4)], M)) sm_a9_18 rfl rfl rfl ?_
      refine ru_go (t := (20, [some (.inr (some a0)), some (.inl x1), some (.inl x2), some (.inl x3)], [.inl x2, .inl x1, .inr (sm_R M a0 4)], M)) sm_a9_19 rfl rfl rfl ?_
      refine ru_go (t := (21, [some (.inr (some a0)), some (.inl x1), some (.inl x2), some (.inl x3)], [.inl x3, .inl x2, .inl x1, .inr (sm_R M a0 4)], M)) sm_a9_20 rfl rfl rfl ?_
      obtain ⟨b_4, hb_5, h⟩ := h
      rw [hb_5]
      obtain ⟨h_6, h⟩ := h
      exact ru_call (p := 24) sm_a9_21 rfl (sc_virt (Or.inl rfl) rfl rfl h_6 (Nat.le_of_ble_eq_true rfl)) rfl h
    · have h := h.2 hc_2
      refine ru_go (t := (13, [some (.inr (some a0)), some (.inl x1), some (.inl x2), some (.inl x3)], [.inl (-1)], M)) sm_a9_12 rfl rfl (st_iconst (by decide)) ?_
      exact ru_ret sm_a9_13 rfl h
theorem bb_9_24 {d : Nat} {M : sm_M} {Q : Option sm_V → sm_M → Prop} {a0 : Nat} {x1 : Int32} {x2 : Int32} {x3 : Int32} {t0 : Option Nat}
    (h : ((t0 = none → Q (some (.inl (-1))) M) ∧ (∀ b_1, t0 = some b_1 → sm_K M a0 = 3 ∧ ∃ b_4, sm_R M a0 4 = some b_4 ∧ sm_K M b_4 = 21 ∧ Q (some (.inl ((sm_I M b_4 2) - 1))) M))) :
    sm_Run (d + 1) 9 24 [some (.inr (some a0)), some (.inl x1), some (.inl x2), some (.inl x3)] [.inr t0] M Q := by
  refine ru_ifnonnull (pc := 24) (p := 31) (p2 := 27) sm_a9_24 (by decide) rfl ⟨fun b_1 hc => ?_, fun hc => ?_⟩
  · have h := h.2 b_1 hc
    try rw [hc]
    refine ru_go (t := (32, [some (.inr (some a0)), some (.inl x1), some (.inl x2), some (.inl x3)], [.inr (some a0)], M)) sm_a9_31 rfl rfl rfl ?_
    obtain ⟨h_3, h⟩ := h
    refine ru_go (t := (35, [some (.inr (some a0)), some (.inl x1), some (.inl x2), some (.inl x3)], [.inr (sm_R M a0 4)], M)) sm_a9_32 rfl rfl (st_getR h_3 rfl rfl) ?_
    obtain ⟨b_4, hb_5, h⟩ := h
    rw [hb_5]
    obtain ⟨h_6, h⟩ := h
    refine ru_go (t := (38, [some (.inr (some a0)), some (.inl x1), some (.inl x2), some (.inl x3)], [.inl (sm_I M b_4 2)], M)) sm_a9_35 rfl rfl (st_getI h_6 rfl) ?_
    refine ru_go (t := (39, [some (.inr (some a0)), some (.inl x1), some (.inl x2), some (.inl x3)], [.inl 1, .inl (sm_I M b_4 2)], M)) sm_a9_38 rfl rfl (st_iconst (by decide)) ?_
    refine ru_go (t := (40, [some (.inr (some a0)), some (.inl x1), some (.inl x2), some (.inl x3)], [.inl ((sm_I M b_4 2) - 1)], M)) sm_a9_39 rfl rfl rfl ?_
    exact ru_ret sm_a9_40 rfl h
  · have h := h.1 hc
    try rw [hc]
    refine ru_go (t := (28, [some (.inr (some a0)), some (.inl x1), some (.inl x2), some (.inl x3)], [.inl (-1)], M)) sm_a9_27 rfl rfl (st_iconst (by decide)) ?_
    refine ru_go (t := (40, [some (.inr (some a0)), some (.inl x1), some (.inl x2), some (.inl x3)], [.inl (-1)], M)) sm_a9_28 rfl rfl (st_goto (pc := 28) (by decide)) ?_
    exact ru_ret sm_a9_40 rfl h

/-! WireBus.control:(IIIII)I -/
theorem sm_a10_0 : sm_at 10 0 = some (.iload_n 2, 1, (0, 0, 0, 0)) := by decide +kernel
theorem sm_a10_1 : sm_at 10 1 = some (.ldc 79, 2, (65535, 0, 0, 511)) := by decide +kernel
theorem sm_a10_3 : sm_at 10 3 = some (.iand, 1, (0, 0, 0, 0)) := by decide +kernel
theorem sm_a10_4 : sm_at 10 4 = some (.istore 6, 2, (0, 0, 0, 0)) := by decide +kernel
theorem sm_a10_6 : sm_at 10 6 = some (.iload 6, 2, (0, 0, 0, 0)) := by decide +kernel
theorem sm_a10_8 : sm_at 10 8 = some (.ldc 123, 2, (32768, 0, 0, 735)) := by decide +kernel
theorem sm_a10_10 : sm_at 10 10 = some (.if_icmp .lt 7, 3, (0, 0, 0, 0)) := by decide +kernel
theorem sm_a10_13 : sm_at 10 13 = some (.iconst 1, 1, (0, 0, 0, 0)) := by decide +kernel
theorem sm_a10_14 : sm_at 10 14 = some (.goto 4, 3, (0, 0, 0, 0)) := by decide +kernel
theorem sm_a10_17 : sm_at 10 17 = some (.iconst 0, 1, (0, 0, 0, 0)) := by decide +kernel
theorem sm_a10_18 : sm_at 10 18 = some (.istore 7, 2, (0, 0, 0, 0)) := by decide +kernel
theorem sm_a10_20 : sm_at 10 20 = some (.iload 7, 2, (0, 0, 0, 0)) := by decide +kernel
theorem sm_a10_22 : sm_at 10 22 = some (.ifCond .ne 17, 3, (0, 0, 0, 0)) := by decide +kernel
theorem sm_a10_25 : sm_at 10 25 = some (.iload 5, 2, (0, 0, 0, 0)) := by decide +kernel
theorem sm_a10_27 : sm_at 10 27 = some (.aload_n 0, 1, (0, 0, 0, 0)) := by decide +kernel
theorem sm_a10_28 : sm_at 10 28 = some (.getfield 18, 3, (0, 2, 0, 463)) := by decide +kernel
theorem sm_a10_31 : sm_at 10 31 = some (.getfield 60, 3, (1, 2, 1, 117)) := by decide +kernel
theorem sm_a10_34 : sm_at 10 34 = some (.if_icmp .le 5, 3, (0, 0, 0, 0)) := by decide +kernel
theorem sm_a10_37 : sm_at 10 37 = some (.iconst (-1), 1, (0, 0, 0, 0)) := by decide +kernel
theorem sm_a10_38 : sm_at 10 38 = some (.ireturn, 1, (0, 0, 0, 0)) := by decide +kernel
theorem sm_a10_39 : sm_at 10 39 = some (.aload_n 0, 1, (0, 0, 0, 0)) := by decide +kernel
theorem sm_a10_40 : sm_at 10 40 = some (.getfield 32, 3, (0, 4, 0, 465)) := by decide +kernel
theorem sm_a10_43 : sm_at 10 43 = some (.iload_n 1, 1, (0, 0, 0, 0)) := by decide +kernel
theorem sm_a10_44 : sm_at 10 44 = some (.iload 6, 2, (0, 0, 0, 0)) := by decide +kernel
theorem sm_a10_46 : sm_at 10 46 = some (.iload_n 3, 1, (0, 0, 0, 0)) := by decide +kernel
theorem sm_a10_47 : sm_at 10 47 = some (.ldc 79, 2, (65535, 0, 0, 511)) := by decide +kernel
theorem sm_a10_49 : sm_at 10 49 = some (.iand, 1, (0, 0, 0, 0)) := by decide +kernel
theorem sm_a10_50 : sm_at 10 50 = some (.iload 4, 2, (0, 0, 0, 0)) := by decide +kernel
theorem sm_a10_52 : sm_at 10 52 = some (.ldc 79, 2, (65535, 0, 0, 511)) := by decide +kernel
theorem sm_a10_54 : sm_at 10 54 = some (.iand, 1, (0, 0, 0, 0)) := by decide +kernel
theorem sm_a10_55 : sm_at 10 55 = some (.iload 5, 2, (0, 0, 0, 0)) := by decide +kernel
theorem sm_a10_57 : sm_at 10 57 = some (.invokevirtual 124, 3, (10, 88, 6, 736)) := by decide +kernel
theorem sm_a10_60 : sm_at 10 60 = some (.astore 8, 2, (0, 0, 0, 0)) := by decide +kernel
theorem sm_a10_62 : sm_at 10 62 = some (.aload 8, 2, (0, 0, 0, 0)) := by decide +kernel
theorem sm_a10_64 : sm_at 10 64 = some (.ifnonnull 5, 3, (0, 0, 0, 0)) := by decide +kernel
theorem sm_a10_67 : sm_at 10 67 = some (.iconst (-1), 1, (0, 0, 0, 0)) := by decide +kernel
theorem sm_a10_68 : sm_at 10 68 = some (.ireturn, 1, (0, 0, 0, 0)) := by decide +kernel
theorem sm_a10_69 : sm_at 10 69 = some (.iload 7, 2, (0, 0, 0, 0)) := by decide +kernel
theorem sm_a10_71 : sm_at 10 71 = some (.ifCond .ne 12, 3, (0, 0, 0, 0)) := by decide +kernel
theorem sm_a10_74 : sm_at 10 74 = some (.aload 8, 2, (0, 0, 0, 0)) := by decide +kernel
theorem sm_a10_76 : sm_at 10 76 = some (.aload_n 0, 1, (0, 0, 0, 0)) := by decide +kernel
theorem sm_a10_77 : sm_at 10 77 = some (.getfield 18, 3, (0, 2, 0, 463)) := by decide +kernel
theorem sm_a10_80 : sm_at 10 80 = some (.invokevirtual 114, 3, (10, 123, 10, 710)) := by decide +kernel
theorem sm_a10_83 : sm_at 10 83 = some (.aload_n 0, 1, (0, 0, 0, 0)) := by decide +kernel
theorem sm_a10_84 : sm_at 10 84 = some (.getfield 32, 3, (0, 4, 0, 465)) := by decide +kernel
theorem sm_a10_87 : sm_at 10 87 = some (.getfield 120, 3, (6, 2, 1, 429)) := by decide +kernel
theorem sm_a10_90 : sm_at 10 90 = some (.iconst 1, 1, (0, 0, 0, 0)) := by decide +kernel
theorem sm_a10_91 : sm_at 10 91 = some (.isub, 1, (0, 0, 0, 0)) := by decide +kernel
theorem sm_a10_92 : sm_at 10 92 = some (.ireturn, 1, (0, 0, 0, 0)) := by decide +kernel
theorem bb_10_0 {d : Nat} {M : sm_M} {Q : Option sm_V → sm_M → Prop} {a0 : Nat} {x1 : Int32} {x2 : Int32} {x3 : Int32} {x4 : Int32} {x5 : Int32} {z6 : Option sm_V} {z7 : Option sm_V} {z8 : Option sm_V}
    (h : (((x2 &&& 65535) < 32768 → sm_K M a0 = 3 ∧ ∃ b_3, sm_R M a0 2 = some b_3 ∧ sm_K M b_3 = 6 ∧ ((x5 ≤ (sm_I M b_3 2) → sm_Run (d + 1) 10 39 [some (.inr (some a0)), some (.inl x1), some (.inl x2), some (.inl x3), some (.inl x4), some (.inl x5), some (.inl (x2 &&& 65535)), some (.inl 0), z8] [] M Q) ∧ (¬ (x5 ≤ (sm_I M b_3 2)) → Q (some (.inl (-1))) M))) ∧ (¬ ((x2 &&& 65535) < 32768) → sm_Run (d + 1) 10 39 [some (.inr (some a0)), some (.inl x1), some (.inl x2), some (.inl x3), some (.inl x4), some (.inl x5), some (.inl (x2 &&& 65535)), some (.inl 1), z8] [] M Q))) :
    sm_Run (d + 1) 10 0 [some (.inr (some a0)), some (.inl x1), some (.inl x2), some (.inl x3), some (.inl x4), some (.inl x5), z6, z7, z8] [] M Q := by
  refine ru_go (t := (1, [some (.inr (some a0)), some (.inl x1), some (.inl x2), some (.inl x3), some (.inl x4), some (.inl x5), z6, z7, z8], [.inl x2], M)) sm_a10_0 rfl rfl rfl ?_
  refine ru_go (t := (3, [some (.inr (some a0)), some (.inl x1), some (.inl x2), some (.inl x3), some (.inl x4), some (.inl x5), z6, z7, z8], [.inl 65535, .inl x2], M)) sm_a10_1 rfl rfl (st_ldc (by decide)) ?_
  refine ru_go (t := (4, [some (.inr (some a0)), some (.inl x1), some (.inl x2), some (.inl x3), some (.inl x4), some (.inl x5), z6, z7, z8], [.inl (x2 &&& 65535)], M)) sm_a10_3 rfl rfl rfl ?_
  refine ru_go (t := (6, [some (.inr (some a0)), some (.inl x1), some (.inl x2), some (.inl x3), some (.inl x4), some (.inl x5), some (.inl (x2 &&& 65535)), z7, z8], [], M)) sm_a10_4 rfl rfl rfl ?_
  refine ru_go (t := (8, [some (.inr (some a0)), some (.inl x1), some (.inl x2), some (.inl x3), some (.inl x4), some (.inl x5), some (.inl (x2 &&& 65535)), z7, z8], [.inl (x2 &&& 65535)], M)) sm_a10_6 rfl rfl rfl ?_
  refine ru_go (t := (10, [some (.inr (some a0)), some (.inl x1), some (.inl x2), some (.inl x3), some (.inl x4), some (.inl x5), some (.inl (x2 &&& 65535)), z7, z8], [.inl 32768, .inl (x2 &&& 65535)], M)) sm_a10_8 rfl rfl (st_ldc (by decide)) ?_
  refine ru_icmp (pc := 10) (p := 17) (p2 := 13) sm_a10_10 (by decide) rfl ⟨fun hc_1 => ?_, fun hc_1 => ?_⟩
  · have h := h.1 hc_1
    refine ru_go (t := (18, [some (.inr (some a0)), some (.inl x1), some (.inl x2), some (.inl x3), some (.inl x4), some (.inl x5), some (.inl (x2 &&& 65535)), z7, z8], [.inl 0], M)) sm_a10_17 rfl rfl (st_iconst (by decide)) ?_
    refine ru_go (t := (20, [some (.inr (some a0)), some (.inl x1), some (.inl x2), some (.inl x3), some (.inl x4), some (.inl x5), some (.inl (x2 &&& 65535)), some (.inl 0), z8], [], M)) sm_a10_18 rfl rfl rfl ?_
    refine ru_go (t := (22, [some (.inr (some a0)), some (.inl x1), some (.inl x2), some (.inl x3), some (.inl x4), some (.inl x5), some (.inl (x2 &&& 65535)), some (.inl 0), z8], [.inl 0], M)) sm_a10_20 rfl rfl rfl ?_
    refine ru_if (pc := 22) (p := 39) (p2 := 25) sm_a10_22 (by decide) rfl ⟨fun hc => absurd (show ¬ (0 : Int32) = 0 from hc) (by decide), fun _ => ?_⟩
    refine ru_go (t := (27, [some (.inr (some a0)), some (.inl x1), some (.inl x2), some (.inl x3), some (.inl x4), some (.inl x5), some (.inl (x2 &&& 65535)), some (.inl 0), z8], [.inl x5], M)) sm_a10_25 rfl rfl rfl ?_
    refine ru_go (t := (28, [some (.inr (some a0)), some (.inl x1), some (.inl x2), some (.inl x3), some (.inl x4), some (.inl x5), some (.inl (x2 &&& 65535)), some (.inl 0), z8], [.inr (some a0), .inl x5], M)) sm_a10_27 rfl rfl rfl ?_
    obtain ⟨h_2, h⟩ := h
    refine ru_go (t := (31, [some (.inr (some a0)), some (.inl x1), some (.inl x2), some (.inl x3), some (.inl x4), some (.inl x5), some (.inl (x2 &&& 65535)), some (.inl 0), z8], [.inr (sm_R M a0 2), .inl x5], M)) sm_a10_28 rfl rfl (st_getR h_2 rfl rfl) ?_
    obtain ⟨b_3, hb_4, h⟩ := h
    rw [hb_4]
    obtain ⟨h_5, h⟩ := h
    refine ru_go (t := (34, [some (.inr (some a0)), some (.inl x1), some (.inl x2), some (.inl x3), some (.inl x4), some (.inl x5), some (.inl (x2 &&& 65535)), some (.inl 0), z8], [.inl (sm_I M b_3 2), .inl x5], M)) sm_a10_31 rfl rfl (st_getI h_5 rfl) ?_
    refine ru_icmp (pc := 34) (p := 39) (p2 := 37) sm_a10_34 (by decide) rfl ⟨fun hc_6 => ?_, fun hc_6 => ?_⟩
    · have h := h.1 hc_6
      exact h
    · have h := h.2 hc_6
      refine ru_go (t := (38, [some (.inr (some a0)), some (.inl x1), some (.inl x2), some (.inl x3), some (.inl x4), some (.inl x5), some (.inl (x2 &&& 65535)), some (.inl 0), z8], [.inl (-1)], M)) sm_a10_37 rfl rfl (st_iconst (by decide)) ?_
      exact ru_ret sm_a10_38 rfl h
  · have h := h.2 hc_1
    refine ru_go (t := (14, [some (.inr (some a0)), some (.inl x1), some (.inl x2), some (.inl x3), some (.inl x4), some (.inl x5), some (.inl (x2 &&& 65535)), z7, z8], [.inl 1], M)) sm_a10_13 rfl rfl (st_iconst (by decide)) ?_
    refine ru_go (t := (18, [some (.inr (some a0)), some (.inl x1), some (.inl x2), some (.inl x3), some (.inl x4), some (.inl x5), some (.inl (x2 &&& 65535)), z7, z8], [.inl 1], M)) sm_a10_14 rfl rfl (st_goto (pc := 14) (by decide)) ?_
    refine ru_go (t := (20, [some (.inr (some a0)), some (.inl x1), some (.inl x2), some (.inl x3), some (.inl x4), some (.inl x5), some (.inl (x2 &&& 65535)), some (.inl 1), z8], [], M)) sm_a10_18 rfl rfl rfl ?_
    refine ru_go (t := (22, [some (.inr (some a0)), some (.inl x1), some (.inl x2), some (.inl x3), some (.inl x4), some (.inl x5), some (.inl (x2 &&& 65535)), some (.inl 1), z8], [.inl 1], M)) sm_a10_20 rfl rfl rfl ?_
    refine ru_if (pc := 22) (p := 39) (p2 := 25) sm_a10_22 (by decide) rfl ⟨fun _ => ?_, fun hc => absurd (show sm_cP .ne 1 0 from (by show ¬ (1 : Int32) = 0; decide)) hc⟩
    exact h
theorem bb_10_39 {d : Nat} {M : sm_M} {Q : Option sm_V → sm_M → Prop} {a0 : Nat} {x1 : Int32} {x2 : Int32} {x3 : Int32} {x4 : Int32} {x5 : Int32} {x6 : Int32} {x7 : Int32} {z8 : Option sm_V}
    (h : sm_K M a0 = 3 ∧ ∃ b_2, sm_R M a0 4 = some b_2 ∧ sm_K M b_2 = 21 ∧ sm_Run d 88 0 (sm_ent 88 [.inr (some b_2), .inl x1, .inl x6, .inl (x3 &&& 65535), .inl (x4 &&& 65535), .inl x5]) [] M (fun v M1 => sm_Run (d + 1) 10 60 [some (.inr (some a0)), some (.inl x1), some (.inl x2), some (.inl x3), some (.inl x4), some (.inl x5), some (.inl x6), some (.inl x7), z8] (v.toList ++ []) M1 Q)) :
    sm_Run (d + 1) 10 39 [some (.inr (some a0)), some (.inl x1), some (.inl x2), some (.inl x3), some (.inl x4), some (.inl x5), some (.inl x6), some (.inl x7), z8] [] M Q := by
  refine ru_go (t := (40, [some (.inr (some a0)), some (.inl x1), some (.inl x2), some (.inl x3), some (.inl x4), some (.inl x5), some (.inl x6), some (.inl x7), z8], [.inr (some a0)], M)) sm_a10_39 rfl rfl rfl ?_
  obtain ⟨h_1, h⟩ := h
  refine ru_go (t := (43, [some (.inr (some a0)), some (.inl x1), some (.inl x2), some (.inl x3), some (.inl x4), some (.inl x5), some (.inl x6), some (.inl x7), z8], [.inr (sm_R M a0 4)], M)) sm_a10_40 rfl rfl (st_getR h_1 rfl rfl) ?_
  refine ru_go (t := (44, [some (.inr (some a0)), some (.inl x1), some (.inl x2), some (.inl x3), some (.inl x4), some (.inl x5), some (.inl x6), some (.inl x7), z8], [.inl x1, .inr (sm_R M a0 4)], M)) sm_a10_43 rfl rfl rfl ?_
  refine ru_go (t := (46, [some (.inr (some a0)), some (.inl x1), some (.inl x2), some (.inl x3), some (.inl x4), some (.inl x5), some (.inl x6), some (.inl x7), z8], [.inl x6, .inl x1, .inr (sm_R M a0 4)], M)) sm_a10_44 rfl rfl rfl ?_
  refine ru_go (t := (47, [some (.inr (some a0)), some (.inl x1), some (.inl x2), some (.inl x3), some (.inl x4), some (.inl x5), some (.inl x6), some (.inl x7), z8], [.inl x3, .inl x6, .inl x1, .inr (sm_R M a0 4)], M)) sm_a10_46 rfl rfl rfl ?_
  refine ru_go (t := (49, [some (.inr (some a0)), some (.inl x1), some (.inl x2), some (.inl x3), some (.inl x4), some (.inl x5), some (.inl x6), some (.inl x7), z8], [.inl 65535, .inl x3, .inl x6, .inl x1, .inr (sm_R M a0 4)], M)) sm_a10_47 rfl rfl (st_ldc (by decide)) ?_
  refine ru_go (t := (50, [some (.inr (some a0)), some (.inl x1), some (.inl x2), some (.inl x3), some (.inl x4), some (.inl x5), some (.inl x6), some (.inl x7), z8], [.inl (x3 &&& 65535), .inl x6, .inl x1, .inr (sm_R M a0 4)], M)) sm_a10_49 rfl rfl rfl ?_
  refine ru_go (t := (52, [some (.inr (some a0)), some (.inl x1), some (.inl x2), some (.inl x3), some (.inl x4), some (.inl x5), some (.inl x6), some (.inl x7), z8], [.inl x4, .inl (x3 &&& 65535), .inl x6, .inl x1, .inr (sm_R M a0 4)], M)) sm_a10_50 rfl rfl rfl ?_
  refine ru_go (t := (54, [some (.inr (some a0)), some (.inl x1), some (.inl x2), some (.inl x3), some (.inl x4), some (.inl x5), some (.inl x6), some (.inl x7), z8], [.inl 65535, .inl x4, .inl (x3 &&& 65535), .inl x6, .inl x1, .inr (sm_R M a0 4)], M)) sm_a10_52 rfl rfl (st_ldc (by decide)) ?_
  refine ru_go (t := (55, [some (.inr (some a0)), some (.inl x1), some (.inl x2), some (.inl x3), some (.inl x4), some (.inl x5), some (.inl x6), some (.inl x7), z8], [.inl (x4 &&& 65535), .inl (x3 &&& 65535), .inl x6, .inl x1, .inr (sm_R M a0 4)], M)) sm_a10_54 rfl rfl rfl ?_
  refine ru_go (t := (57, [some (.inr (some a0)), some (.inl x1), some (.inl x2), some (.inl x3), some (.inl x4), some (.inl x5), some (.inl x6), some (.inl x7), z8], [.inl x5, .inl (x4 &&& 65535), .inl (x3 &&& 65535), .inl x6, .inl x1, .inr (sm_R M a0 4)], M)) sm_a10_55 rfl rfl rfl ?_
  obtain ⟨b_2, hb_3, h⟩ := h
  rw [hb_3]
  obtain ⟨h_4, h⟩ := h
  exact ru_call (p := 60) sm_a10_57 rfl (sc_virt (Or.inl rfl) rfl rfl h_4 (Nat.le_of_ble_eq_true rfl)) rfl h
theorem bb_10_60 {d : Nat} {M : sm_M} {Q : Option sm_V → sm_M → Prop} {a0 : Nat} {x1 : Int32} {x2 : Int32} {x3 : Int32} {x4 : Int32} {x5 : Int32} {x6 : Int32} {x7 : Int32} {z8 : Option sm_V} {t0 : Option Nat}
    (h : ((t0 = none → Q (some (.inl (-1))) M) ∧ (∀ b_1, t0 = some b_1 → ((¬ x7 = 0 → sm_K M a0 = 3 ∧ ∃ b_5, sm_R M a0 4 = some b_5 ∧ sm_K M b_5 = 21 ∧ Q (some (.inl ((sm_I M b_5 2) - 1))) M) ∧ (¬ (¬ x7 = 0) → sm_K M a0 = 3 ∧ sm_K M b_1 = 33 ∧ sm_Run d 123 0 (sm_ent 123 [.inr (some b_1), .inr (sm_R M a0 2)]) [] M (fun v M1 => sm_Run (d + 1) 10 83 [some (.inr (some a0)), some (.inl x1), some (.inl x2), some (.inl x3), some (.inl x4), some (.inl x5), some (.inl x6), some (.inl x7), some (.inr (some b_1))] (v.toList ++ []) M1 Q)))))) :
    sm_Run (d + 1) 10 60 [some (.inr (some a0)), some (.inl x1), some (.inl x2), some (.inl x3), some (.inl x4), some (.inl x5), some (.inl x6), some (.inl x7), z8] [.inr t0] M Q := by
  refine ru_go (t := (62, [some (.inr (some a0)), some (.inl x1), some (.inl x2), some (.inl x3), some (.inl x4), some (.inl x5), some (.inl x6), some (.inl x7), some (.inr t0)], [], M)) sm_a10_60 rfl rfl rfl ?_
  refine ru_go (t := (64, [some (.inr (some a0)), some (.inl x1), some (.inl x2), some (.inl x3), some (.inl x4), some (.inl x5), some (.inl x6), some (.inl x7), some (.inr t0)], [.inr t0], M)) sm_a10_62 rfl rfl rfl ?_
  refine ru_ifnonnull (pc := 64) (p := 69) (p2 := 67) sm_a10_64 (by decide) rfl ⟨fun b_1 hc => ?_, fun hc => ?_⟩
  · have h := h.2 b_1 hc
    try rw [hc]
    refine ru_go (t := (71, [some (.inr (some a0)), some (.inl x1), some (.inl x2), some (.inl x3), some (.inl x4), some (.inl x5), some (.inl x6), some (.inl x7), some (.inr (some b_1))], [.inl x7], M)) sm_a10_69 rfl rfl rfl ?_
    refine ru_if (pc := 71) (p := 83) (p2 := 74) sm_a10_71 (by decide) rfl ⟨fun hc_3 => ?_, fun hc_3 => ?_⟩
    · have h := h.1 hc_3
      refine ru_go (t := (84, [some (.inr (some a0)), some (.inl x1), some (.inl x2), some (.inl x3), some (.inl x4), some (.inl x5), some (.inl x6), some (.inl x7), some (.inr (some b_1))], [.inr (some a0)], M)) sm_a10_83 rfl rfl rfl ?_
      obtain ⟨h_4, h⟩ := h
      refine ru_go (t := (87, [some (.inr (some a0)), some (.inl x1), some (.inl x2), some (.inl x3), some (.inl x4), some (.inl x5), some (.inl x6), some (.inl x7), some (.inr (some b_1))], [.inr (sm_R M a0 4)], M)) sm_a10_84 rfl rfl (st_getR h_4 rfl rfl) ?_
      obtain ⟨b_5, hb_6, h⟩ := h
      rw [hb_6]
      obtain ⟨h_7, h⟩ := h
      refine ru_go (t := (90, [some (.inr (some a0)), some (.inl x1), some (.inl x2), some (.inl x3), some (.inl x4), some (.inl x5), some (.inl x6), some (.inl x7), some (.inr (some b_1))], [.inl (sm_I M b_5 2)], M)) sm_a10_87 rfl rfl (st_getI h_7 rfl) ?_
      refine ru_go (t := (91, [some (.inr (some a0)), some (.inl x1), some (.inl x2), some (.inl x3), some (.inl x4), some (.inl x5), some (.inl x6), some (.inl x7), some (.inr (some b_1))], [.inl 1, .inl (sm_I M b_5 2)], M)) sm_a10_90 rfl rfl (st_iconst (by decide)) ?_
      refine ru_go (t := (92, [some (.inr (some a0)), some (.inl x1), some (.inl x2), some (.inl x3), some (.inl x4), some (.inl x5), some (.inl x6), some (.inl x7), some (.inr (some b_1))], [.inl ((sm_I M b_5 2) - 1)], M)) sm_a10_91 rfl rfl rfl ?_
      exact ru_ret sm_a10_92 rfl h
    · have h := h.2 hc_3
      refine ru_go (t := (76, [some (.inr (some a0)), some (.inl x1), some (.inl x2), some (.inl x3), some (.inl x4), some (.inl x5), some (.inl x6), some (.inl x7), some (.inr (some b_1))], [.inr (some b_1)], M)) sm_a10_74 rfl rfl rfl ?_
      refine ru_go (t := (77, [some (.inr (some a0)), some (.inl x1), some (.inl x2), some (.inl x3), some (.inl x4), some (.inl x5), some (.inl x6), some (.inl x7), some (.inr (some b_1))], [.inr (some a0), .inr (some b_1)], M)) sm_a10_76 rfl rfl rfl ?_
      obtain ⟨h_8, h⟩ := h
      refine ru_go (t := (80, [some (.inr (some a0)), some (.inl x1), some (.inl x2), some (.inl x3), some (.inl x4), some (.inl x5), some (.inl x6), some (.inl x7), some (.inr (some b_1))], [.inr (sm_R M a0 2), .inr (some b_1)], M)) sm_a10_77 rfl rfl (st_getR h_8 rfl rfl) ?_
      obtain ⟨h_9, h⟩ := h
      exact ru_call (p := 83) sm_a10_80 rfl (sc_virt (Or.inl rfl) rfl rfl h_9 (Nat.le_of_ble_eq_true rfl)) rfl h
  · have h := h.1 hc
    try rw [hc]
    refine ru_go (t := (68, [some (.inr (some a0)), some (.inl x1), some (.inl x2), some (.inl x3), some (.inl x4), some (.inl x5), some (.inl x6), some (.inl x7), some (.inr none)], [.inl (-1)], M)) sm_a10_67 rfl rfl (st_iconst (by decide)) ?_
    exact ru_ret sm_a10_68 rfl h
theorem bb_10_83 {d : Nat} {M : sm_M} {Q : Option sm_V → sm_M → Prop} {a0 : Nat} {x1 : Int32} {x2 : Int32} {x3 : Int32} {x4 : Int32} {x5 : Int32} {x6 : Int32} {x7 : Int32} {r8 : Option Nat}
    (h : sm_K M a0 = 3 ∧ ∃ b_2, sm_R M a0 4 = some b_2 ∧ sm_K M b_2 = 21 ∧ Q (some (.inl ((sm_I M b_2 2) - 1))) M) :
    sm_Run (d + 1) 10 83 [some (.inr (some a0)), some (.inl x1), some (.inl x2), some (.inl x3), some (.inl x4), some (.inl x5), some (.inl x6), some (.inl x7), some (.inr r8)] [] M Q := by
  refine ru_go (t := (84, [some (.inr (some a0)), some (.inl x1), some (.inl x2), some (.inl x3), some (.inl x4), some (.inl x5), some (.inl x6), some (.inl x7), some (.inr r8)], [.inr (some a0)], M)) sm_a10_83 rfl rfl rfl ?_
  obtain ⟨h_1, h⟩ := h
  refine ru_go (t := (87, [some (.inr (some a0)), some (.inl x1), some (.inl x2), some (.inl x3), some (.inl x4), some (.inl x5), some (.inl x6), some (.inl x7), some (.inr r8)], [.inr (sm_R M a0 4)], M)) sm_a10_84 rfl rfl (st_getR h_1 rfl rfl) ?_
  obtain ⟨b_2, hb_3, h⟩ := h
  rw [hb_3]
  obtain ⟨h_4, h⟩ := h
  refine ru_go (t := (90, [some (.inr (some a0)), some (.inl x1), some (.inl x2), some (.inl x3), some (.inl x4), some (.inl x5), some (.inl x6), some (.inl x7), some (.inr r8)], [.inl (sm_I M b_2 2)], M)) sm_a10_87 rfl rfl (st_getI h_4 rfl) ?_
  refine ru_go (t := (91, [some (.inr (some a0)), some (.inl x1), some (.inl x2), some (.inl x3), some (.inl x4), some (.inl x5), some (.inl x6), some (.inl x7), some (.inr r8)], [.inl 1, .inl (sm_I M b_2 2)], M)) sm_a10_90 rfl rfl (st_iconst (by decide)) ?_
  refine ru_go (t := (92, [some (.inr (some a0)), some (.inl x1), some (.inl x2), some (.inl x3), some (.inl x4), some (.inl x5), some (.inl x6), some (.inl x7), some (.inr r8)], [.inl ((sm_I M b_2 2) - 1)], M)) sm_a10_91 rfl rfl rfl ?_
  exact ru_ret sm_a10_92 rfl h

/-! WireBus.frames:(I)I -/
theorem sm_a11_0 : sm_at 11 0 = some (.iload_n 1, 1, (0, 0, 0, 0)) := by decide +kernel
theorem sm_a11_1 : sm_at 11 1 = some (.iconst 1, 1, (0, 0, 0, 0)) := by decide +kernel
theorem sm_a11_2 : sm_at 11 2 = some (.if_icmp .lt 10, 3, (0, 0, 0, 0)) := by decide +kernel
theorem sm_a11_5 : sm_at 11 5 = some (.iload_n 1, 1, (0, 0, 0, 0)) := by decide +kernel
theorem sm_a11_6 : sm_at 11 6 = some (.sipush 200, 3, (0, 0, 0, 0)) := by decide +kernel
theorem sm_a11_9 : sm_at 11 9 = some (.if_icmp .le 5, 3, (0, 0, 0, 0)) := by decide +kernel
theorem sm_a11_12 : sm_at 11 12 = some (.iconst (-1), 1, (0, 0, 0, 0)) := by decide +kernel
theorem sm_a11_13 : sm_at 11 13 = some (.ireturn, 1, (0, 0, 0, 0)) := by decide +kernel
theorem sm_a11_14 : sm_at 11 14 = some (.aload_n 0, 1, (0, 0, 0, 0)) := by decide +kernel
theorem sm_a11_15 : sm_at 11 15 = some (.getfield 25, 3, (0, 3, 0, 464)) := by decide +kernel
theorem sm_a11_18 : sm_at 11 18 = some (.getfield 128, 3, (11, 8, 1, 317)) := by decide +kernel
theorem sm_a11_21 : sm_at 11 21 = some (.istore_n 2, 1, (0, 0, 0, 0)) := by decide +kernel
theorem sm_a11_22 : sm_at 11 22 = some (.iconst 0, 1, (0, 0, 0, 0)) := by decide +kernel
theorem sm_a11_23 : sm_at 11 23 = some (.istore_n 3, 1, (0, 0, 0, 0)) := by decide +kernel
theorem sm_a11_24 : sm_at 11 24 = some (.iload_n 3, 1, (0, 0, 0, 0)) := by decide +kernel
theorem sm_a11_25 : sm_at 11 25 = some (.iload_n 1, 1, (0, 0, 0, 0)) := by decide +kernel
theorem sm_a11_26 : sm_at 11 26 = some (.if_icmp .ge 74, 3, (0, 0, 0, 0)) := by decide +kernel
theorem sm_a11_29 : sm_at 11 29 = some (.aload_n 0, 1, (0, 0, 0, 0)) := by decide +kernel
theorem sm_a11_30 : sm_at 11 30 = some (.getfield 32, 3, (0, 4, 0, 465)) := by decide +kernel
theorem sm_a11_33 : sm_at 11 33 = some (.aload_n 0, 1, (0, 0, 0, 0)) := by decide +kernel
theorem sm_a11_34 : sm_at 11 34 = some (.getfield 25, 3, (0, 3, 0, 464)) := by decide +kernel
theorem sm_a11_37 : sm_at 11 37 = some (.invokevirtual 131, 3, (10, 93, 6, 748)) := by decide +kernel
theorem sm_a11_40 : sm_at 11 40 = some (.aload_n 0, 1, (0, 0, 0, 0)) := by decide +kernel
theorem sm_a11_41 : sm_at 11 41 = some (.getfield 45, 3, (0, 0, 0, 461)) := by decide +kernel
theorem sm_a11_44 : sm_at 11 44 = some (.istore 4, 2, (0, 0, 0, 0)) := by decide +kernel
theorem sm_a11_46 : sm_at 11 46 = some (.iload 4, 2, (0, 0, 0, 0)) := by decide +kernel
theorem sm_a11_48 : sm_at 11 48 = some (.ifCond .le 39, 3, (0, 0, 0, 0)) := by decide +kernel
theorem sm_a11_51 : sm_at 11 51 = some (.aload_n 0, 1, (0, 0, 0, 0)) := by decide +kernel
theorem sm_a11_52 : sm_at 11 52 = some (.getfield 32, 3, (0, 4, 0, 465)) := by decide +kernel
theorem sm_a11_55 : sm_at 11 55 = some (.invokevirtual 135, 3, (10, 95, 6, 975)) := by decide +kernel
theorem sm_a11_58 : sm_at 11 58 = some (.astore 5, 2, (0, 0, 0, 0)) := by decide +kernel
theorem sm_a11_60 : sm_at 11 60 = some (.aload 5, 2, (0, 0, 0, 0)) := by decide +kernel
theorem sm_a11_62 : sm_at 11 62 = some (.ifnonnull 6, 3, (0, 0, 0, 0)) := by decide +kernel
theorem sm_a11_65 : sm_at 11 65 = some (.goto 22, 3, (0, 0, 0, 0)) := by decide +kernel
theorem sm_a11_68 : sm_at 11 68 = some (.aload_n 0, 1, (0, 0, 0, 0)) := by decide +kernel
theorem sm_a11_69 : sm_at 11 69 = some (.getfield 32, 3, (0, 4, 0, 465)) := by decide +kernel
theorem sm_a11_72 : sm_at 11 72 = some (.aload_n 0, 1, (0, 0, 0, 0)) := by decide +kernel
theorem sm_a11_73 : sm_at 11 73 = some (.getfield 25, 3, (0, 3, 0, 464)) := by decide +kernel
theorem sm_a11_76 : sm_at 11 76 = some (.aload 5, 2, (0, 0, 0, 0)) := by decide +kernel
theorem sm_a11_78 : sm_at 11 78 = some (.invokevirtual 139, 3, (10, 101, 6, 1007)) := by decide +kernel
theorem sm_a11_81 : sm_at 11 81 = some (.iinc 4 (-1), 3, (0, 0, 0, 0)) := by decide +kernel
theorem sm_a11_84 : sm_at 11 84 = some (.goto (-38), 3, (0, 0, 0, 0)) := by decide +kernel
theorem sm_a11_87 : sm_at 11 87 = some (.aload_n 0, 1, (0, 0, 0, 0)) := by decide +kernel
theorem sm_a11_88 : sm_at 11 88 = some (.getfield 32, 3, (0, 4, 0, 465)) := by decide +kernel
theorem sm_a11_91 : sm_at 11 91 = some (.invokevirtual 143, 3, (10, 94, 6, 1109)) := by decide +kernel
theorem sm_a11_94 : sm_at 11 94 = some (.iinc 3 1, 3, (0, 0, 0, 0)) := by decide +kernel
theorem sm_a11_97 : sm_at 11 97 = some (.goto (-73), 3, (0, 0, 0, 0)) := by decide +kernel
theorem sm_a11_100 : sm_at 11 100 = some (.aload_n 0, 1, (0, 0, 0, 0)) := by decide +kernel
theorem sm_a11_101 : sm_at 11 101 = some (.getfield 25, 3, (0, 3, 0, 464)) := by decide +kernel
theorem sm_a11_104 : sm_at 11 104 = some (.getfield 128, 3, (11, 8, 1, 317)) := by decide +kernel
theorem sm_a11_107 : sm_at 11 107 = some (.iload_n 2, 1, (0, 0, 0, 0)) := by decide +kernel
theorem sm_a11_108 : sm_at 11 108 = some (.isub, 1, (0, 0, 0, 0)) := by decide +kernel
theorem sm_a11_109 : sm_at 11 109 = some (.ireturn, 1, (0, 0, 0, 0)) := by decide +kernel
theorem bb_11_0 {d : Nat} {M : sm_M} {Q : Option sm_V → sm_M → Prop} {a0 : Nat} {x1 : Int32} {z2 : Option sm_V} {z3 : Option sm_V} {z4 : Option sm_V} {z5 : Option sm_V}
    (h : ((x1 < 1 → Q (some (.inl (-1))) M) ∧ (¬ (x1 < 1) → ((x1 ≤ 200 → sm_K M a0 = 3 ∧ ∃ b_4, sm_R M a0 3 = some b_4 ∧ sm_K M b_4 = 36 ∧ sm_Run (d + 1) 11 24 [some (.inr (some a0)), some (.inl x1), some (.inl (sm_I M b_4 8)), some (.inl 0), z4, z5] [] M Q) ∧ (¬ (x1 ≤ 200) → Q (some (.inl (-1))) M))))) :
    sm_Run (d + 1) 11 0 [some (.inr (some a0)), some (.inl x1), z2, z3, z4, z5] [] M Q := by
  refine ru_go (t := (1, [some (.inr (some a0)), some (.inl x1), z2, z3, z4, z5], [.inl x1], M)) sm_a11_0 rfl rfl rfl ?_
  refine ru_go (t := (2, [some (.inr (some a0)), some (.inl x1), z2, z3, z4, z5], [.inl 1, .inl x1], M)) sm_a11_1 rfl rfl (st_iconst (by decide)) ?_
  refine ru_icmp (pc := 2) (p := 12) (p2 := 5) sm_a11_2 (by decide) rfl ⟨fun hc_1 => ?_, fun hc_1 => ?_⟩
  · have h := h.1 hc_1
    refine ru_go (t := (13, [some (.inr (some a0)), some (.inl x1), z2, z3, z4, z5], [.inl (-1)], M)) sm_a11_12 rfl rfl (st_iconst (by decide)) ?_
    exact ru_ret sm_a11_13 rfl h
  · have h := h.2 hc_1
    refine ru_go (t := (6, [some (.inr (some a0)), some (.inl x1), z2, z3, z4, z5], [.inl x1], M)) sm_a11_5 rfl rfl rfl ?_
    refine ru_go (t := (9, [some (.inr (some a0)), some (.inl x1), z2, z3, z4, z5], [.inl 200, .inl x1], M)) sm_a11_6 rfl rfl (st_sipush (by decide)) ?_
    refine ru_icmp (pc := 9) (p := 14) (p2 := 12) sm_a11_9 (by decide) rfl ⟨fun hc_2 => ?_, fun hc_2 => ?_⟩
    · have h := h.1 hc_2
      refine ru_go (t := (15, [some (.inr (some a0)), some (.inl x1), z2, z3, z4, z5], [.inr (some a0)], M)) sm_a11_14 rfl rfl rfl ?_
      obtain ⟨h_3, h⟩ := h
      refine ru_go (t := (18, [some (.inr (some a0)), some (.inl x1), z2, z3, z4, z5], [.inr (sm_R M a0 3)], M)) sm_a11_15 rfl rfl (st_getR h_3 rfl rfl) ?_
      obtain ⟨b_4, hb_5, h⟩ := h
      rw [hb_5]
      obtain ⟨h_6, h⟩ := h
      refine ru_go (t := (21, [some (.inr (some a0)), some (.inl x1), z2, z3, z4, z5], [.inl (sm_I M b_4 8)], M)) sm_a11_18 rfl rfl (st_getI h_6 rfl) ?_
      refine ru_go (t := (22, [some (.inr (some a0)), some (.inl x1), some (.inl (sm_I M b_4 8)), z3, z4, z5], [], M)) sm_a11_21 rfl rfl rfl ?_
      refine ru_go (t := (23, [some (.inr (some a0)), some (.inl x1), some (.inl (sm_I M b_4 8)), z3, z4, z5], [.inl 0], M)) sm_a11_22 rfl rfl (st_iconst (by decide)) ?_
      refine ru_go (t := (24, [some (.inr (some a0)), some (.inl x1), some (.inl (sm_I M b_4 8)), some (.inl 0), z4, z5], [], M)) sm_a11_23 rfl rfl rfl ?_
      exact h
    · have h := h.2 hc_2
      refine ru_go (t := (13, [some (.inr (some a0)), some (.inl x1), z2, z3, z4, z5], [.inl (-1)], M)) sm_a11_12 rfl rfl (st_iconst (by decide)) ?_
      exact ru_ret sm_a11_13 rfl h
theorem bb_11_24 {d : Nat} {M : sm_M} {Q : Option sm_V → sm_M → Prop} {a0 : Nat} {x1 : Int32} {x2 : Int32} {x3 : Int32} {z4 : Option sm_V} {z5 : Option sm_V}
    (h : ((x1 ≤ x3 → sm_K M a0 = 3 ∧ ∃ b_3, sm_R M a0 3 = some b_3 ∧ sm_K M b_3 = 36 ∧ Q (some (.inl ((sm_I M b_3 8) - x2))) M) ∧ (¬ (x1 ≤ x3) → sm_K M a0 = 3 ∧ ∃ b_7, sm_R M a0 4 = some b_7 ∧ sm_K M b_7 = 21 ∧ sm_Run d 93 0 (sm_ent 93 [.inr (some b_7), .inr (sm_R M a0 3)]) [] M (fun v M1 => sm_Run (d + 1) 11 40 [some (.inr (some a0)), some (.inl x1), some (.inl x2), some (.inl x3), z4, z5] (v.toList ++ []) M1 Q)))) :
    sm_Run (d + 1) 11 24 [some (.inr (some a0)), some (.inl x1), some (.inl x2), some (.inl x3), z4, z5] [] M Q := by
  refine ru_go (t := (25, [some (.inr (some a0)), some (.inl x1), some (.inl x2), some (.inl x3), z4, z5], [.inl x3], M)) sm_a11_24 rfl rfl rfl ?_
  refine ru_go (t := (26, [some (.inr (some a0)), some (.inl x1), some (.inl x2), some (.inl x3), z4, z5], [.inl x1, .inl x3], M)) sm_a11_25 rfl rfl rfl ?_
  refine ru_icmp (pc := 26) (p := 100) (p2 := 29) sm_a11_26 (by decide) rfl ⟨fun hc_1 => ?_, fun hc_1 => ?_⟩
  · have h := h.1 hc_1
    refine ru_go (t := (101, [some (.inr (some a0)), some (.inl x1), some (.inl x2), some (.inl x3), z4, z5], [.inr (some a0)], M)) sm_a11_100 rfl rfl rfl ?_
    obtain ⟨h_2, h⟩ := h
    refine ru_go (t := (104, [some (.inr (some a0)), some (.inl x1), some (.inl x2), some (.inl x3), z4, z5], [.inr (sm_R M a0 3)], M)) sm_a11_101 rfl rfl (st_getR h_2 rfl rfl) ?_
    obtain ⟨b_3, hb_4, h⟩ := h
    rw [hb_4]
    obtain ⟨h_5, h⟩ := h
    refine ru_go (t := (107, [some (.inr (some a0)), some (.inl x1), some (.inl x2), some (.inl x3), z4, z5], [.inl (sm_I M b_3 8)], M)) sm_a11_104 rfl rfl (st_getI h_5 rfl) ?_
    refine ru_go (t := (108, [some (.inr (some a0)), some (.inl x1), some (.inl x2), some (.inl x3), z4, z5], [.inl x2, .inl (sm_I M b_3 8)], M)) sm_a11_107 rfl rfl rfl ?_
    refine ru_go (t := (109, [some (.inr (some a0)), some (.inl x1), some (.inl x2), some (.inl x3), z4, z5], [.inl ((sm_I M b_3 8) - x2)], M)) sm_a11_108 rfl rfl rfl ?_
    exact ru_ret sm_a11_109 rfl h
  · have h := h.2 hc_1
    refine ru_go (t := (30, [some (.inr (some a0)), some (.inl x1), some (.inl x2), some (.inl x3), z4, z5], [.inr (some a0)], M)) sm_a11_29 rfl rfl rfl ?_
    obtain ⟨h_6, h⟩ := h
    refine ru_go (t := (33, [some (.inr (some a0)), some (.inl x1), some (.inl x2), some (.inl x3), z4, z5], [.inr (sm_R M a0 4)], M)) sm_a11_30 rfl rfl (st_getR h_6 rfl rfl) ?_
    refine ru_go (t := (34, [some (.inr (some a0)), some (.inl x1), some (.inl x2), some (.inl x3), z4, z5], [.inr (some a0), .inr (sm_R M a0 4)], M)) sm_a11_33 rfl rfl rfl ?_
    refine ru_go (t := (37, [some (.inr (some a0)), some (.inl x1), some (.inl x2), some (.inl x3), z4, z5], [.inr (sm_R M a0 3), .inr (sm_R M a0 4)], M)) sm_a11_34 rfl rfl (st_getR h_6 rfl rfl) ?_
    obtain ⟨b_7, hb_8, h⟩ := h
    rw [hb_8]
    obtain ⟨h_9, h⟩ := h
    exact ru_call (p := 40) sm_a11_37 rfl (sc_virt (Or.inl rfl) rfl rfl h_9 (Nat.le_of_ble_eq_true rfl)) rfl h
theorem bb_11_40 {d : Nat} {M : sm_M} {Q : Option sm_V → sm_M → Prop} {a0 : Nat} {x1 : Int32} {x2 : Int32} {x3 : Int32} {z4 : Option sm_V} {z5 : Option sm_V}
    (h : sm_K M a0 = 3 ∧ sm_Run (d + 1) 11 46 [some (.inr (some a0)), some (.inl x1), some (.inl x2), some (.inl x3), some (.inl (sm_I M a0 0)), z5] [] M Q) :
    sm_Run (d + 1) 11 40 [some (.inr (some a0)), some (.inl x1), some (.inl x2), some (.inl x3), z4, z5] [] M Q := by
  refine ru_go (t := (41, [some (.inr (some a0)), some (.inl x1), some (.inl x2), some (.inl x3), z4, z5], [.inr (some a0)], M)) sm_a11_40 rfl rfl rfl ?_
  obtain ⟨h_1, h⟩ := h
  refine ru_go (t := (44, [some (.inr (some a0)), some (.inl x1), some (.inl x2), some (.inl x3), z4, z5], [.inl (sm_I M a0 0)], M)) sm_a11_41 rfl rfl (st_getI h_1 rfl) ?_
  refine ru_go (t := (46, [some (.inr (some a0)), some (.inl x1), some (.inl x2), some (.inl x3), some (.inl (sm_I M a0 0)), z5], [], M)) sm_a11_44 rfl rfl rfl ?_
  exact h
theorem bb_11_46 {d : Nat} {M : sm_M} {Q : Option sm_V → sm_M → Prop} {a0 : Nat} {x1 : Int32} {x2 : Int32} {x3 : Int32} {x4 : Int32} {z5 : Option sm_V}
    (h : ((x4 ≤ 0 → sm_K M a0 = 3 ∧ ∃ b_3, sm_R M a0 4 = some b_3 ∧ sm_K M b_3 = 21 ∧ sm_Run d 94 0 (sm_ent 94 [.inr (some b_3)]) [] M (fun v M1 => sm_Run (d + 1) 11 94 [some (.inr (some a0)), some (.inl x1), some (.inl x2), some (.inl x3), some (.inl x4), z5] (v.toList ++ []) M1 Q)) ∧ (¬ (x4 ≤ 0) → sm_K M a0 = 3 ∧ ∃ b_7, sm_R M a0 4 = some b_7 ∧ sm_K M b_7 = 21 ∧ sm_Run d 95 0 (sm_ent 95 [.inr (some b_7)]) [] M (fun v M1 => sm_Run (d + 1) 11 58 [some (.inr (some a0)), some (.inl x1), some (.inl x2), some (.inl x3), some (.inl x4), z5] (v.toList ++ []) M1 Q)))) :
    sm_Run (d + 1) 11 46 [some (.inr (some a0)), some (.inl x1), some (.inl x2), some (.inl x3), some (.inl x4), z5] [] M Q := by
  refine ru_go (t := (48, [some (.inr (some a0)), some (.inl x1), some (.inl x2), some (.inl x3), some (.inl x4), z5], [.inl x4], M)) sm_a11_46 rfl rfl rfl ?_
  refine ru_if (pc := 48) (p := 87) (p2 := 51) sm_a11_48 (by decide) rfl ⟨fun hc_1 => ?_, fun hc_1 => ?_⟩
  · have h := h.1 hc_1
    refine ru_go (t := (88, [some (.inr (some a0)), some (.inl x1), some (.inl x2), some (.inl x3), some (.inl x4), z5], [.inr (some a0)], M)) sm_a11_87 rfl rfl rfl ?_
    obtain ⟨h_2, h⟩ := h
    refine ru_go (t := (91, [some (.inr (some a0)), some (.inl x1), some (.inl x2), some (.inl x3), some (.inl x4), z5], [.inr (sm_R M a0 4)], M)) sm_a11_88 rfl rfl (st_getR h_2 rfl rfl) ?_
    obtain ⟨b_3, hb_4, h⟩ := h
    rw [hb_4]
    obtain ⟨h_5, h⟩ := h
    exact ru_call (p := 94) sm_a11_91 rfl (sc_virt (Or.inl rfl) rfl rfl h_5 (Nat.le_of_ble_eq_true rfl)) rfl h
  · have h := h.2 hc_1
    refine ru_go (t := (52, [some (.inr (some a0)), some (.inl x1), some (.inl x2), some (.inl x3), some (.inl x4), z5], [.inr (some a0)], M)) sm_a11_51 rfl rfl rfl ?_
    obtain ⟨h_6, h⟩ := h
    refine ru_go (t := (55, [some (.inr (some a0)), some (.inl x1), some (.inl x2), some (.inl x3), some (.inl x4), z5], [.inr (sm_R M a0 4)], M)) sm_a11_52 rfl rfl (st_getR h_6 rfl rfl) ?_
    obtain ⟨b_7, hb_8, h⟩ := h
    rw [hb_8]
    obtain ⟨h_9, h⟩ := h
    exact ru_call (p := 58) sm_a11_55 rfl (sc_virt (Or.inl rfl) rfl rfl h_9 (Nat.le_of_ble_eq_true rfl)) rfl h
theorem bb_11_58 {d : Nat} {M : sm_M} {Q : Option sm_V → sm_M → Prop} {a0 : Nat} {x1 : Int32} {x2 : Int32} {x3 : Int32} {x4 : Int32} {z5 : Option sm_V} {t0 : Option Nat}
    (h : ((t0 = none → sm_K M a0 = 3 ∧ ∃ b_4, sm_R M a0 4 = some b_4 ∧ sm_K M b_4 = 21 ∧ sm_Run d 94 0 (sm_ent 94 [.inr (some b_4)]) [] M (fun v M1 => sm_Run (d + 1) 11 94 [some (.inr (some a0)), some (.inl x1), some (.inl x2), some (.inl x3), some (.inl x4), some (.inr none)] (v.toList ++ []) M1 Q)) ∧ (∀ b_1, t0 = some b_1 → sm_K M a0 = 3 ∧ ∃ b_8, sm_R M a0 4 = some b_8 ∧ sm_K M b_8 = 21 ∧ sm_Run d 101 0 (sm_ent 101 [.inr (some b_8), .inr (sm_R M a0 3), .inr (some b_1)]) [] M (fun v M1 => sm_Run (d + 1) 11 81 [some (.inr (some a0)), some (.inl x1), some (.inl x2), some (.inl x3), some (.inl x4), some (.inr (some b_1))] (v.toList ++ []) M1 Q)))) :
    sm_Run (d + 1) 11 58 [some (.inr (some a0)), some (.inl x1), some (.inl x2), some (.inl x3), some (.inl x4), z5] [.inr t0] M Q := by
  refine ru_go (t := (60, [some (.inr (some a0)), some (.inl x1), some (.inl x2), some (.inl x3), some (.inl x4), some (.inr t0)], [], M)) sm_a11_58 rfl rfl rfl ?_
  refine ru_go (t := (62, [some (.inr (some a0)), some (.inl x1), some (.inl x2), some (.inl x3), some (.inl x4), some (.inr t0)], [.inr t0], M)) sm_a11_60 rfl rfl rfl ?_
  refine ru_ifnonnull (pc := 62) (p := 68) (p2 := 65) sm_a11_62 (by decide) rfl ⟨fun b_1 hc => ?_, fun hc => ?_⟩
  · have h := h.2 b_1 hc
    try rw [hc]
    refine ru_go (t := (69, [some (.inr (some a0)), some (.inl x1), some (.inl x2), some (.inl x3), some (.inl x4), some (.inr (some b_1))], [.inr (some a0)], M)) sm_a11_68 rfl rfl rfl ?_
    obtain ⟨h_7, h⟩ := h
    refine ru_go (t := (72, [some (.inr (some a0)), some (.inl x1), some (.inl x2), some (.inl x3), some (.inl x4), some (.inr (some b_1))], [.inr (sm_R M a0 4)], M)) sm_a11_69 rfl rfl (st_getR h_7 rfl rfl) ?_
    refine ru_go (t := (73, [some (.inr (some a0)), some (.inl x1), some (.inl x2), some (.inl x3), some (.inl x4), some (.inr (some b_1))], [.inr (some a0), .inr (sm_R M a0 4)], M)) sm_a11_72 rfl rfl rfl ?_
    refine ru_go (t := (76, [some (.inr (some a0)), some (.inl x1), some (.inl x2), some (.inl x3), some (.inl x4), some (.inr (some b_1))], [.inr (sm_R M a0 3), .inr (sm_R M a0 4)], M)) sm_a11_73 rfl rfl (st_getR h_7 rfl rfl) ?_
    refine ru_go (t := (78, [some (.inr (some a0)), some (.inl x1), some (.inl x2), some (.inl x3), some (.inl x4), some (.inr (some b_1))], [.inr (some b_1), .inr (sm_R M a0 3), .inr (sm_R M a0 4)], M)) sm_a11_76 rfl rfl rfl ?_
    obtain ⟨b_8, hb_9, h⟩ := h
    rw [hb_9]
    obtain ⟨h_10, h⟩ := h
    exact ru_call (p := 81) sm_a11_78 rfl (sc_virt (Or.inl rfl) rfl rfl h_10 (Nat.le_of_ble_eq_true rfl)) rfl h
  · have h := h.1 hc
    try rw [hc]
    refine ru_go (t := (87, [some (.inr (some a0)), some (.inl x1), some (.inl x2), some (.inl x3), some (.inl x4), some (.inr none)], [], M)) sm_a11_65 rfl rfl (st_goto (pc := 65) (by decide)) ?_
    refine ru_go (t := (88, [some (.inr (some a0)), some (.inl x1), some (.inl x2), some (.inl x3), some (.inl x4), some (.inr none)], [.inr (some a0)], M)) sm_a11_87 rfl rfl rfl ?_
    obtain ⟨h_3, h⟩ := h
    refine ru_go (t := (91, [some (.inr (some a0)), some (.inl x1), some (.inl x2), some (.inl x3), some (.inl x4), some (.inr none)], [.inr (sm_R M a0 4)], M)) sm_a11_88 rfl rfl (st_getR h_3 rfl rfl) ?_
    obtain ⟨b_4, hb_5, h⟩ := h
    rw [hb_5]
    obtain ⟨h_6, h⟩ := h
    exact ru_call (p := 94) sm_a11_91 rfl (sc_virt (Or.inl rfl) rfl rfl h_6 (Nat.le_of_ble_eq_true rfl)) rfl h
theorem bb_11_81 {d : Nat} {M : sm_M} {Q : Option sm_V → sm_M → Prop} {a0 : Nat} {x1 : Int32} {x2 : Int32} {x3 : Int32} {x4 : Int32} {r5 : Option Nat}
    (h : sm_Run (d + 1) 11 46 [some (.inr (some a0)), some (.inl x1), some (.inl x2), some (.inl x3), some (.inl (x4 + (-1))), some (.inr r5)] [] M Q) :
    sm_Run (d + 1) 11 81 [some (.inr (some a0)), some (.inl x1), some (.inl x2), some (.inl x3), some (.inl x4), some (.inr r5)] [] M Q := by
  refine ru_go (t := (84, [some (.inr (some a0)), some (.inl x1), some (.inl x2), some (.inl x3), some (.inl (x4 + (-1))), some (.inr r5)], [], M)) sm_a11_81 rfl rfl (st_iinc rfl (by decide)) ?_
  refine ru_go (t := (46, [some (.inr (some a0)), some (.inl x1), some (.inl x2), some (.inl x3), some (.inl (x4 + (-1))), some (.inr r5)], [], M)) sm_a11_84 rfl rfl (st_goto (pc := 84) (by decide)) ?_
  exact h
theorem bb_11_94 {d : Nat} {M : sm_M} {Q : Option sm_V → sm_M → Prop} {a0 : Nat} {x1 : Int32} {x2 : Int32} {x3 : Int32} {x4 : Int32} {z5 : Option sm_V}
    (h : sm_Run (d + 1) 11 24 [some (.inr (some a0)), some (.inl x1), some (.inl x2), some (.inl (x3 + 1)), some (.inl x4), z5] [] M Q) :
    sm_Run (d + 1) 11 94 [some (.inr (some a0)), some (.inl x1), some (.inl x2), some (.inl x3), some (.inl x4), z5] [] M Q := by
  refine ru_go (t := (97, [some (.inr (some a0)), some (.inl x1), some (.inl x2), some (.inl (x3 + 1)), some (.inl x4), z5], [], M)) sm_a11_94 rfl rfl (st_iinc rfl (by decide)) ?_
  refine ru_go (t := (24, [some (.inr (some a0)), some (.inl x1), some (.inl x2), some (.inl (x3 + 1)), some (.inl x4), z5], [], M)) sm_a11_97 rfl rfl (st_goto (pc := 97) (by decide)) ?_
  exact h

/-! WireBus.put:(III)I -/
theorem sm_a12_0 : sm_at 12 0 = some (.aload_n 0, 1, (0, 0, 0, 0)) := by decide +kernel
theorem sm_a12_1 : sm_at 12 1 = some (.iload_n 1, 1, (0, 0, 0, 0)) := by decide +kernel
theorem sm_a12_2 : sm_at 12 2 = some (.iload_n 2, 1, (0, 0, 0, 0)) := by decide +kernel
theorem sm_a12_3 : sm_at 12 3 = some (.invokevirtual 146, 3, (10, 14, 0, 1117)) := by decide +kernel
theorem sm_a12_6 : sm_at 12 6 = some (.astore 4, 2, (0, 0, 0, 0)) := by decide +kernel
theorem sm_a12_8 : sm_at 12 8 = some (.aload 4, 2, (0, 0, 0, 0)) := by decide +kernel
theorem sm_a12_10 : sm_at 12 10 = some (.ifnull 37, 3, (0, 0, 0, 0)) := by decide +kernel
theorem sm_a12_13 : sm_at 12 13 = some (.iload_n 2, 1, (0, 0, 0, 0)) := by decide +kernel
theorem sm_a12_14 : sm_at 12 14 = some (.sipush 128, 3, (0, 0, 0, 0)) := by decide +kernel
theorem sm_a12_17 : sm_at 12 17 = some (.if_icmp .lt 30, 3, (0, 0, 0, 0)) := by decide +kernel
theorem sm_a12_20 : sm_at 12 20 = some (.iload_n 3, 1, (0, 0, 0, 0)) := by decide +kernel
theorem sm_a12_21 : sm_at 12 21 = some (.ifCond .lt 26, 3, (0, 0, 0, 0)) := by decide +kernel
theorem sm_a12_24 : sm_at 12 24 = some (.iload_n 3, 1, (0, 0, 0, 0)) := by decide +kernel
theorem sm_a12_25 : sm_at 12 25 = some (.aload_n 0, 1, (0, 0, 0, 0)) := by decide +kernel
theorem sm_a12_26 : sm_at 12 26 = some (.getfield 18, 3, (0, 2, 0, 463)) := by decide +kernel
theorem sm_a12_29 : sm_at 12 29 = some (.getfield 60, 3, (1, 2, 1, 117)) := by decide +kernel
theorem sm_a12_32 : sm_at 12 32 = some (.if_icmp .gt 15, 3, (0, 0, 0, 0)) := by decide +kernel
theorem sm_a12_35 : sm_at 12 35 = some (.iload_n 3, 1, (0, 0, 0, 0)) := by decide +kernel
theorem sm_a12_36 : sm_at 12 36 = some (.aload 4, 2, (0, 0, 0, 0)) := by decide +kernel
theorem sm_a12_38 : sm_at 12 38 = some (.getfield 150, 3, (5, 6, 1, 552)) := by decide +kernel
theorem sm_a12_41 : sm_at 12 41 = some (.invokevirtual 53, 3, (10, 30, 1, 489)) := by decide +kernel
theorem sm_a12_44 : sm_at 12 44 = some (.if_icmp .le 5, 3, (0, 0, 0, 0)) := by decide +kernel
theorem sm_a12_47 : sm_at 12 47 = some (.iconst (-1), 1, (0, 0, 0, 0)) := by decide +kernel
theorem sm_a12_48 : sm_at 12 48 = some (.ireturn, 1, (0, 0, 0, 0)) := by decide +kernel
theorem sm_a12_49 : sm_at 12 49 = some (.iconst 0, 1, (0, 0, 0, 0)) := by decide +kernel
theorem sm_a12_50 : sm_at 12 50 = some (.istore 5, 2, (0, 0, 0, 0)) := by decide +kernel
theorem sm_a12_52 : sm_at 12 52 = some (.iload 5, 2, (0, 0, 0, 0)) := by decide +kernel
theorem sm_a12_54 : sm_at 12 54 = some (.iload_n 3, 1, (0, 0, 0, 0)) := by decide +kernel
theorem sm_a12_55 : sm_at 12 55 = some (.if_icmp .ge 24, 3, (0, 0, 0, 0)) := by decide +kernel
theorem sm_a12_58 : sm_at 12 58 = some (.aload 4, 2, (0, 0, 0, 0)) := by decide +kernel
theorem sm_a12_60 : sm_at 12 60 = some (.getfield 150, 3, (5, 6, 1, 552)) := by decide +kernel
theorem sm_a12_63 : sm_at 12 63 = some (.aload_n 0, 1, (0, 0, 0, 0)) := by decide +kernel
theorem sm_a12_64 : sm_at 12 64 = some (.getfield 18, 3, (0, 2, 0, 463)) := by decide +kernel
theorem sm_a12_67 : sm_at 12 67 = some (.invokevirtual 155, 3, (10, 35, 1, 1122)) := by decide +kernel
theorem sm_a12_70 : sm_at 12 70 = some (.invokevirtual 57, 3, (10, 33, 1, 493)) := by decide +kernel
theorem sm_a12_73 : sm_at 12 73 = some (.iinc 5 1, 3, (0, 0, 0, 0)) := by decide +kernel
theorem sm_a12_76 : sm_at 12 76 = some (.goto (-24), 3, (0, 0, 0, 0)) := by decide +kernel
theorem sm_a12_79 : sm_at 12 79 = some (.aload 4, 2, (0, 0, 0, 0)) := by decide +kernel
theorem sm_a12_81 : sm_at 12 81 = some (.getfield 150, 3, (5, 6, 1, 552)) := by decide +kernel
theorem sm_a12_84 : sm_at 12 84 = some (.getfield 60, 3, (1, 2, 1, 117)) := by decide +kernel
theorem sm_a12_87 : sm_at 12 87 = some (.ireturn, 1, (0, 0, 0, 0)) := by decide +kernel
theorem bb_12_0 {d : Nat} {M : sm_M} {Q : Option sm_V → sm_M → Prop} {a0 : Nat} {x1 : Int32} {x2 : Int32} {x3 : Int32} {z4 : Option sm_V} {z5 : Option sm_V}
    (h : sm_K M a0 = 3 ∧ sm_Run d 14 0 (sm_ent 14 [.inr (some a0), .inl x1, .inl x2]) [] M (fun v M1 => sm_Run (d + 1) 12 6 [some (.inr (some a0)), some (.inl x1), some (.inl x2), some (.inl x3), z4, z5] (v.toList ++ []) M1 Q)) :
    sm_Run (d + 1) 12 0 [some (.inr (some a0)), some (.inl x1), some (.inl x2), some (.inl x3), z4, z5] [] M Q := by
  refine ru_go (t := (1, [some (.inr (some a0)), some (.inl x1), some (.inl x2), some (.inl x3), z4, z5], [.inr (some a0)], M)) sm_a12_0 rfl rfl rfl ?_
  refine ru_go (t := (2, [some (.inr (some a0)), some (.inl x1), some (.inl x2), some (.inl x3), z4, z5], [.inl x1, .inr (some a0)], M)) sm_a12_1 rfl rfl rfl ?_
  refine ru_go (t := (3, [some (.inr (some a0)), some (.inl x1), some (.inl x2), some (.inl x3), z4, z5], [.inl x2, .inl x1, .inr (some a0)], M)) sm_a12_2 rfl rfl rfl ?_
  obtain ⟨h_1, h⟩ := h
  exact ru_call (p := 6) sm_a12_3 rfl (sc_virt (Or.inl rfl) rfl rfl h_1 (Nat.le_of_ble_eq_true rfl)) rfl h
theorem bb_12_6 {d : Nat} {M : sm_M} {Q : Option sm_V → sm_M → Prop} {a0 : Nat} {x1 : Int32} {x2 : Int32} {x3 : Int32} {z4 : Option sm_V} {z5 : Option sm_V} {t0 : Option Nat}
    (h : ((t0 = none → Q (some (.inl (-1))) M) ∧ (∀ b_1, t0 = some b_1 → ((x2 < 128 → Q (some (.inl (-1))) M) ∧ (¬ (x2 < 128) → ((x3 < 0 → Q (some (.inl (-1))) M) ∧ (¬ (x3 < 0) → sm_K M a0 = 3 ∧ ∃ b_6, sm_R M a0 2 = some b_6 ∧ sm_K M b_6 = 6 ∧ (((sm_I M b_6 2) < x3 → Q (some (.inl (-1))) M) ∧ (¬ ((sm_I M b_6 2) < x3) → sm_K M b_1 = 18 ∧ ∃ b_11, sm_R M b_1 6 = some b_11 ∧ sm_K M b_11 = 6 ∧ sm_Run d 30 0 (sm_ent 30 [.inr (some b_11)]) [] M (fun v M1 => sm_Run (d + 1) 12 44 [some (.inr (some a0)), some (.inl x1), some (.inl x2), some (.inl x3), some (.inr (some b_1)), z5] (v.toList ++ [.inl x3]) M1 Q)))))))))) :
    sm_Run (d + 1) 12 6 [some (.inr (some a0)), some (.inl x1), some (.inl x2), some (.inl x3), z4, z5] [.inr t0] M Q := by
  refine ru_go (t := (8, [some (.inr (some a0)), some (.inl x1), some (.inl x2), some (.inl x3), some (.inr t0), z5], [], M)) sm_a12_6 rfl rfl rfl ?_
  refine ru_go (t := (10, [some (.inr (some a0)), some (.inl x1), some (.inl x2), some (.inl x3), some (.inr t0), z5], [.inr t0], M)) sm_a12_8 rfl rfl rfl ?_
  refine ru_ifnull (pc := 10) (p := 47) (p2 := 13) sm_a12_10 (by decide) rfl ⟨fun hc => ?_, fun b_1 hc => ?_⟩
  · have h := h.1 hc
    try rw [hc]
    refine ru_go (t := (48, [some (.inr (some a0)), some (.inl x1), some (.inl x2), some (.inl x3), some (.inr none), z5], [.inl (-1)], M)) sm_a12_47 rfl rfl (st_iconst (by decide)) ?_
    exact ru_ret sm_a12_48 rfl h
  · have h := h.2 b_1 hc
    try rw [hc]
    refine ru_go (t := (14, [some (.inr (some a0)), some (.inl x1), some (.inl x2), some (.inl x3), some (.inr (some b_1)), z5], [.inl x2], M)) sm_a12_13 rfl rfl rfl ?_
    refine ru_go (t := (17, [some (.inr (some a0)), some (.inl x1), some (.inl x2), some (.inl x3), some (.inr (some b_1)), z5], [.inl 128, .inl x2], M)) sm_a12_14 rfl rfl (st_sipush (by decide)) ?_
    refine ru_icmp (pc := 17) (p := 47) (p2 := 20) sm_a12_17 (by decide) rfl ⟨fun hc_3 => ?_, fun hc_3 => ?_⟩
    · have h := h.1 hc_3
      refine ru_go (t := (48, [some (.inr (some a0)), some (.inl x1), some (.inl x2), some (.inl x3), some (.inr (some b_1)), z5], [.inl (-1)], M)) sm_a12_47 rfl rfl (st_iconst (by decide)) ?_
      exact ru_ret sm_a12_48 rfl h
    · have h := h.2 hc_3
      refine ru_go (t := (21, [some (.inr (some a0)), some (.inl x1), some (.inl x2), some (.inl x3), some (.inr (some b_1)), z5], [.inl x3], M)) sm_a12_20 rfl rfl rfl ?_
      refine ru_if (pc := 21) (p := 47) (p2 := 24) sm_a12_21 (by decide) rfl ⟨fun hc_4 => ?_, fun hc_4 => ?_⟩
      · have h := h.1 hc_4
        refine ru_go (t := (48, [some (.inr (some a0)), some (.inl x1), some (.inl x2), some (.inl x3), some (.inr (some b_1)), z5], [.inl (-1)], M)) sm_a12_47 rfl rfl (st_iconst (by decide)) ?_
        exact ru_ret sm_a12_48 rfl h
      · have h := h.2 hc_4
        refine ru_go (t := (25, [some (.inr (some a0)), some (.inl x1), some (.inl x2), some (.inl x3), some (.inr (some b_1)), z5], [.inl x3], M)) sm_a12_24 rfl rfl rfl ?_
        refine ru_go (t := (26, [some (.inr (some a0)), some (.inl x1), some (.inl x2), some (.inl x3), some (.inr (some b_1)), z5], [.inr (some a0), .inl x3], M)) sm_a12_25 rfl rfl rfl ?_
        obtain ⟨h_5, h⟩ := h
        refine ru_go (t := (29, [some (.inr (some a0)), some (.inl x1), some (.inl x2), some (.inl x3), some (.inr (some b_1)), z5], [.inr (sm_R M a0 2), .inl x3], M)) sm_a12_26 rfl rfl (st_getR h_5 rfl rfl) ?_
        obtain ⟨b_6, hb_7, h⟩ := h
        rw [hb_7]
        obtain ⟨h_8, h⟩ := h
        refine ru_go (t := (32, [some (.inr (some a0)), some (.inl x1), some (.inl x2), some (.inl x3), some (.inr (some b_1)), z5], [.inl (sm_I M b_6 2), .inl x3], M)) sm_a12_29 rfl rfl (st_getI h_8 rfl) ?_
        refine ru_icmp (pc := 32) (p := 47) (p2 := 35) sm_a12_32 (by decide) rfl ⟨fun hc_9 => ?_, fun hc_9 => ?_⟩
        · have h := h.1 hc_9
          refine ru_go (t := (48, [some (.inr (some a0)), some (.inl x1), some (.inl x2), some (.inl x3), some (.inr (some b_1)), z5], [.inl (-1)], M)) sm_a12_47 rfl rfl (st_iconst (by decide)) ?_
          exact ru_ret sm_a12_48 rfl h
        · have h := h.2 hc_9
          refine ru_go (t := (36, [some (.inr (some a0)), some (.inl x1), some (.inl x2), some (.inl x3), some (.inr (some b_1)), z5], [.inl x3], M)) sm_a12_35 rfl rfl rfl ?_
          refine ru_go (t := (38, [some (.inr (some a0)), some (.inl x1), some (.inl x2), some (.inl x3), some (.inr (some b_1)), z5], [.inr (some b_1), .inl x3], M)) sm_a12_36 rfl rfl rfl ?_
          obtain ⟨h_10, h⟩ := h
          refine ru_go (t := (41, [some (.inr (some a0)), some (.inl x1), some (.inl x2), some (.inl x3), some (.inr (some b_1)), z5], [.inr (sm_R M b_1 6), .inl x3], M)) sm_a12_38 rfl rfl (st_getR h_10 rfl rfl) ?_
          obtain ⟨b_11, hb_12, h⟩ := h
          rw [hb_12]
          obtain ⟨h_13, h⟩ := h
          exact ru_call (p := 44) sm_a12_41 rfl (sc_virt (Or.inl rfl) rfl rfl h_13 (Nat.le_of_ble_eq_true rfl)) rfl h
theorem bb_12_44 {d : Nat} {M : sm_M} {Q : Option sm_V → sm_M → Prop} {a0 : Nat} {x1 : Int32} {x2 : Int32} {x3 : Int32} {r4 : Option Nat} {z5 : Option sm_V} {y0 : Int32} {y1 : Int32}
    (h : ((y1 ≤ y0 → sm_Run (d + 1) 12 52 [some (.inr (some a0)), some (.inl x1), some (.inl x2), some (.inl x3), some (.inr r4), some (.inl 0)] [] M Q) ∧ (¬ (y1 ≤ y0) → Q (some (.inl (-1))) M))) :
    sm_Run (d + 1) 12 44 [some (.inr (some a0)), some (.inl x1), some (.inl x2), some (.inl x3), some (.inr r4), z5] [.inl y0, .inl y1] M Q := by
  refine ru_icmp (pc := 44) (p := 49) (p2 := 47) sm_a12_44 (by decide) rfl ⟨fun hc_1 => ?_, fun hc_1 => ?_⟩
  · have h := h.1 hc_1
    refine ru_go (t := (50, [some (.inr (some a0)), some (.inl x1), some (.inl x2), some (.inl x3), some (.inr r4), z5], [.inl 0], M)) sm_a12_49 rfl rfl (st_iconst (by decide)) ?_
    refine ru_go (t := (52, [some (.inr (some a0)), some (.inl x1), some (.inl x2), some (.inl x3), some (.inr r4), some (.inl 0)], [], M)) sm_a12_50 rfl rfl rfl ?_
    exact h
  · have h := h.2 hc_1
    refine ru_go (t := (48, [some (.inr (some a0)), some (.inl x1), some (.inl x2), some (.inl x3), some (.inr r4), z5], [.inl (-1)], M)) sm_a12_47 rfl rfl (st_iconst (by decide)) ?_
    exact ru_ret sm_a12_48 rfl h
theorem bb_12_52 {d : Nat} {M : sm_M} {Q : Option sm_V → sm_M → Prop} {a0 : Nat} {x1 : Int32} {x2 : Int32} {x3 : Int32} {r4 : Option Nat} {x5 : Int32}
    (h : ((x3 ≤ x5 → ∃ b_2, r4 = some b_2 ∧ sm_K M b_2 = 18 ∧ ∃ b_5, sm_R M b_2 6 = some b_5 ∧ sm_K M b_5 = 6 ∧ Q (some (.inl (sm_I M b_5 2))) M) ∧ (¬ (x3 ≤ x5) → ∃ b_8, r4 = some b_8 ∧ sm_K M b_8 = 18 ∧ sm_K M a0 = 3 ∧ ∃ b_12, sm_R M a0 2 = some b_12 ∧ sm_K M b_12 = 6 ∧ sm_Run d 35 0 (sm_ent 35 [.inr (some b_12)]) [] M (fun v M1 => sm_Run (d + 1) 12 70 [some (.inr (some a0)), some (.inl x1), some (.inl x2), some (.inl x3), some (.inr (some b_8)), some (.inl x5)] (v.toList ++ [.inr (sm_R M b_8 6)]) M1 Q)))) :
    sm_Run (d + 1) 12 52 [some (.inr (some a0)), some (.inl x1), some (.inl x2), some (.inl x3), some (.inr r4), some (.inl x5)] [] M Q := by
  refine ru_go (t := (54, [some (.inr (some a0)), some (.inl x1), some (.inl x2), some (.inl x3), some (.inr r4), some (.inl x5)], [.inl x5], M)) sm_a12_52 rfl rfl rfl ?_
  refine ru_go (t := (55, [some (.inr (some a0)), some (.inl x1), some (.inl x2), some (.inl x3), some (.inr r4), some (.inl x5)], [.inl x3, .inl x5], M)) sm_a12_54 rfl rfl rfl ?_
  refine ru_icmp (pc := 55) (p := 79) (p2 := 58) sm_a12_55 (by decide) rfl ⟨fun hc_1 => ?_, fun hc_1 => ?_⟩
  · have h := h.1 hc_1
    refine ru_go (t := (81, [some (.inr (some a0)), some (.inl x1), some (.inl x2), some (.inl x3), some (.inr r4), some (.inl x5)], [.inr r4], M)) sm_a12_79 rfl rfl rfl ?_
    obtain ⟨b_2, hb_3, h⟩ := h
    rw [hb_3]
    obtain ⟨h_4, h⟩ := h
    refine ru_go (t := (84, [some (.inr (some a0)), some (.inl x1), some (.inl x2), some (.inl x3), some (.inr (some b_2)), some (.inl x5)], [.inr (sm_R M b_2 6)], M)) sm_a12_81 rfl rfl (st_getR h_4 rfl rfl) ?_
    obtain ⟨b_5, hb_6, h⟩ := h
    rw [hb_6]
    obtain ⟨h_7, h⟩ := h
    refine ru_go (t := (87, [some (.inr (some a0)), some (.inl x1), some (.inl x2), some (.inl x3), some (.inr (some b_2)), some (.inl x5)], [.inl (sm_I M b_5 2)], M)) sm_a12_84 rfl rfl (st_getI h_7 rfl) ?_
    exact ru_ret sm_a12_87 rfl h
  · have h := h.2 hc_1
    refine ru_go (t := (60, [some (.inr (some a0)), some (.inl x1), some (.inl x2), some (.inl x3), some (.inr r4), some (.inl x5)], [.inr r4], M)) sm_a12_58 rfl rfl rfl ?_
    obtain ⟨b_8, hb_9, h⟩ := h
    rw [hb_9]
    obtain ⟨h_10, h⟩ := h
    refine ru_go (t := (63, [some (.inr (some a0)), some (.inl x1), some (.inl x2), some (.inl x3), some (.inr (some b_8)), some (.inl x5)], [.inr (sm_R M b_8 6)], M)) sm_a12_60 rfl rfl (st_getR h_10 rfl rfl) ?_
    refine ru_go (t := (64, [some (.inr (some a0)), some (.inl x1), some (.inl x2), some (.inl x3), some (.inr (some b_8)), some (.inl x5)], [.inr (some a0), .inr (sm_R M b_8 6)], M)) sm_a12_63 rfl rfl rfl ?_
    obtain ⟨h_11, h⟩ := h
    refine ru_go (t := (67, [some (.inr (some a0)), some (.inl x1), some (.inl x2), some (.inl x3), some (.inr (some b_8)), some (.inl x5)], [.inr (sm_R M a0 2), .inr (sm_R M b_8 6)], M)) sm_a12_64 rfl rfl (st_getR h_11 rfl rfl) ?_
    obtain ⟨b_12, hb_13, h⟩ := h
    rw [hb_13]
    obtain ⟨h_14, h⟩ := h
    exact ru_call (p := 70) sm_a12_67 rfl (sc_virt (Or.inl rfl) rfl rfl h_14 (Nat.le_of_ble_eq_true rfl)) rfl h
theorem bb_12_70 {d : Nat} {M : sm_M} {Q : Option sm_V → sm_M → Prop} {a0 : Nat} {x1 : Int32} {x2 : Int32} {x3 : Int32} {r4 : Option Nat} {x5 : Int32} {y0 : Int32} {t1 : Option Nat}
    (h : ∃ b_1, t1 = some b_1 ∧ sm_K M b_1 = 6 ∧ sm_Run d 33 0 (sm_ent 33 [.inr (some b_1), .inl y0]) [] M (fun v M1 => sm_Run (d + 1) 12 73 [some (.inr (some a0)), some (.inl x1), some (.inl x2), some (.inl x3), some (.inr r4), some (.inl x5)] (v.toList ++ []) M1 Q)) :
    sm_Run (d + 1) 12 70 [some (.inr (some a0)), some (.inl x1), some (.inl x2), some (.inl x3), some (.inr r4), some (.inl x5)] [.inl y0, .inr t1] M Q := by
  obtain ⟨b_1, hb_2, h⟩ := h
  rw [hb_2]
  obtain ⟨h_3, h⟩ := h
  exact ru_call (p := 73) sm_a12_70 rfl (sc_virt (Or.inl rfl) rfl rfl h_3 (Nat.le_of_ble_eq_true rfl)) rfl h
theorem bb_12_73 {d : Nat} {M : sm_M} {Q : Option sm_V → sm_M → Prop} {a0 : Nat} {x1 : Int32} {x2 : Int32} {x3 : Int32} {r4 : Option Nat} {x5 : Int32}
    (h : sm_Run (d + 1) 12 52 [some (.inr (some a0)), some (.inl x1), some (.inl x2), some (.inl x3), some (.inr r4), some (.inl (x5 + 1))] [] M Q) :
    sm_Run (d + 1) 12 73 [some (.inr (some a0)), some (.inl x1), some (.inl x2), some (.inl x3), some (.inr r4), some (.inl x5)] [] M Q := by
  refine ru_go (t := (76, [some (.inr (some a0)), some (.inl x1), some (.inl x2), some (.inl x3), some (.inr r4), some (.inl (x5 + 1))], [], M)) sm_a12_73 rfl rfl (st_iinc rfl (by decide)) ?_
  refine ru_go (t := (52, [some (.inr (some a0)), some (.inl x1), some (.inl x2), some (.inl x3), some (.inr r4), some (.inl (x5 + 1))], [], M)) sm_a12_76 rfl rfl (st_goto (pc := 76) (by decide)) ?_
  exact h

/-! WireBus.take:(II)I -/
theorem sm_a13_0 : sm_at 13 0 = some (.aload_n 0, 1, (0, 0, 0, 0)) := by decide +kernel
theorem sm_a13_1 : sm_at 13 1 = some (.iload_n 1, 1, (0, 0, 0, 0)) := by decide +kernel
theorem sm_a13_2 : sm_at 13 2 = some (.iload_n 2, 1, (0, 0, 0, 0)) := by decide +kernel
theorem sm_a13_3 : sm_at 13 3 = some (.invokevirtual 146, 3, (10, 14, 0, 1117)) := by decide +kernel
theorem sm_a13_6 : sm_at 13 6 = some (.astore_n 3, 1, (0, 0, 0, 0)) := by decide +kernel
theorem sm_a13_7 : sm_at 13 7 = some (.aload_n 3, 1, (0, 0, 0, 0)) := by decide +kernel
theorem sm_a13_8 : sm_at 13 8 = some (.ifnull 10, 3, (0, 0, 0, 0)) := by decide +kernel
theorem sm_a13_11 : sm_at 13 11 = some (.iload_n 2, 1, (0, 0, 0, 0)) := by decide +kernel
theorem sm_a13_12 : sm_at 13 12 = some (.sipush 128, 3, (0, 0, 0, 0)) := by decide +kernel
theorem sm_a13_15 : sm_at 13 15 = some (.if_icmp .lt 7, 3, (0, 0, 0, 0)) := by decide +kernel
theorem sm_a13_18 : sm_at 13 18 = some (.iconst (-1), 1, (0, 0, 0, 0)) := by decide +kernel
theorem sm_a13_19 : sm_at 13 19 = some (.goto 10, 3, (0, 0, 0, 0)) := by decide +kernel
theorem sm_a13_22 : sm_at 13 22 = some (.aload_n 3, 1, (0, 0, 0, 0)) := by decide +kernel
theorem sm_a13_23 : sm_at 13 23 = some (.getfield 150, 3, (5, 6, 1, 552)) := by decide +kernel
theorem sm_a13_26 : sm_at 13 26 = some (.invokevirtual 155, 3, (10, 35, 1, 1122)) := by decide +kernel
theorem sm_a13_29 : sm_at 13 29 = some (.ireturn, 1, (0, 0, 0, 0)) := by decide +kernel
theorem bb_13_0 {d : Nat} {M : sm_M} {Q : Option sm_V → sm_M → Prop} {a0 : Nat} {x1 : Int32} {x2 : Int32} {z3 : Option sm_V}
    (h : sm_K M a0 = 3 ∧ sm_Run d 14 0 (sm_ent 14 [.inr (some a0), .inl x1, .inl x2]) [] M (fun v M1 => sm_Run (d + 1) 13 6 [some (.inr (some a0)), some (.inl x1), some (.inl x2), z3] (v.toList ++ []) M1 Q)) :
    sm_Run (d + 1) 13 0 [some (.inr (some a0)), some (.inl x1), some (.inl x2), z3] [] M Q := by
  refine ru_go (t := (1, [some (.inr (some a0)), some (.inl x1), some (.inl x2), z3], [.inr (some a0)], M)) sm_a13_0 rfl rfl rfl ?_
  refine ru_go (t := (2, [some (.inr (some a0)), some (.inl x1), some (.inl x2), z3], [.inl x1, .inr (some a0)], M)) sm_a13_1 rfl rfl rfl ?_
  refine ru_go (t := (3, [some (.inr (some a0)), some (.inl x1), some (.inl x2), z3], [.inl x2, .inl x1, .inr (some a0)], M)) sm_a13_2 rfl rfl rfl ?_
  obtain ⟨h_1, h⟩ := h
  exact ru_call (p := 6) sm_a13_3 rfl (sc_virt (Or.inl rfl) rfl rfl h_1 (Nat.le_of_ble_eq_true rfl)) rfl h
theorem bb_13_6 {d : Nat} {M : sm_M} {Q : Option sm_V → sm_M → Prop} {a0 : Nat} {x1 : Int32} {x2 : Int32} {z3 : Option sm_V} {t0 : Option Nat}
    (h : ((t0 = none → Q (some (.inl (-1))) M) ∧ (∀ b_1, t0 = some b_1 → ((x2 < 128 → sm_K M b_1 = 18 ∧ ∃ b_5, sm_R M b_1 6 = some b_5 ∧ sm_K M b_5 = 6 ∧ sm_Run d 35 0 (sm_ent 35 [.inr (some b_5)]) [] M (fun v M1 => sm_Run (d + 1) 13 29 [some (.inr (some a0)), some (.inl x1), some (.inl x2), some (.inr (some b_1))] (v.toList ++ []) M1 Q)) ∧ (¬ (x2 < 128) → Q (some (.inl (-1))) M))))) :
    sm_Run (d + 1) 13 6 [some (.inr (some a0)), some (.inl x1), some (.inl x2), z3] [.inr t0] M Q := by
  refine ru_go (t := (7, [some (.inr (some a0)), some (.inl x1), some (.inl x2), some (.inr t0)], [], M)) sm_a13_6 rfl rfl rfl ?_
  refine ru_go (t := (8, [some (.inr (some a0)), some (.inl x1), some (.inl x2), some (.inr t0)], [.inr t0], M)) sm_a13_7 rfl rfl rfl ?_
  refine ru_ifnull (pc := 8) (p := 18) (p2 := 11) sm_a13_8 (by decide) rfl ⟨fun hc => ?_, fun b_1 hc => ?_⟩
  · have h := h.1 hc
    try rw [hc]
    refine ru_go (t := (19, [some (.inr (some a0)), some (.inl x1), some (.inl x2), some (.inr none)], [.inl (-1)], M)) sm_a13_18 rfl rfl (st_iconst (by decide)) ?_
    refine ru_go (t := (29, [some (.inr (some a0)), some (.inl x1), some (.inl x2), some (.inr none)], [.inl (-1)], M)) sm_a13_19 rfl rfl (st_goto (pc := 19) (by decide)) ?_
    exact ru_ret sm_a13_29 rfl h
  · have h := h.2 b_1 hc
    try rw [hc]
    refine ru_go (t := (12, [some (.inr (some a0)), some (.inl x1), some (.inl x2), some (.inr (some b_1))], [.inl x2], M)) sm_a13_11 rfl rfl rfl ?_
    refine ru_go (t := (15, [some (.inr (some a0)), some (.inl x1), some (.inl x2), some (.inr (some b_1))], [.inl 128, .inl x2], M)) sm_a13_12 rfl rfl (st_sipush (by decide)) ?_
    refine ru_icmp (pc := 15) (p := 22) (p2 := 18) sm_a13_15 (by decide) rfl ⟨fun hc_3 => ?_, fun hc_3 => ?_⟩
    · have h := h.1 hc_3
      refine ru_go (t := (23, [some (.inr (some a0)), some (.inl x1), some (.inl x2), some (.inr (some b_1))], [.inr (some b_1)], M)) sm_a13_22 rfl rfl rfl ?_
      obtain ⟨h_4, h⟩ := h
      refine ru_go (t := (26, [some (.inr (some a0)), some (.inl x1), some (.inl x2), some (.inr (some b_1))], [.inr (sm_R M b_1 6)], M)) sm_a13_23 rfl rfl (st_getR h_4 rfl rfl) ?_
      obtain ⟨b_5, hb_6, h⟩ := h
      rw [hb_6]
      obtain ⟨h_7, h⟩ := h
      exact ru_call (p := 29) sm_a13_26 rfl (sc_virt (Or.inl rfl) rfl rfl h_7 (Nat.le_of_ble_eq_true rfl)) rfl h
    · have h := h.2 hc_3
      refine ru_go (t := (19, [some (.inr (some a0)), some (.inl x1), some (.inl x2), some (.inr (some b_1))], [.inl (-1)], M)) sm_a13_18 rfl rfl (st_iconst (by decide)) ?_
      refine ru_go (t := (29, [some (.inr (some a0)), some (.inl x1), some (.inl x2), some (.inr (some b_1))], [.inl (-1)], M)) sm_a13_19 rfl rfl (st_goto (pc := 19) (by decide)) ?_
      exact ru_ret sm_a13_29 rfl h
theorem bb_13_29 {d : Nat} {M : sm_M} {Q : Option sm_V → sm_M → Prop} {a0 : Nat} {x1 : Int32} {x2 : Int32} {r3 : Option Nat} {y0 : Int32}
    (h : Q (some (.inl y0)) M) :
    sm_Run (d + 1) 13 29 [some (.inr (some a0)), some (.inl x1), some (.inl x2), some (.inr r3)] [.inl y0] M Q := by
  exact ru_ret sm_a13_29 rfl h

/-! WireBus.presentEndpoint:(II)LWireBus$Endpoint; -/
theorem sm_a14_0 : sm_at 14 0 = some (.iload_n 1, 1, (0, 0, 0, 0)) := by decide +kernel
theorem sm_a14_1 : sm_at 14 1 = some (.invokestatic 63, 3, (12, 21, 0, 505)) := by decide +kernel
theorem sm_a14_4 : sm_at 14 4 = some (.ifCond .eq 18, 3, (0, 0, 0, 0)) := by decide +kernel
theorem sm_a14_7 : sm_at 14 7 = some (.aload_n 0, 1, (0, 0, 0, 0)) := by decide +kernel
theorem sm_a14_8 : sm_at 14 8 = some (.getfield 25, 3, (0, 3, 0, 464)) := by decide +kernel
theorem sm_a14_11 : sm_at 14 11 = some (.getfield 67, 3, (11, 3, 1, 310)) := by decide +kernel
theorem sm_a14_14 : sm_at 14 14 = some (.iload_n 1, 1, (0, 0, 0, 0)) := by decide +kernel
theorem sm_a14_15 : sm_at 14 15 = some (.aaload, 1, (0, 0, 0, 0)) := by decide +kernel
theorem sm_a14_16 : sm_at 14 16 = some (.getfield 71, 3, (4, 3, 1, 261)) := by decide +kernel
theorem sm_a14_19 : sm_at 14 19 = some (.ifCond .ne 5, 3, (0, 0, 0, 0)) := by decide +kernel
theorem sm_a14_22 : sm_at 14 22 = some (.aconst_null, 1, (0, 0, 0, 0)) := by decide +kernel
theorem sm_a14_23 : sm_at 14 23 = some (.areturn, 1, (0, 0, 0, 0)) := by decide +kernel
theorem sm_a14_24 : sm_at 14 24 = some (.aload_n 0, 1, (0, 0, 0, 0)) := by decide +kernel
theorem sm_a14_25 : sm_at 14 25 = some (.getfield 25, 3, (0, 3, 0, 464)) := by decide +kernel
theorem sm_a14_28 : sm_at 14 28 = some (.getfield 67, 3, (11, 3, 1, 310)) := by decide +kernel
theorem sm_a14_31 : sm_at 14 31 = some (.iload_n 1, 1, (0, 0, 0, 0)) := by decide +kernel
theorem sm_a14_32 : sm_at 14 32 = some (.aaload, 1, (0, 0, 0, 0)) := by decide +kernel
theorem sm_a14_33 : sm_at 14 33 = some (.iload_n 2, 1, (0, 0, 0, 0)) := by decide +kernel
theorem sm_a14_34 : sm_at 14 34 = some (.invokevirtual 158, 3, (10, 62, 4, 1121)) := by decide +kernel
theorem sm_a14_37 : sm_at 14 37 = some (.areturn, 1, (0, 0, 0, 0)) := by decide +kernel
theorem bb_14_0 {d : Nat} {M : sm_M} {Q : Option sm_V → sm_M → Prop} {a0 : Nat} {x1 : Int32} {x2 : Int32}
    (h : sm_Run d 21 0 (sm_ent 21 [.inl x1]) [] M (fun v M1 => sm_Run (d + 1) 14 4 [some (.inr (some a0)), some (.inl x1), some (.inl x2)] (v.toList ++ []) M1 Q)) :
    sm_Run (d + 1) 14 0 [some (.inr (some a0)), some (.inl x1), some (.inl x2)] [] M Q := by
  refine ru_go (t := (1, [some (.inr (some a0)), some (.inl x1), some (.inl x2)], [.inl x1], M)) sm_a14_0 rfl rfl rfl ?_
  exact ru_call (p := 4) sm_a14_1 rfl (sc_stat (Or.inl rfl) (Nat.le_of_ble_eq_true rfl) rfl rfl (Nat.le_of_ble_eq_true rfl)) rfl h
theorem bb_14_4 {d : Nat} {M : sm_M} {Q : Option sm_V → sm_M → Prop} {a0 : Nat} {x1 : Int32} {x2 : Int32} {y0 : Int32}
    (h : ((y0 = 0 → Q (some (.inr none)) M) ∧ (¬ (y0 = 0) → sm_K M a0 = 3 ∧ ∃ b_3, sm_R M a0 3 = some b_3 ∧ sm_K M b_3 = 36 ∧ ∃ b_6, sm_R M b_3 3 = some b_6 ∧ (∃ ci, sm_K M b_6 = 4 + 3 * ci) ∧ sm_in_ M b_6 x1 ∧ ∃ b_10, sm_R M b_6 (x1).toNatClampNeg = some b_10 ∧ sm_K M b_10 = 15 ∧ ((¬ (sm_I M b_10 3) = 0 → ∃ b_14, sm_R M a0 3 = some b_14 ∧ sm_K M b_14 = 36 ∧ ∃ b_17, sm_R M b_14 3 = some b_17 ∧ (∃ ci, sm_K M b_17 = 4 + 3 * ci) ∧ sm_in_ M b_17 x1 ∧ ∃ b_21, sm_R M b_17 (x1).toNatClampNeg = some b_21 ∧ sm_K M b_21 = 15 ∧ sm_Run d 62 0 (sm_ent 62 [.inr (some b_21), .inl x2]) [] M (fun v M1 => sm_Run (d + 1) 14 37 [some (.inr (some a0)), some (.inl x1), some (.inl x2)] (v.toList ++ []) M1 Q)) ∧ (¬ (¬ (sm_I M b_10 3) = 0) → Q (some (.inr none)) M))))) :
    sm_Run (d + 1) 14 4 [some (.inr (some a0)), some (.inl x1), some (.inl x2)] [.inl y0] M Q := by
  refine ru_if (pc := 4) (p := 22) (p2 := 7) sm_a14_4 (by decide) rfl ⟨fun hc_1 => ?_, fun hc_1 => ?_⟩
  · have h := h.1 hc_1
    refine ru_go (t := (23, [some (.inr (some a0)), some (.inl x1), some (.inl x2)], [.inr none], M)) sm_a14_22 rfl rfl rfl ?_
    exact ru_ret sm_a14_23 rfl h
  · have h := h.2 hc_1
    refine ru_go (t := (8, [some (.inr (some a0)), some (.inl x1), some (.inl x2)], [.inr (some a0)], M)) sm_a14_7 rfl rfl rfl ?_
    obtain ⟨h_2, h⟩ := h
    refine ru_go (t := (11, [some (.inr (some a0)), some (.inl x1), some (.inl x2)], [.inr (sm_R M a0 3)], M)) sm_a14_8 rfl rfl (st_getR h_2 rfl rfl) ?_
    obtain ⟨b_3, hb_4, h⟩ := h
    rw [hb_4]
    obtain ⟨h_5, h⟩ := h
    refine ru_go (t := (14, [some (.inr (some a0)), some (.inl x1), some (.inl x2)], [.inr (sm_R M b_3 3)], M)) sm_a14_11 rfl rfl (st_getR h_5 rfl rfl) ?_
    refine ru_go (t := (15, [some (.inr (some a0)), some (.inl x1), some (.inl x2)], [.inl x1, .inr (sm_R M b_3 3)], M)) sm_a14_14 rfl rfl rfl ?_
    obtain ⟨b_6, hb_7, h⟩ := h
    rw [hb_7]
    obtain ⟨h_8, h⟩ := h
    obtain ⟨h_9, h⟩ := h
    refine ru_go (t := (16, [some (.inr (some a0)), some (.inl x1), some (.inl x2)], [.inr (sm_R M b_6 (x1).toNatClampNeg)], M)) sm_a14_15 rfl rfl (st_aald h_8.choose_spec h_9 rfl) ?_
    obtain ⟨b_10, hb_11, h⟩ := h
    rw [hb_11]
    obtain ⟨h_12, h⟩ := h
    refine ru_go (t := (19, [some (.inr (some a0)), some (.inl x1), some (.inl x2)], [.inl (sm_I M b_10 3)], M)) sm_a14_16 rfl rfl (st_getI h_12 rfl) ?_
    refine ru_if (pc := 19) (p := 24) (p2 := 22) sm_a14_19 (by decide) rfl ⟨fun hc_13 => ?_, fun hc_13 => ?_⟩
    · have h := h.1 hc_13
      refine ru_go (t := (25, [some (.inr (some a0)), some (.inl x1), some (.inl x2)], [.inr (some a0)], M)) sm_a14_24 rfl rfl rfl ?_
      refine ru_go (t := (28, [some (.inr (some a0)), some (.inl x1), some (.inl x2)], [.inr (sm_R M a0 3)], M)) sm_a14_25 rfl rfl (st_getR h_2 rfl rfl) ?_
      obtain ⟨b_14, hb_15, h⟩ := h
      rw [hb_15]
      obtain ⟨h_16, h⟩ := h
      refine ru_go (t := (31, [some (.inr (some a0)), some (.inl x1), some (.inl x2)], [.inr (sm_R M b_14 3)], M)) sm_a14_28 rfl rfl (st_getR h_16 rfl rfl) ?_
      refine ru_go (t := (32, [some (.inr (some a0)), some (.inl x1), some (.inl x2)], [.inl x1, .inr (sm_R M b_14 3)], M)) sm_a14_31 rfl rfl rfl ?_
      obtain ⟨b_17, hb_18, h⟩ := h
      rw [hb_18]
      obtain ⟨h_19, h⟩ := h
      obtain ⟨h_20, h⟩ := h
      refine ru_go (t := (33, [some (.inr (some a0)), some (.inl x1), some (.inl x2)], [.inr (sm_R M b_17 (x1).toNatClampNeg)], M)) sm_a14_32 rfl rfl (st_aald h_19.choose_spec h_20 rfl) ?_
      refine ru_go (t := (34, [some (.inr (some a0)), some (.inl x1), some (.inl x2)], [.inl x2, .inr (sm_R M b_17 (x1).toNatClampNeg)], M)) sm_a14_33 rfl rfl rfl ?_
      obtain ⟨b_21, hb_22, h⟩ := h
      rw [hb_22]
      obtain ⟨h_23, h⟩ := h
      exact ru_call (p := 37) sm_a14_34 rfl (sc_virt (Or.inl rfl) rfl rfl h_23 (Nat.le_of_ble_eq_true rfl)) rfl h
    · have h := h.2 hc_13
      refine ru_go (t := (23, [some (.inr (some a0)), some (.inl x1), some (.inl x2)], [.inr none], M)) sm_a14_22 rfl rfl rfl ?_
      exact ru_ret sm_a14_23 rfl h
theorem bb_14_37 {d : Nat} {M : sm_M} {Q : Option sm_V → sm_M → Prop} {a0 : Nat} {x1 : Int32} {x2 : Int32} {t0 : Option Nat}
    (h : Q (some (.inr t0)) M) :
    sm_Run (d + 1) 14 37 [some (.inr (some a0)), some (.inl x1), some (.inl x2)] [.inr t0] M Q := by
  exact ru_ret sm_a14_37 rfl h

/-! WireBus.fault:(III)Z -/
theorem sm_a15_0 : sm_at 15 0 = some (.iload_n 2, 1, (0, 0, 0, 0)) := by decide +kernel
theorem sm_a15_1 : sm_at 15 1 = some (.ifCond .lt 16, 3, (0, 0, 0, 0)) := by decide +kernel
theorem sm_a15_4 : sm_at 15 4 = some (.iload_n 2, 1, (0, 0, 0, 0)) := by decide +kernel
theorem sm_a15_5 : sm_at 15 5 = some (.iconst 3, 1, (0, 0, 0, 0)) := by decide +kernel
theorem sm_a15_6 : sm_at 15 6 = some (.if_icmp .gt 11, 3, (0, 0, 0, 0)) := by decide +kernel
theorem sm_a15_9 : sm_at 15 9 = some (.iload_n 2, 1, (0, 0, 0, 0)) := by decide +kernel
theorem sm_a15_10 : sm_at 15 10 = some (.ifCond .eq 9, 3, (0, 0, 0, 0)) := by decide +kernel
theorem sm_a15_13 : sm_at 15 13 = some (.iload_n 3, 1, (0, 0, 0, 0)) := by decide +kernel
theorem sm_a15_14 : sm_at 15 14 = some (.ifCond .ge 5, 3, (0, 0, 0, 0)) := by decide +kernel
theorem sm_a15_17 : sm_at 15 17 = some (.iconst 0, 1, (0, 0, 0, 0)) := by decide +kernel
theorem sm_a15_18 : sm_at 15 18 = some (.ireturn, 1, (0, 0, 0, 0)) := by decide +kernel
theorem sm_a15_19 : sm_at 15 19 = some (.aload_n 0, 1, (0, 0, 0, 0)) := by decide +kernel
theorem sm_a15_20 : sm_at 15 20 = some (.getfield 25, 3, (0, 3, 0, 464)) := by decide +kernel
theorem sm_a15_23 : sm_at 15 23 = some (.iload_n 1, 1, (0, 0, 0, 0)) := by decide +kernel
theorem sm_a15_24 : sm_at 15 24 = some (.iload_n 2, 1, (0, 0, 0, 0)) := by decide +kernel
theorem sm_a15_25 : sm_at 15 25 = some (.iload_n 3, 1, (0, 0, 0, 0)) := by decide +kernel
theorem sm_a15_26 : sm_at 15 26 = some (.invokevirtual 162, 3, (10, 140, 11, 1131)) := by decide +kernel
theorem sm_a15_29 : sm_at 15 29 = some (.ireturn, 1, (0, 0, 0, 0)) := by decide +kernel
theorem bb_15_0 {d : Nat} {M : sm_M} {Q : Option sm_V → sm_M → Prop} {a0 : Nat} {x1 : Int32} {x2 : Int32} {x3 : Int32}
    (h : ((x2 < 0 → Q (some (.inl 0)) M) ∧ (¬ (x2 < 0) → ((3 < x2 → Q (some (.inl 0)) M) ∧ (¬ (3 < x2) → ((x2 = 0 → sm_K M a0 = 3 ∧ ∃ b_5, sm_R M a0 3 = some b_5 ∧ sm_K M b_5 = 36 ∧ sm_Run d 140 0 (sm_ent 140 [.inr (some b_5), .inl x1, .inl x2, .inl x3]) [] M (fun v M1 => sm_Run (d + 1) 15 29 [some (.inr (some a0)), some (.inl x1), some (.inl x2), some (.inl x3)] (v.toList ++ []) M1 Q)) ∧ (¬ (x2 = 0) → ((0 ≤ x3 → sm_K M a0 = 3 ∧ ∃ b_10, sm_R M a0 3 = some b_10 ∧ sm_K M b_10 = 36 ∧ sm_Run d 140 0 (sm_ent 140 [.inr (some b_10), .inl x1, .inl x2, .inl x3]) [] M (fun v M1 => sm_Run (d + 1) 15 29 [some (.inr (some a0)), some (.inl x1), some (.inl x2), some (.inl x3)] (v.toList ++ []) M1 Q)) ∧ (¬ (0 ≤ x3) → Q (some (.inl 0)) M))))))))) :
    sm_Run (d + 1) 15 0 [some (.inr (some a0)), some (.inl x1), some (.inl x2), some (.inl x3)] [] M Q := by
  refine ru_go (t := (1, [some (.inr (some a0)), some (.inl x1), some (.inl x2), some (.inl x3)], [.inl x2], M)) sm_a15_0 rfl rfl rfl ?_
  refine ru_if (pc := 1) (p := 17) (p2 := 4) sm_a15_1 (by decide) rfl ⟨fun hc_1 => ?_, fun hc_1 => ?_⟩
  · have h := h.1 hc_1
    refine ru_go (t := (18, [some (.inr (some a0)), some (.inl x1), some (.inl x2), some (.inl x3)], [.inl 0], M)) sm_a15_17 rfl rfl (st_iconst (by decide)) ?_
    exact ru_ret sm_a15_18 (sm_rvz rfl (by decide)) h
  · have h := h.2 hc_1
    refine ru_go (t := (5, [some (.inr (some a0)), some (.inl x1), some (.inl x2), some (.inl x3)], [.inl x2], M)) sm_a15_4 rfl rfl rfl ?_
    refine ru_go (t := (6, [some (.inr (some a0)), some (.inl x1), some (.inl x2), some (.inl x3)], [.inl 3, .inl x2], M)) sm_a15_5 rfl rfl (st_iconst (by decide)) ?_
    refine ru_icmp (pc := 6) (p := 17) (p2 := 9) sm_a15_6 (by decide) rfl ⟨fun hc_2 => ?_, fun hc_2 => ?_⟩
    · have h := h.1 hc_2
      refine ru_go (t := (18, [some (.inr (some a0)), some (.inl x1), some (.inl x2), some (.inl x3)], [.inl 0], M)) sm_a15_17 rfl rfl (st_iconst (by decide)) ?_
      exact ru_ret sm_a15_18 (sm_rvz rfl (by decide)) h
    · have h := h.2 hc_2
      refine ru_go (t := (10, [some (.inr (some a0)), some (.inl x1), some (.inl x2), some (.inl x3)], [.inl x2], M)) sm_a15_9 rfl rfl rfl ?_
      refine ru_if (pc := 10) (p := 19) (p2 := 13) sm_a15_10 (by decide) rfl ⟨fun hc_3 => ?_, fun hc_3 => ?_⟩
      · have h := h.1 hc_3
        refine ru_go (t := (20, [some (.inr (some a0)), some (.inl x1), some (.inl x2), some (.inl x3)], [.inr (some a0)], M)) sm_a15_19 rfl rfl rfl ?_
        obtain ⟨h_4, h⟩ := h
        refine ru_go (t := (23, [some (.inr (some a0)), some (.inl x1), some (.inl x2), some (.inl x3)], [.inr (sm_R M a0 3)], M)) sm_a15_20 rfl rfl (st_getR h_4 rfl rfl) ?_
        refine ru_go (t := (24, [some (.inr (some a0)), some (.inl x1), some (.inl x2), some (.inl x3)], [.inl x1, .inr (sm_R M a0 3)], M)) sm_a15_23 rfl rfl rfl ?_
        refine ru_go (t := (25, [some (.inr (some a0)), some (.inl x1), some (.inl x2), some (.inl x3)], [.inl x2, .inl x1, .inr (sm_R M a0 3)], M)) sm_a15_24 rfl rfl rfl ?_
        refine ru_go (t := (26, [some (.inr (some a0)), some (.inl x1), some (.inl x2), some (.inl x3)], [.inl x3, .inl x2, .inl x1, .inr (sm_R M a0 3)], M)) sm_a15_25 rfl rfl rfl ?_
        obtain ⟨b_5, hb_6, h⟩ := h
        rw [hb_6]
        obtain ⟨h_7, h⟩ := h
        exact ru_call (p := 29) sm_a15_26 rfl (sc_virt (Or.inl rfl) rfl rfl h_7 (Nat.le_of_ble_eq_true rfl)) rfl h
      · have h := h.2 hc_3
        refine ru_go (t := (14, [some (.inr (some a0)), some (.inl x1), some (.inl x2), some (.inl x3)], [.inl x3], M)) sm_a15_13 rfl rfl rfl ?_
        refine ru_if (pc := 14) (p := 19) (p2 := 17) sm_a15_14 (by decide) rfl ⟨fun hc_8 => ?_, fun hc_8 => ?_⟩
        · have h := h.1 hc_8
          refine ru_go (t := (20, [some (.inr (some a0)), some (.inl x1), some (.inl x2), some (.inl x3)], [.inr (some a0)], M)) sm_a15_19 rfl rfl rfl ?_
          obtain ⟨h_9, h⟩ := h
          refine ru_go (t := (23, [some (.inr (some a0)), some (.inl x1), some (.inl x2), some (.inl x3)], [.inr (sm_R M a0 3)], M)) sm_a15_20 rfl rfl (st_getR h_9 rfl rfl) ?_
          refine ru_go (t := (24, [some (.inr (some a0)), some (.inl x1), some (.inl x2), some (.inl x3)], [.inl x1, .inr (sm_R M a0 3)], M)) sm_a15_23 rfl rfl rfl ?_
          refine ru_go (t := (25, [some (.inr (some a0)), some (.inl x1), some (.inl x2), some (.inl x3)], [.inl x2, .inl x1, .inr (sm_R M a0 3)], M)) sm_a15_24 rfl rfl rfl ?_
          refine ru_go (t := (26, [some (.inr (some a0)), some (.inl x1), some (.inl x2), some (.inl x3)], [.inl x3, .inl x2, .inl x1, .inr (sm_R M a0 3)], M)) sm_a15_25 rfl rfl rfl ?_
          obtain ⟨b_10, hb_11, h⟩ := h
          rw [hb_11]
          obtain ⟨h_12, h⟩ := h
          exact ru_call (p := 29) sm_a15_26 rfl (sc_virt (Or.inl rfl) rfl rfl h_12 (Nat.le_of_ble_eq_true rfl)) rfl h
        · have h := h.2 hc_8
          refine ru_go (t := (18, [some (.inr (some a0)), some (.inl x1), some (.inl x2), some (.inl x3)], [.inl 0], M)) sm_a15_17 rfl rfl (st_iconst (by decide)) ?_
          exact ru_ret sm_a15_18 (sm_rvz rfl (by decide)) h
theorem bb_15_29 {d : Nat} {M : sm_M} {Q : Option sm_V → sm_M → Prop} {a0 : Nat} {x1 : Int32} {x2 : Int32} {x3 : Int32} {y0 : Int32}
    (h : sm_fit .boolean y0 = true ∧ Q (some (.inl y0)) M) :
    sm_Run (d + 1) 15 29 [some (.inr (some a0)), some (.inl x1), some (.inl x2), some (.inl x3)] [.inl y0] M Q := by
  obtain ⟨h_1, h⟩ := h
  exact ru_ret sm_a15_29 (sm_rvz rfl h_1) h

/-! WireBus.look:(I)I -/
theorem sm_a16_0 : sm_at 16 0 = some (.iload_n 1, 1, (0, 0, 0, 0)) := by decide +kernel
theorem sm_a16_1 : sm_at 16 1 = some (.tableswitch 87 0 5 #[39, 47, 55, 63, 71, 79], 39, (0, 0, 0, 0)) := by decide +kernel
theorem sm_a16_40 : sm_at 16 40 = some (.aload_n 0, 1, (0, 0, 0, 0)) := by decide +kernel
theorem sm_a16_41 : sm_at 16 41 = some (.getfield 32, 3, (0, 4, 0, 465)) := by decide +kernel
theorem sm_a16_44 : sm_at 16 44 = some (.getfield 165, 3, (6, 5, 1, 434)) := by decide +kernel
theorem sm_a16_47 : sm_at 16 47 = some (.ireturn, 1, (0, 0, 0, 0)) := by decide +kernel
theorem sm_a16_48 : sm_at 16 48 = some (.aload_n 0, 1, (0, 0, 0, 0)) := by decide +kernel
theorem sm_a16_49 : sm_at 16 49 = some (.getfield 25, 3, (0, 3, 0, 464)) := by decide +kernel
theorem sm_a16_52 : sm_at 16 52 = some (.getfield 128, 3, (11, 8, 1, 317)) := by decide +kernel
theorem sm_a16_55 : sm_at 16 55 = some (.ireturn, 1, (0, 0, 0, 0)) := by decide +kernel
theorem sm_a16_56 : sm_at 16 56 = some (.aload_n 0, 1, (0, 0, 0, 0)) := by decide +kernel
theorem sm_a16_57 : sm_at 16 57 = some (.getfield 32, 3, (0, 4, 0, 465)) := by decide +kernel
theorem sm_a16_60 : sm_at 16 60 = some (.getfield 120, 3, (6, 2, 1, 429)) := by decide +kernel
theorem sm_a16_63 : sm_at 16 63 = some (.ireturn, 1, (0, 0, 0, 0)) := by decide +kernel
theorem sm_a16_64 : sm_at 16 64 = some (.aload_n 0, 1, (0, 0, 0, 0)) := by decide +kernel
theorem sm_a16_65 : sm_at 16 65 = some (.getfield 32, 3, (0, 4, 0, 465)) := by decide +kernel
theorem sm_a16_68 : sm_at 16 68 = some (.getfield 168, 3, (6, 3, 1, 431)) := by decide +kernel
theorem sm_a16_71 : sm_at 16 71 = some (.ireturn, 1, (0, 0, 0, 0)) := by decide +kernel
theorem sm_a16_72 : sm_at 16 72 = some (.aload_n 0, 1, (0, 0, 0, 0)) := by decide +kernel
theorem sm_a16_73 : sm_at 16 73 = some (.getfield 25, 3, (0, 3, 0, 464)) := by decide +kernel
theorem sm_a16_76 : sm_at 16 76 = some (.getfield 171, 3, (11, 7, 1, 315)) := by decide +kernel
theorem sm_a16_79 : sm_at 16 79 = some (.ireturn, 1, (0, 0, 0, 0)) := by decide +kernel
theorem sm_a16_80 : sm_at 16 80 = some (.aload_n 0, 1, (0, 0, 0, 0)) := by decide +kernel
theorem sm_a16_81 : sm_at 16 81 = some (.getfield 18, 3, (0, 2, 0, 463)) := by decide +kernel
theorem sm_a16_84 : sm_at 16 84 = some (.getfield 60, 3, (1, 2, 1, 117)) := by decide +kernel
theorem sm_a16_87 : sm_at 16 87 = some (.ireturn, 1, (0, 0, 0, 0)) := by decide +kernel
theorem sm_a16_88 : sm_at 16 88 = some (.iconst (-1), 1, (0, 0, 0, 0)) := by decide +kernel
theorem sm_a16_89 : sm_at 16 89 = some (.ireturn, 1, (0, 0, 0, 0)) := by decide +kernel
theorem bb_16_0 {d : Nat} {M : sm_M} {Q : Option sm_V → sm_M → Prop} {a0 : Nat} {x1 : Int32}
    (h : ((x1 = 0 → sm_K M a0 = 3 ∧ ∃ b_3, sm_R M a0 4 = some b_3 ∧ sm_K M b_3 = 21 ∧ Q (some (.inl (sm_I M b_3 5))) M) ∧ (x1 = 1 → sm_K M a0 = 3 ∧ ∃ b_8, sm_R M a0 3 = some b_8 ∧ sm_K M b_8 = 36 ∧ Q (some (.inl (sm_I M b_8 8))) M) ∧ (x1 = 2 → sm_K M a0 = 3 ∧ ∃ b_13, sm_R M a0 4 = some b_13 ∧ sm_K M b_13 = 21 ∧ Q (some (.inl (sm_I M b_13 2))) M) ∧ (x1 = 3 → sm_K M a0 = 3 ∧ ∃ b_18, sm_R M a0 4 = some b_18 ∧ sm_K M b_18 = 21 ∧ Q (some (.inl (sm_I M b_18 3))) M) ∧ (x1 = 4 → sm_K M a0 = 3 ∧ ∃ b_23, sm_R M a0 3 = some b_23 ∧ sm_K M b_23 = 36 ∧ Q (some (.inl (sm_I M b_23 7))) M) ∧ (x1 = 5 → sm_K M a0 = 3 ∧ ∃ b_28, sm_R M a0 2 = some b_28 ∧ sm_K M b_28 = 6 ∧ Q (some (.inl (sm_I M b_28 2))) M) ∧ (¬ x1 = 0 → ¬ x1 = 1 → ¬ x1 = 2 → ¬ x1 = 3 → ¬ x1 = 4 → ¬ x1 = 5 → Q (some (.inl (-1))) M))) :
    sm_Run d 16 0 [some (.inr (some a0)), some (.inl x1)] [] M Q := by
  refine ru_go (t := (1, [some (.inr (some a0)), some (.inl x1)], [.inl x1], M)) sm_a16_0 rfl rfl rfl ?_
  by_cases hc_1 : x1 = 0
  · have h := h.1 hc_1
    refine ru_tsw (pc := 1) (v := 0) (p := 40) sm_a16_1 hc_1 (by decide) ?_
    refine ru_go (t := (41, [some (.inr (some a0)), some (.inl x1)], [.inr (some a0)], M)) sm_a16_40 rfl rfl rfl ?_
    obtain ⟨h_2, h⟩ := h
    refine ru_go (t := (44, [some (.inr (some a0)), some (.inl x1)], [.inr (sm_R M a0 4)], M)) sm_a16_41 rfl rfl (st_getR h_2 rfl rfl) ?_
    obtain ⟨b_3, hb_4, h⟩ := h
    rw [hb_4]
    obtain ⟨h_5, h⟩ := h
    refine ru_go (t := (47, [some (.inr (some a0)), some (.inl x1)], [.inl (sm_I M b_3 5)], M)) sm_a16_44 rfl rfl (st_getI h_5 rfl) ?_
    exact ru_ret sm_a16_47 rfl h
  · by_cases hc_6 : x1 = 1
    · have h := h.2.1 hc_6
      refine ru_tsw (pc := 1) (v := 1) (p := 48) sm_a16_1 hc_6 (by decide) ?_
      refine ru_go (t := (49, [some (.inr (some a0)), some (.inl x1)], [.inr (some a0)], M)) sm_a16_48 rfl rfl rfl ?_
      obtain ⟨h_7, h⟩ := h
      refine ru_go (t := (52, [some (.inr (some a0)), some (.inl x1)], [.inr (sm_R M a0 3)], M)) sm_a16_49 rfl rfl (st_getR h_7 rfl rfl) ?_
      obtain ⟨b_8, hb_9, h⟩ := h
      rw [hb_9]
      obtain ⟨h_10, h⟩ := h
      refine ru_go (t := (55, [some (.inr (some a0)), some (.inl x1)], [.inl (sm_I M b_8 8)], M)) sm_a16_52 rfl rfl (st_getI h_10 rfl) ?_
      exact ru_ret sm_a16_55 rfl h
    · by_cases hc_11 : x1 = 2
      · have h := h.2.2.1 hc_11
        refine ru_tsw (pc := 1) (v := 2) (p := 56) sm_a16_1 hc_11 (by decide) ?_
        refine ru_go (t := (57, [some (.inr (some a0)), some (.inl x1)], [.inr (some a0)], M)) sm_a16_56 rfl rfl rfl ?_
        obtain ⟨h_12, h⟩ := h
        refine ru_go (t := (60, [some (.inr (some a0)), some (.inl x1)], [.inr (sm_R M a0 4)], M)) sm_a16_57 rfl rfl (st_getR h_12 rfl rfl) ?_
        obtain ⟨b_13, hb_14, h⟩ := h
        rw [hb_14]
        obtain ⟨h_15, h⟩ := h
        refine ru_go (t := (63, [some (.inr (some a0)), some (.inl x1)], [.inl (sm_I M b_13 2)], M)) sm_a16_60 rfl rfl (st_getI h_15 rfl) ?_
        exact ru_ret sm_a16_63 rfl h
      · by_cases hc_16 : x1 = 3
        · have h := h.2.2.2.1 hc_16
          refine ru_tsw (pc := 1) (v := 3) (p := 64) sm_a16_1 hc_16 (by decide) ?_
          refine ru_go (t := (65, [some (.inr (some a0)), some (.inl x1)], [.inr (some a0)], M)) sm_a16_64 rfl rfl rfl ?_
          obtain ⟨h_17, h⟩ := h
          refine ru_go (t := (68, [some (.inr (some a0)), some (.inl x1)], [.inr (sm_R M a0 4)], M)) sm_a16_65 rfl rfl (st_getR h_17 rfl rfl) ?_
          obtain ⟨b_18, hb_19, h⟩ := h
          rw [hb_19]
          obtain ⟨h_20, h⟩ := h
          refine ru_go (t := (71, [some (.inr (some a0)), some (.inl x1)], [.inl (sm_I M b_18 3)], M)) sm_a16_68 rfl rfl (st_getI h_20 rfl) ?_
          exact ru_ret sm_a16_71 rfl h
        · by_cases hc_21 : x1 = 4
          · have h := h.2.2.2.2.1 hc_21
            refine ru_tsw (pc := 1) (v := 4) (p := 72) sm_a16_1 hc_21 (by decide) ?_
            refine ru_go (t := (73, [some (.inr (some a0)), some (.inl x1)], [.inr (some a0)], M)) sm_a16_72 rfl rfl rfl ?_
            obtain ⟨h_22, h⟩ := h
            refine ru_go (t := (76, [some (.inr (some a0)), some (.inl x1)], [.inr (sm_R M a0 3)], M)) sm_a16_73 rfl rfl (st_getR h_22 rfl rfl) ?_
            obtain ⟨b_23, hb_24, h⟩ := h
            rw [hb_24]
            obtain ⟨h_25, h⟩ := h
            refine ru_go (t := (79, [some (.inr (some a0)), some (.inl x1)], [.inl (sm_I M b_23 7)], M)) sm_a16_76 rfl rfl (st_getI h_25 rfl) ?_
            exact ru_ret sm_a16_79 rfl h
          · by_cases hc_26 : x1 = 5
            · have h := h.2.2.2.2.2.1 hc_26
              refine ru_tsw (pc := 1) (v := 5) (p := 80) sm_a16_1 hc_26 (by decide) ?_
              refine ru_go (t := (81, [some (.inr (some a0)), some (.inl x1)], [.inr (some a0)], M)) sm_a16_80 rfl rfl rfl ?_
              obtain ⟨h_27, h⟩ := h
              refine ru_go (t := (84, [some (.inr (some a0)), some (.inl x1)], [.inr (sm_R M a0 2)], M)) sm_a16_81 rfl rfl (st_getR h_27 rfl rfl) ?_
              obtain ⟨b_28, hb_29, h⟩ := h
              rw [hb_29]
              obtain ⟨h_30, h⟩ := h
              refine ru_go (t := (87, [some (.inr (some a0)), some (.inl x1)], [.inl (sm_I M b_28 2)], M)) sm_a16_84 rfl rfl (st_getI h_30 rfl) ?_
              exact ru_ret sm_a16_87 rfl h
            · have h := h.2.2.2.2.2.2 hc_1 hc_6 hc_11 hc_16 hc_21 hc_26
              have zhc_1 := sm_ne_toInt hc_1; rw [show (0 : Int32).toInt = 0 by decide] at zhc_1
              have zhc_6 := sm_ne_toInt hc_6; rw [show (1 : Int32).toInt = 1 by decide] at zhc_6
              have zhc_11 := sm_ne_toInt hc_11; rw [show (2 : Int32).toInt = 2 by decide] at zhc_11
              have zhc_16 := sm_ne_toInt hc_16; rw [show (3 : Int32).toInt = 3 by decide] at zhc_16
              have zhc_21 := sm_ne_toInt hc_21; rw [show (4 : Int32).toInt = 4 by decide] at zhc_21
              have zhc_26 := sm_ne_toInt hc_26; rw [show (5 : Int32).toInt = 5 by decide] at zhc_26
              refine ru_tswd (pc := 1) (p := 88) sm_a16_1 (by omega) (by decide) ?_
              refine ru_go (t := (89, [some (.inr (some a0)), some (.inl x1)], [.inl (-1)], M)) sm_a16_88 rfl rfl (st_iconst (by decide)) ?_
              exact ru_ret sm_a16_89 rfl h

/-! WireBus.transfer:(II)I -/
theorem sm_a17_0 : sm_at 17 0 = some (.iload_n 1, 1, (0, 0, 0, 0)) := by decide +kernel
theorem sm_a17_1 : sm_at 17 1 = some (.ifCond .lt 14, 3, (0, 0, 0, 0)) := by decide +kernel
theorem sm_a17_4 : sm_at 17 4 = some (.iload_n 1, 1, (0, 0, 0, 0)) := by decide +kernel
theorem sm_a17_5 : sm_at 17 5 = some (.aload_n 0, 1, (0, 0, 0, 0)) := by decide +kernel
theorem sm_a17_6 : sm_at 17 6 = some (.getfield 32, 3, (0, 4, 0, 465)) := by decide +kernel
theorem sm_a17_9 : sm_at 17 9 = some (.getfield 120, 3, (6, 2, 1, 429)) := by decide +kernel
theorem sm_a17_12 : sm_at 17 12 = some (.if_icmp .lt 5, 3, (0, 0, 0, 0)) := by decide +kernel
theorem sm_a17_15 : sm_at 17 15 = some (.iconst (-1), 1, (0, 0, 0, 0)) := by decide +kernel
theorem sm_a17_16 : sm_at 17 16 = some (.ireturn, 1, (0, 0, 0, 0)) := by decide +kernel
theorem sm_a17_17 : sm_at 17 17 = some (.aload_n 0, 1, (0, 0, 0, 0)) := by decide +kernel
theorem sm_a17_18 : sm_at 17 18 = some (.getfield 32, 3, (0, 4, 0, 465)) := by decide +kernel
theorem sm_a17_21 : sm_at 17 21 = some (.getfield 174, 3, (6, 1, 1, 427)) := by decide +kernel
theorem sm_a17_24 : sm_at 17 24 = some (.iload_n 1, 1, (0, 0, 0, 0)) := by decide +kernel
theorem sm_a17_25 : sm_at 17 25 = some (.aaload, 1, (0, 0, 0, 0)) := by decide +kernel
theorem sm_a17_26 : sm_at 17 26 = some (.astore_n 3, 1, (0, 0, 0, 0)) := by decide +kernel
theorem sm_a17_27 : sm_at 17 27 = some (.iload_n 2, 1, (0, 0, 0, 0)) := by decide +kernel
theorem sm_a17_28 : sm_at 17 28 = some (.tableswitch 74 0 5 #[40, 45, 53, 58, 63, 69], 40, (0, 0, 0, 0)) := by decide +kernel
theorem sm_a17_68 : sm_at 17 68 = some (.aload_n 3, 1, (0, 0, 0, 0)) := by decide +kernel
theorem sm_a17_69 : sm_at 17 69 = some (.getfield 178, 3, (10, 0, 1, 624)) := by decide +kernel
theorem sm_a17_72 : sm_at 17 72 = some (.ireturn, 1, (0, 0, 0, 0)) := by decide +kernel
theorem sm_a17_73 : sm_at 17 73 = some (.aload_n 3, 1, (0, 0, 0, 0)) := by decide +kernel
theorem sm_a17_74 : sm_at 17 74 = some (.getfield 181, 3, (10, 1, 1, 627)) := by decide +kernel
theorem sm_a17_77 : sm_at 17 77 = some (.getfield 185, 3, (9, 0, 1, 359)) := by decide +kernel
theorem sm_a17_80 : sm_at 17 80 = some (.ireturn, 1, (0, 0, 0, 0)) := by decide +kernel
theorem sm_a17_81 : sm_at 17 81 = some (.aload_n 3, 1, (0, 0, 0, 0)) := by decide +kernel
theorem sm_a17_82 : sm_at 17 82 = some (.getfield 190, 3, (10, 11, 1, 647)) := by decide +kernel
theorem sm_a17_85 : sm_at 17 85 = some (.ireturn, 1, (0, 0, 0, 0)) := by decide +kernel
theorem sm_a17_86 : sm_at 17 86 = some (.aload_n 3, 1, (0, 0, 0, 0)) := by decide +kernel
theorem sm_a17_87 : sm_at 17 87 = some (.getfield 193, 3, (10, 10, 1, 644)) := by decide +kernel
theorem sm_a17_90 : sm_at 17 90 = some (.ireturn, 1, (0, 0, 0, 0)) := by decide +kernel
theorem sm_a17_91 : sm_at 17 91 = some (.aload_n 3, 1, (0, 0, 0, 0)) := by decide +kernel
theorem sm_a17_92 : sm_at 17 92 = some (.getfield 196, 3, (10, 4, 1, 631)) := by decide +kernel
theorem sm_a17_95 : sm_at 17 95 = some (.arraylength, 1, (0, 0, 0, 0)) := by decide +kernel
theorem sm_a17_96 : sm_at 17 96 = some (.ireturn, 1, (0, 0, 0, 0)) := by decide +kernel
theorem sm_a17_97 : sm_at 17 97 = some (.aload_n 3, 1, (0, 0, 0, 0)) := by decide +kernel
theorem sm_a17_98 : sm_at 17 98 = some (.getfield 198, 3, (10, 12, 1, 649)) := by decide +kernel
theorem sm_a17_101 : sm_at 17 101 = some (.ireturn, 1, (0, 0, 0, 0)) := by decide +kernel
theorem sm_a17_102 : sm_at 17 102 = some (.iload_n 2, 1, (0, 0, 0, 0)) := by decide +kernel
theorem sm_a17_103 : sm_at 17 103 = some (.bipush 6, 2, (0, 0, 0, 0)) := by decide +kernel
theorem sm_a17_105 : sm_at 17 105 = some (.if_icmp .ge 7, 3, (0, 0, 0, 0)) := by decide +kernel
theorem sm_a17_108 : sm_at 17 108 = some (.iconst (-1), 1, (0, 0, 0, 0)) := by decide +kernel
theorem sm_a17_109 : sm_at 17 109 = some (.goto 11, 3, (0, 0, 0, 0)) := by decide +kernel
theorem sm_a17_112 : sm_at 17 112 = some (.aload_n 3, 1, (0, 0, 0, 0)) := by decide +kernel
theorem sm_a17_113 : sm_at 17 113 = some (.iload_n 2, 1, (0, 0, 0, 0)) := by decide +kernel
theorem sm_a17_114 : sm_at 17 114 = some (.bipush 6, 2, (0, 0, 0, 0)) := by decide +kernel
theorem sm_a17_116 : sm_at 17 116 = some (.isub, 1, (0, 0, 0, 0)) := by decide +kernel
theorem sm_a17_117 : sm_at 17 117 = some (.invokevirtual 201, 3, (10, 124, 10, 1143)) := by decide +kernel
theorem sm_a17_120 : sm_at 17 120 = some (.ireturn, 1, (0, 0, 0, 0)) := by decide +kernel
theorem bb_17_0 {d : Nat} {M : sm_M} {Q : Option sm_V → sm_M → Prop} {a0 : Nat} {x1 : Int32} {x2 : Int32} {z3 : Option sm_V}
    (h : ((x1 < 0 → Q (some (.inl (-1))) M) ∧ (¬ (x1 < 0) → sm_K M a0 = 3 ∧ ∃ b_3, sm_R M a0 4 = some b_3 ∧ sm_K M b_3 = 21 ∧ ((x1 < (sm_I M b_3 2) → ∃ b_7, sm_R M a0 4 = some b_7 ∧ sm_K M b_7 = 21 ∧ ∃ b_10, sm_R M b_7 1 = some b_10 ∧ (∃ ci, sm_K M b_10 = 4 + 3 * ci) ∧ sm_in_ M b_10 x1 ∧ ((x2 = 0 → ∃ b_15, sm_R M b_10 (x1).toNatClampNeg = some b_15 ∧ sm_K M b_15 = 33 ∧ Q (some (.inl (sm_I M b_15 0))) M) ∧ (x2 = 1 → ∃ b_19, sm_R M b_10 (x1).toNatClampNeg = some b_19 ∧ sm_K M b_19 = 33 ∧ ∃ b_22, sm_R M b_19 1 = some b_22 ∧ sm_K M b_22 = 30 ∧ Q (some (.inl (sm_I M b_22 0))) M) ∧ (x2 = 2 → ∃ b_26, sm_R M b_10 (x1).toNatClampNeg = some b_26 ∧ sm_K M b_26 = 33 ∧ Q (some (.inl (sm_I M b_26 11))) M) ∧ (x2 = 3 → ∃ b_30, sm_R M b_10 (x1).toNatClampNeg = some b_30 ∧ sm_K M b_30 = 33 ∧ Q (some (.inl (sm_I M b_30 10))) M) ∧ (x2 = 4 → ∃ b_34, sm_R M b_10 (x1).toNatClampNeg = some b_34 ∧ sm_K M b_34 = 33 ∧ ∃ b_37, sm_R M b_34 4 = some b_37 ∧ (1 ≤ sm_K M b_37 ∧ sm_K M b_37 % 3 ≠ 0) ∧ Q (some (.inl (Int32.ofNat (sm_L M b_37)))) M) ∧ (x2 = 5 → ∃ b_41, sm_R M b_10 (x1).toNatClampNeg = some b_41 ∧ sm_K M b_41 = 33 ∧ Q (some (.inl (sm_I M b_41 12))) M) ∧ (¬ x2 = 0 → ¬ x2 = 1 → ¬ x2 = 2 → ¬ x2 = 3 → ¬ x2 = 4 → ¬ x2 = 5 → ((6 ≤ x2 → ∃ b_45, sm_R M b_10 (x1).toNatClampNeg = some b_45 ∧ sm_K M b_45 = 33 ∧ sm_Run d 124 0 (sm_ent 124 [.inr (some b_45), .inl (x2 - 6)]) [] M (fun v M1 => sm_Run (d + 1) 17 120 [some (.inr (some a0)), some (.inl x1), some (.inl x2), some (.inr (some b_45))] (v.toList ++ []) M1 Q)) ∧ (¬ (6 ≤ x2) → Q (some (.inl (-1))) M))))) ∧ (¬ (x1 < (sm_I M b_3 2)) → Q (some (.inl (-1))) M))))) :
    sm_Run (d + 1) 17 0 [some (.inr (some a0)), some (.inl x1), some (.inl x2), z3] [] M Q := by
  refine ru_go (t := (1, [some (.inr (some a0)), some (.inl x1), some (.inl x2), z3], [.inl x1], M)) sm_a17_0 rfl rfl rfl ?_
  refine ru_if (pc := 1) (p := 15) (p2 := 4) sm_a17_1 (by decide) rfl ⟨fun hc_1 => ?_, fun hc_1 => ?_⟩
  · have h := h.1 hc_1
    refine ru_go (t := (16, [some (.inr (some a0)), some (.inl x1), some (.inl x2), z3], [.inl (-1)], M)) sm_a17_15 rfl rfl (st_iconst (by decide)) ?_
    exact ru_ret sm_a17_16 rfl h
  · have h := h.2 hc_1
    refine ru_go (t := (5, [some (.inr (some a0)), some (.inl x1), some (.inl x2), z3], [.inl x1], M)) sm_a17_4 rfl rfl rfl ?_
    refine ru_go (t := (6, [some (.inr (some a0)), some (.inl x1), some (.inl x2), z3], [.inr (some a0), .inl x1], M)) sm_a17_5 rfl rfl rfl ?_
    obtain ⟨h_2, h⟩ := h
    refine ru_go (t := (9, [some (.inr (some a0)), some (.inl x1), some (.inl x2), z3], [.inr (sm_R M a0 4), .inl x1], M)) sm_a17_6 rfl rfl (st_getR h_2 rfl rfl) ?_
    obtain ⟨b_3, hb_4, h⟩ := h
    rw [hb_4]
    obtain ⟨h_5, h⟩ := h
    refine ru_go (t := (12, [some (.inr (some a0)), some (.inl x1), some (.inl x2), z3], [.inl (sm_I M b_3 2), .inl x1], M)) sm_a17_9 rfl rfl (st_getI h_5 rfl) ?_
    refine ru_icmp (pc := 12) (p := 17) (p2 := 15) sm_a17_12 (by decide) rfl ⟨fun hc_6 => ?_, fun hc_6 => ?_⟩
    · have h := h.1 hc_6
      refine ru_go (t := (18, [some (.inr (some a0)), some (.inl x1), some (.inl x2), z3], [.inr (some a0)], M)) sm_a17_17 rfl rfl rfl ?_
      refine ru_go (t := (21, [some (.inr (some a0)), some (.inl x1), some (.inl x2), z3], [.inr (sm_R M a0 4)], M)) sm_a17_18 rfl rfl (st_getR h_2 rfl rfl) ?_
      obtain ⟨b_7, hb_8, h⟩ := h
      rw [hb_8]
      obtain ⟨h_9, h⟩ := h
      refine ru_go (t := (24, [some (.inr (some a0)), some (.inl x1), some (.inl x2), z3], [.inr (sm_R M b_7 1)], M)) sm_a17_21 rfl rfl (st_getR h_9 rfl rfl) ?_
      refine ru_go (t := (25, [some (.inr (some a0)), some (.inl x1), some (.inl x2), z3], [.inl x1, .inr (sm_R M b_7 1)], M)) sm_a17_24 rfl rfl rfl ?_
      obtain ⟨b_10, hb_11, h⟩ := h
      rw [hb_11]
      obtain ⟨h_12, h⟩ := h
      obtain ⟨h_13, h⟩ := h
      refine ru_go (t := (26, [some (.inr (some a0)), some (.inl x1), some (.inl x2), z3], [.inr (sm_R M b_10 (x1).toNatClampNeg)], M)) sm_a17_25 rfl rfl (st_aald h_12.choose_spec h_13 rfl) ?_
      refine ru_go (t := (27, [some (.inr (some a0)), some (.inl x1), some (.inl x2), some (.inr (sm_R M b_10 (x1).toNatClampNeg))], [], M)) sm_a17_26 rfl rfl rfl ?_
      refine ru_go (t := (28, [some (.inr (some a0)), some (.inl x1), some (.inl x2), some (.inr (sm_R M b_10 (x1).toNatClampNeg))], [.inl x2], M)) sm_a17_27 rfl rfl rfl ?_
      by_cases hc_14 : x2 = 0
      · have h := h.1 hc_14
        refine ru_tsw (pc := 28) (v := 0) (p := 68) sm_a17_28 hc_14 (by decide) ?_
        refine ru_go (t := (69, [some (.inr (some a0)), some (.inl x1), some (.inl x2), some (.inr (sm_R M b_10 (x1).toNatClampNeg))], [.inr (sm_R M b_10 (x1).toNatClampNeg)], M)) sm_a17_68 rfl rfl rfl ?_
        obtain ⟨b_15, hb_16, h⟩ := h
        rw [hb_16]
        obtain ⟨h_17, h⟩ := h
        refine ru_go (t := (72, [some (.inr (some a0)), some (.inl x1), some (.inl x2), some (.inr (some b_15))], [.inl (sm_I M b_15 0)], M)) sm_a17_69 rfl rfl (st_getI h_17 rfl) ?_
        exact ru_ret sm_a17_72 rfl h
      · by_cases hc_18 : x2 = 1
        · have h := h.2.1 hc_18
          refine ru_tsw (pc := 28) (v := 1) (p := 73) sm_a17_28 hc_18 (by decide) ?_
          refine ru_go (t := (74, [some (.inr (some a0)), some (.inl x1), some (.inl x2), some (.inr (sm_R M b_10 (x1).toNatClampNeg))], [.inr (sm_R M b_10 (x1).toNatClampNeg)], M)) sm_a17_73 rfl rfl rfl ?_
          obtain ⟨b_19, hb_20, h⟩ := h
          rw [hb_20]
          obtain ⟨h_21, h⟩ := h
          refine ru_go (t := (77, [some (.inr (some a0)), some (.inl x1), some (.inl x2), some (.inr (some b_19))], [.inr (sm_R M b_19 1)], M)) sm_a17_74 rfl rfl (st_getR h_21 rfl rfl) ?_
          obtain ⟨b_22, hb_23, h⟩ := h
          rw [hb_23]
          obtain ⟨h_24, h⟩ := h
          refine ru_go (t := (80, [some (.inr (some a0)), some (.inl x1), some (.inl x2), some (.inr (some b_19))], [.inl (sm_I M b_22 0)], M)) sm_a17_77 rfl rfl (st_getI h_24 rfl) ?_
          exact ru_ret sm_a17_80 rfl h
        · by_cases hc_25 : x2 = 2
          · have h := h.2.2.1 hc_25
            refine ru_tsw (pc := 28) (v := 2) (p := 81) sm_a17_28 hc_25 (by decide) ?_
            refine ru_go (t := (82, [some (.inr (some a0)), some (.inl x1), some (.inl x2), some (.inr (sm_R M b_10 (x1).toNatClampNeg))], [.inr (sm_R M b_10 (x1).toNatClampNeg)], M)) sm_a17_81 rfl rfl rfl ?_
            obtain ⟨b_26, hb_27, h⟩ := h
            rw [hb_27]
            obtain ⟨h_28, h⟩ := h
            refine ru_go (t := (85, [some (.inr (some a0)), some (.inl x1), some (.inl x2), some (.inr (some b_26))], [.inl (sm_I M b_26 11)], M)) sm_a17_82 rfl rfl (st_getI h_28 rfl) ?_
            exact ru_ret sm_a17_85 rfl h
          · by_cases hc_29 : x2 = 3
            · have h := h.2.2.2.1 hc_29
              refine ru_tsw (pc := 28) (v := 3) (p := 86) sm_a17_28 hc_29 (by decide) ?_
              refine ru_go (t := (87, [some (.inr (some a0)), some (.inl x1), some (.inl x2), some (.inr (sm_R M b_10 (x1).toNatClampNeg))], [.inr (sm_R M b_10 (x1).toNatClampNeg)], M)) sm_a17_86 rfl rfl rfl ?_
              obtain ⟨b_30, hb_31, h⟩ := h
              rw [hb_31]
              obtain ⟨h_32, h⟩ := h
              refine ru_go (t := (90, [some (.inr (some a0)), some (.inl x1), some (.inl x2), some (.inr (some b_30))], [.inl (sm_I M b_30 10)], M)) sm_a17_87 rfl rfl (st_getI h_32 rfl) ?_
              exact ru_ret sm_a17_90 rfl h
            · by_cases hc_33 : x2 = 4
              · have h := h.2.2.2.2.1 hc_33
                refine ru_tsw (pc := 28) (v := 4) (p := 91) sm_a17_28 hc_33 (by decide) ?_
                refine ru_go (t := (92, [some (.inr (some a0)), some (.inl x1), some (.inl x2), some (.inr (sm_R M b_10 (x1).toNatClampNeg))], [.inr (sm_R M b_10 (x1).toNatClampNeg)], M)) sm_a17_91 rfl rfl rfl ?_
                obtain ⟨b_34, hb_35, h⟩ := h
                rw [hb_35]
                obtain ⟨h_36, h⟩ := h
                refine ru_go (t := (95, [some (.inr (some a0)), some (.inl x1), some (.inl x2), some (.inr (some b_34))], [.inr (sm_R M b_34 4)], M)) sm_a17_92 rfl rfl (st_getR h_36 rfl rfl) ?_
                obtain ⟨b_37, hb_38, h⟩ := h
                rw [hb_38]
                obtain ⟨h_39, h⟩ := h
                refine ru_go (t := (96, [some (.inr (some a0)), some (.inl x1), some (.inl x2), some (.inr (some b_34))], [.inl (Int32.ofNat (sm_L M b_37))], M)) sm_a17_95 rfl rfl (st_alen h_39) ?_
                exact ru_ret sm_a17_96 rfl h
              · by_cases hc_40 : x2 = 5
                · have h := h.2.2.2.2.2.1 hc_40
                  refine ru_tsw (pc := 28) (v := 5) (p := 97) sm_a17_28 hc_40 (by decide) ?_
                  refine ru_go (t := (98, [some (.inr (some a0)), some (.inl x1), some (.inl x2), some (.inr (sm_R M b_10 (x1).toNatClampNeg))], [.inr (sm_R M b_10 (x1).toNatClampNeg)], M)) sm_a17_97 rfl rfl rfl ?_
                  obtain ⟨b_41, hb_42, h⟩ := h
                  rw [hb_42]
                  obtain ⟨h_43, h⟩ := h
                  refine ru_go (t := (101, [some (.inr (some a0)), some (.inl x1), some (.inl x2), some (.inr (some b_41))], [.inl (sm_I M b_41 12)], M)) sm_a17_98 rfl rfl (st_getI h_43 rfl) ?_
                  exact ru_ret sm_a17_101 rfl h
                · have h := h.2.2.2.2.2.2 hc_14 hc_18 hc_25 hc_29 hc_33 hc_40
                  have zhc_14 := sm_ne_toInt hc_14; rw [show (0 : Int32).toInt = 0 by decide] at zhc_14
                  have zhc_18 := sm_ne_toInt hc_18; rw [show (1 : Int32).toInt = 1 by decide] at zhc_18
                  have zhc_25 := sm_ne_toInt hc_25; rw [show (2 : Int32).toInt = 2 by decide] at zhc_25
                  have zhc_29 := sm_ne_toInt hc_29; rw [show (3 : Int32).toInt = 3 by decide] at zhc_29
                  have zhc_33 := sm_ne_toInt hc_33; rw [show (4 : Int32).toInt = 4 by decide] at zhc_33
                  have zhc_40 := sm_ne_toInt hc_40; rw [show (5 : Int32).toInt = 5 by decide] at zhc_40
                  refine ru_tswd (pc := 28) (p := 102) sm_a17_28 (by omega) (by decide) ?_
                  refine ru_go (t := (103, [some (.inr (some a0)), some (.inl x1), some (.inl x2), some (.inr (sm_R M b_10 (x1).toNatClampNeg))], [.inl x2], M)) sm_a17_102 rfl rfl rfl ?_
                  refine ru_go (t := (105, [some (.inr (some a0)), some (.inl x1), some (.inl x2), some (.inr (sm_R M b_10 (x1).toNatClampNeg))], [.inl 6, .inl x2], M)) sm_a17_103 rfl rfl (st_bipush (by decide)) ?_
                  refine ru_icmp (pc := 105) (p := 112) (p2 := 108) sm_a17_105 (by decide) rfl ⟨fun hc_44 => ?_, fun hc_44 => ?_⟩
                  · have h := h.1 hc_44
                    refine ru_go (t := (113, [some (.inr (some a0)), some (.inl x1), some (.inl x2), some (.inr (sm_R M b_10 (x1).toNatClampNeg))], [.inr (sm_R M b_10 (x1).toNatClampNeg)], M)) sm_a17_112 rfl rfl rfl ?_
                    refine ru_go (t := (114, [some (.inr (some a0)), some (.inl x1), some (.inl x2), some (.inr (sm_R M b_10 (x1).toNatClampNeg))], [.inl x2, .inr (sm_R M b_10 (x1).toNatClampNeg)], M)) sm_a17_113 rfl rfl rfl ?_
                    refine ru_go (t := (116, [some (.inr (some a0)), some (.inl x1), some (.inl x2), some (.inr (sm_R M b_10 (x1).toNatClampNeg))], [.inl 6, .inl x2, .inr (sm_R M b_10 (x1).toNatClampNeg)], M)) sm_a17_114 rfl rfl (st_bipush (by decide)) ?_
                    refine ru_go (t := (117, [some (.inr (some a0)), some (.inl x1), some (.inl x2), some (.inr (sm_R M b_10 (x1).toNatClampNeg))], [.inl (x2 - 6), .inr (sm_R M b_10 (x1).toNatClampNeg)], M)) sm_a17_116 rfl rfl rfl ?_
                    obtain ⟨b_45, hb_46, h⟩ := h
                    rw [hb_46]
                    obtain ⟨h_47, h⟩ := h
                    exact ru_call (p := 120) sm_a17_117 rfl (sc_virt (Or.inl rfl) rfl rfl h_47 (Nat.le_of_ble_eq_true rfl)) rfl h
                  · have h := h.2 hc_44
                    refine ru_go (t := (109, [some (.inr (some a0)), some (.inl x1), some (.inl x2), some (.inr (sm_R M b_10 (x1).toNatClampNeg))], [.inl (-1)], M)) sm_a17_108 rfl rfl (st_iconst (by decide)) ?_
                    refine ru_go (t := (120, [some (.inr (some a0)), some (.inl x1), some (.inl x2), some (.inr (sm_R M b_10 (x1).toNatClampNeg))], [.inl (-1)], M)) sm_a17_109 rfl rfl (st_goto (pc := 109) (by decide)) ?_
                    exact ru_ret sm_a17_120 rfl h
    · have h := h.2 hc_6
      refine ru_go (t := (16, [some (.inr (some a0)), some (.inl x1), some (.inl x2), z3], [.inl (-1)], M)) sm_a17_15 rfl rfl (st_iconst (by decide)) ?_
      exact ru_ret sm_a17_16 rfl h
theorem bb_17_120 {d : Nat} {M : sm_M} {Q : Option sm_V → sm_M → Prop} {a0 : Nat} {x1 : Int32} {x2 : Int32} {r3 : Option Nat} {y0 : Int32}
    (h : Q (some (.inl y0)) M) :
    sm_Run (d + 1) 17 120 [some (.inr (some a0)), some (.inl x1), some (.inl x2), some (.inr r3)] [.inl y0] M Q := by
  exact ru_ret sm_a17_120 rfl h

/-! WireBus.state:(II)I -/
theorem sm_a18_0 : sm_at 18 0 = some (.iload_n 1, 1, (0, 0, 0, 0)) := by decide +kernel
theorem sm_a18_1 : sm_at 18 1 = some (.invokestatic 63, 3, (12, 21, 0, 505)) := by decide +kernel
theorem sm_a18_4 : sm_at 18 4 = some (.ifCond .ne 5, 3, (0, 0, 0, 0)) := by decide +kernel
theorem sm_a18_7 : sm_at 18 7 = some (.iconst (-1), 1, (0, 0, 0, 0)) := by decide +kernel
theorem sm_a18_8 : sm_at 18 8 = some (.ireturn, 1, (0, 0, 0, 0)) := by decide +kernel
theorem sm_a18_9 : sm_at 18 9 = some (.aload_n 0, 1, (0, 0, 0, 0)) := by decide +kernel
theorem sm_a18_10 : sm_at 18 10 = some (.getfield 25, 3, (0, 3, 0, 464)) := by decide +kernel
theorem sm_a18_13 : sm_at 18 13 = some (.getfield 67, 3, (11, 3, 1, 310)) := by decide +kernel
theorem sm_a18_16 : sm_at 18 16 = some (.iload_n 1, 1, (0, 0, 0, 0)) := by decide +kernel
theorem sm_a18_17 : sm_at 18 17 = some (.aaload, 1, (0, 0, 0, 0)) := by decide +kernel
theorem sm_a18_18 : sm_at 18 18 = some (.astore_n 3, 1, (0, 0, 0, 0)) := by decide +kernel
theorem sm_a18_19 : sm_at 18 19 = some (.aload_n 0, 1, (0, 0, 0, 0)) := by decide +kernel
theorem sm_a18_20 : sm_at 18 20 = some (.getfield 32, 3, (0, 4, 0, 465)) := by decide +kernel
theorem sm_a18_23 : sm_at 18 23 = some (.getfield 205, 3, (6, 0, 1, 425)) := by decide +kernel
theorem sm_a18_26 : sm_at 18 26 = some (.iload_n 1, 1, (0, 0, 0, 0)) := by decide +kernel
theorem sm_a18_27 : sm_at 18 27 = some (.aaload, 1, (0, 0, 0, 0)) := by decide +kernel
theorem sm_a18_28 : sm_at 18 28 = some (.astore 4, 2, (0, 0, 0, 0)) := by decide +kernel
theorem sm_a18_30 : sm_at 18 30 = some (.iload_n 2, 1, (0, 0, 0, 0)) := by decide +kernel
theorem sm_a18_31 : sm_at 18 31 = some (.tableswitch 61 0 4 #[33, 38, 43, 49, 55], 33, (0, 0, 0, 0)) := by decide +kernel
theorem sm_a18_64 : sm_at 18 64 = some (.aload_n 3, 1, (0, 0, 0, 0)) := by decide +kernel
theorem sm_a18_65 : sm_at 18 65 = some (.getfield 71, 3, (4, 3, 1, 261)) := by decide +kernel
theorem sm_a18_68 : sm_at 18 68 = some (.ireturn, 1, (0, 0, 0, 0)) := by decide +kernel
theorem sm_a18_69 : sm_at 18 69 = some (.aload_n 3, 1, (0, 0, 0, 0)) := by decide +kernel
theorem sm_a18_70 : sm_at 18 70 = some (.getfield 209, 3, (4, 4, 1, 265)) := by decide +kernel
theorem sm_a18_73 : sm_at 18 73 = some (.ireturn, 1, (0, 0, 0, 0)) := by decide +kernel
theorem sm_a18_74 : sm_at 18 74 = some (.aload 4, 2, (0, 0, 0, 0)) := by decide +kernel
theorem sm_a18_76 : sm_at 18 76 = some (.getfield 210, 3, (8, 0, 1, 399)) := by decide +kernel
theorem sm_a18_79 : sm_at 18 79 = some (.ireturn, 1, (0, 0, 0, 0)) := by decide +kernel
theorem sm_a18_80 : sm_at 18 80 = some (.aload 4, 2, (0, 0, 0, 0)) := by decide +kernel
theorem sm_a18_82 : sm_at 18 82 = some (.getfield 215, 3, (8, 2, 1, 405)) := by decide +kernel
theorem sm_a18_85 : sm_at 18 85 = some (.ireturn, 1, (0, 0, 0, 0)) := by decide +kernel
theorem sm_a18_86 : sm_at 18 86 = some (.aload 4, 2, (0, 0, 0, 0)) := by decide +kernel
theorem sm_a18_88 : sm_at 18 88 = some (.getfield 218, 3, (8, 4, 1, 408)) := by decide +kernel
theorem sm_a18_91 : sm_at 18 91 = some (.ireturn, 1, (0, 0, 0, 0)) := by decide +kernel
theorem sm_a18_92 : sm_at 18 92 = some (.iload_n 2, 1, (0, 0, 0, 0)) := by decide +kernel
theorem sm_a18_93 : sm_at 18 93 = some (.iconst 5, 1, (0, 0, 0, 0)) := by decide +kernel
theorem sm_a18_94 : sm_at 18 94 = some (.if_icmp .lt 14, 3, (0, 0, 0, 0)) := by decide +kernel
theorem sm_a18_97 : sm_at 18 97 = some (.iload_n 2, 1, (0, 0, 0, 0)) := by decide +kernel
theorem sm_a18_98 : sm_at 18 98 = some (.iconst 5, 1, (0, 0, 0, 0)) := by decide +kernel
theorem sm_a18_99 : sm_at 18 99 = some (.isub, 1, (0, 0, 0, 0)) := by decide +kernel
theorem sm_a18_100 : sm_at 18 100 = some (.aload_n 3, 1, (0, 0, 0, 0)) := by decide +kernel
theorem sm_a18_101 : sm_at 18 101 = some (.getfield 219, 3, (4, 7, 1, 269)) := by decide +kernel
theorem sm_a18_104 : sm_at 18 104 = some (.arraylength, 1, (0, 0, 0, 0)) := by decide +kernel
theorem sm_a18_105 : sm_at 18 105 = some (.if_icmp .lt 7, 3, (0, 0, 0, 0)) := by decide +kernel
theorem sm_a18_108 : sm_at 18 108 = some (.iconst (-1), 1, (0, 0, 0, 0)) := by decide +kernel
theorem sm_a18_109 : sm_at 18 109 = some (.goto 11, 3, (0, 0, 0, 0)) := by decide +kernel
theorem sm_a18_112 : sm_at 18 112 = some (.aload_n 3, 1, (0, 0, 0, 0)) := by decide +kernel
theorem sm_a18_113 : sm_at 18 113 = some (.getfield 219, 3, (4, 7, 1, 269)) := by decide +kernel
theorem sm_a18_116 : sm_at 18 116 = some (.iload_n 2, 1, (0, 0, 0, 0)) := by decide +kernel
theorem sm_a18_117 : sm_at 18 117 = some (.iconst 5, 1, (0, 0, 0, 0)) := by decide +kernel
theorem sm_a18_118 : sm_at 18 118 = some (.isub, 1, (0, 0, 0, 0)) := by decide +kernel
theorem sm_a18_119 : sm_at 18 119 = some (.iaload, 1, (0, 0, 0, 0)) := by decide +kernel
theorem sm_a18_120 : sm_at 18 120 = some (.ireturn, 1, (0, 0, 0, 0)) := by decide +kernel
theorem bb_18_0 {d : Nat} {M : sm_M} {Q : Option sm_V → sm_M → Prop} {a0 : Nat} {x1 : Int32} {x2 : Int32} {z3 : Option sm_V} {z4 : Option sm_V}
    (h : sm_Run d 21 0 (sm_ent 21 [.inl x1]) [] M (fun v M1 => sm_Run (d + 1) 18 4 [some (.inr (some a0)), some (.inl x1), some (.inl x2), z3, z4] (v.toList ++ []) M1 Q)) :
    sm_Run (d + 1) 18 0 [some (.inr (some a0)), some (.inl x1), some (.inl x2), z3, z4] [] M Q := by
  refine ru_go (t := (1, [some (.inr (some a0)), some (.inl x1), some (.inl x2), z3, z4], [.inl x1], M)) sm_a18_0 rfl rfl rfl ?_
  exact ru_call (p := 4) sm_a18_1 rfl (sc_stat (Or.inl rfl) (Nat.le_of_ble_eq_true rfl) rfl rfl (Nat.le_of_ble_eq_true rfl)) rfl h
theorem bb_18_4 {d : Nat} {M : sm_M} {Q : Option sm_V → sm_M → Prop} {a0 : Nat} {x1 : Int32} {x2 : Int32} {z3 : Option sm_V} {z4 : Option sm_V} {y0 : Int32}
    (h : ((¬ y0 = 0 → sm_K M a0 = 3 ∧ ∃ b_3, sm_R M a0 3 = some b_3 ∧ sm_K M b_3 = 36 ∧ ∃ b_6, sm_R M b_3 3 = some b_6 ∧ (∃ ci, sm_K M b_6 = 4 + 3 * ci) ∧ sm_in_ M b_6 x1 ∧ ∃ b_10, sm_R M a0 4 = some b_10 ∧ sm_K M b_10 = 21 ∧ ∃ b_13, sm_R M b_10 0 = some b_13 ∧ (∃ ci, sm_K M b_13 = 4 + 3 * ci) ∧ sm_in_ M b_13 x1 ∧ ((x2 = 0 → ∃ b_18, sm_R M b_6 (x1).toNatClampNeg = some b_18 ∧ sm_K M b_18 = 15 ∧ Q (some (.inl (sm_I M b_18 3))) M) ∧ (x2 = 1 → ∃ b_22, sm_R M b_6 (x1).toNatClampNeg = some b_22 ∧ sm_K M b_22 = 15 ∧ Q (some (.inl (sm_I M b_22 4))) M) ∧ (x2 = 2 → ∃ b_26, sm_R M b_13 (x1).toNatClampNeg = some b_26 ∧ sm_K M b_26 = 27 ∧ Q (some (.inl (sm_I M b_26 0))) M) ∧ (x2 = 3 → ∃ b_30, sm_R M b_13 (x1).toNatClampNeg = some b_30 ∧ sm_K M b_30 = 27 ∧ Q (some (.inl (sm_I M b_30 2))) M) ∧ (x2 = 4 → ∃ b_34, sm_R M b_13 (x1).toNatClampNeg = some b_34 ∧ sm_K M b_34 = 27 ∧ Q (some (.inl (sm_I M b_34 4))) M) ∧ (¬ x2 = 0 → ¬ x2 = 1 → ¬ x2 = 2 → ¬ x2 = 3 → ¬ x2 = 4 → ((x2 < 5 → Q (some (.inl (-1))) M) ∧ (¬ (x2 < 5) → ∃ b_38, sm_R M b_6 (x1).toNatClampNeg = some b_38 ∧ sm_K M b_38 = 15 ∧ ∃ b_41, sm_R M b_38 7 = some b_41 ∧ (1 ≤ sm_K M b_41 ∧ sm_K M b_41 % 3 ≠ 0) ∧ (((x2 - 5) < (Int32.ofNat (sm_L M b_41)) → ∃ b_45, sm_R M b_38 7 = some b_45 ∧ sm_iA M b_45 ∧ sm_in_ M b_45 (x2 - 5) ∧ Q (some (.inl (sm_I M b_45 (x2 - 5).toNatClampNeg))) M) ∧ (¬ ((x2 - 5) < (Int32.ofNat (sm_L M b_41))) → Q (some (.inl (-1))) M))))))) ∧ (¬ (¬ y0 = 0) → Q (some (.inl (-1))) M))) :
    sm_Run (d + 1) 18 4 [some (.inr (some a0)), some (.inl x1), some (.inl x2), z3, z4] [.inl y0] M Q := by
  refine ru_if (pc := 4) (p := 9) (p2 := 7) sm_a18_4 (by decide) rfl ⟨fun hc_1 => ?_, fun hc_1 => ?_⟩
  · have h := h.1 hc_1
    refine ru_go (t := (10, [some (.inr (some a0)), some (.inl x1), some (.inl x2), z3, z4], [.inr (some a0)], M)) sm_a18_9 rfl rfl rfl ?_
    obtain ⟨h_2, h⟩ := h
    refine ru_go (t := (13, [some (.inr (some a0)), some (.inl x1), some (.inl x2), z3, z4], [.inr (sm_R M a0 3)], M)) sm_a18_10 rfl rfl (st_getR h_2 rfl rfl) ?_
    obtain ⟨b_3, hb_4, h⟩ := h
    rw [hb_4]
    obtain ⟨h_5, h⟩ := h
    refine ru_go (t := (16, [some (.inr (some a0)), some (.inl x1), some (.inl x2), z3, z4], [.inr (sm_R M b_3 3)], M)) sm_a18_13 rfl rfl (st_getR h_5 rfl rfl) ?_
    refine ru_go (t := (17, [some (.inr (some a0)), some (.inl x1), some (.inl x2), z3, z4], [.inl x1, .inr (sm_R M b_3 3)], M)) sm_a18_16 rfl rfl rfl ?_
    obtain ⟨b_6, hb_7, h⟩ := h
    rw [hb_7]
    obtain ⟨h_8, h⟩ := h
    obtain ⟨h_9, h⟩ := h
    refine ru_go (t := (18, [some (.inr (some a0)), some (.inl x1), some (.inl x2), z3, z4], [.inr (sm_R M b_6 (x1).toNatClampNeg)], M)) sm_a18_17 rfl rfl (st_aald h_8.choose_spec h_9 rfl) ?_
    refine ru_go (t := (19, [some (.inr (some a0)), some (.inl x1), some (.inl x2), some (.inr (sm_R M b_6 (x1).toNatClampNeg)), z4], [], M)) sm_a18_18 rfl rfl rfl ?_
    refine ru_go (t := (20, [some (.inr (some a0)), some (.inl x1), some (.inl x2), some (.inr (sm_R M b_6 (x1).toNatClampNeg)), z4], [.inr (some a0)], M)) sm_a18_19 rfl rfl rfl ?_
    refine ru_go (t := (23, [some (.inr (some a0)), some (.inl x1), some (.inl x2), some (.inr (sm_R M b_6 (x1).toNatClampNeg)), z4], [.inr (sm_R M a0 4)], M)) sm_a18_20 rfl rfl (st_getR h_2 rfl rfl) ?_
    obtain ⟨b_10, hb_11, h⟩ := h
    rw [hb_11]
    obtain ⟨h_12, h⟩ := h
    refine ru_go (t := (26, [some (.inr (some a0)), some (.inl x1), some (.inl x2), some (.inr (sm_R M b_6 (x1).toNatClampNeg)), z4], [.inr (sm_R M b_10 0)], M)) sm_a18_23 rfl rfl (st_getR h_12 rfl rfl) ?_
    refine ru_go (t := (27, [some (.inr (some a0)), some (.inl x1), some (.inl x2), some (.inr (sm_R M b_6 (x1).toNatClampNeg)), z4], [.inl x1, .inr (sm_R M b_10 0)], M)) sm_a18_26 rfl rfl rfl ?_
    obtain ⟨b_13, hb_14, h⟩ := h
    rw [hb_14]
    obtain ⟨h_15, h⟩ := h
    obtain ⟨h_16, h⟩ := h
    refine ru_go (t := (28, [some (.inr (some a0)), some (.inl x1), some (.inl x2), some (.inr (sm_R M b_6 (x1).toNatClampNeg)), z4], [.inr (sm_R M b_13 (x1).toNatClampNeg)], M)) sm_a18_27 rfl rfl (st_aald h_15.choose_spec h_16 rfl) ?_
    refine ru_go (t := (30, [some (.inr (some a0)), some (.inl x1), some (.inl x2), some (.inr (sm_R M b_6 (x1).toNatClampNeg)), some (.inr (sm_R M b_13 (x1).toNatClampNeg))], [], M)) sm_a18_28 rfl rfl rfl ?_
    refine ru_go (t := (31, [some (.inr (some a0)), some (.inl x1), some (.inl x2), some (.inr (sm_R M b_6 (x1).toNatClampNeg)), some (.inr (sm_R M b_13 (x1).toNatClampNeg))], [.inl x2], M)) sm_a18_30 rfl rfl rfl ?_
    by_cases hc_17 : x2 = 0
    · have h := h.1 hc_17
      refine ru_tsw (pc := 31) (v := 0) (p := 64) sm_a18_31 hc_17 (by decide) ?_
      refine ru_go (t := (65, [some (.inr (some a0)), some (.inl x1), some (.inl x2), some (.inr (sm_R M b_6 (x1).toNatClampNeg)), some (.inr (sm_R M b_13 (x1).toNatClampNeg))], [.inr (sm_R M b_6 (x1).toNatClampNeg)], M)) sm_a18_64 rfl rfl rfl ?_
      obtain ⟨b_18, hb_19, h⟩ := h
      rw [hb_19]
      obtain ⟨h_20, h⟩ := h
      refine ru_go (t := (68, [some (.inr (some a0)), some (.inl x1), some (.inl x2), some (.inr (some b_18)), some (.inr (sm_R M b_13 (x1).toNatClampNeg))], [.inl (sm_I M b_18 3)], M)) sm_a18_65 rfl rfl (st_getI h_20 rfl) ?_
      exact ru_ret sm_a18_68 rfl h
    · by_cases hc_21 : x2 = 1
      · have h := h.2.1 hc_21
        refine ru_tsw (pc := 31) (v := 1) (p := 69) sm_a18_31 hc_21 (by decide) ?_
        refine ru_go (t := (70, [some (.inr (some a0)), some (.inl x1), some (.inl x2), some (.inr (sm_R M b_6 (x1).toNatClampNeg)), some (.inr (sm_R M b_13 (x1).toNatClampNeg))], [.inr (sm_R M b_6 (x1).toNatClampNeg)], M)) sm_a18_69 rfl rfl rfl ?_
        obtain ⟨b_22, hb_23, h⟩ := h
        rw [hb_23]
        obtain ⟨h_24, h⟩ := h
        refine ru_go (t := (73, [some (.inr (some a0)), some (.inl x1), some (.inl x2), some (.inr (some b_22)), some (.inr (sm_R M b_13 (x1).toNatClampNeg))], [.inl (sm_I M b_22 4)], M)) sm_a18_70 rfl rfl (st_getI h_24 rfl) ?_
        exact ru_ret sm_a18_73 rfl h
      · by_cases hc_25 : x2 = 2
        · have h := h.2.2.1 hc_25
          refine ru_tsw (pc := 31) (v := 2) (p := 74) sm_a18_31 hc_25 (by decide) ?_
          refine ru_go (t := (76, [some (.inr (some a0)), some (.inl x1), some (.inl x2), some (.inr (sm_R M b_6 (x1).toNatClampNeg)), some (.inr (sm_R M b_13 (x1).toNatClampNeg))], [.inr (sm_R M b_13 (x1).toNatClampNeg)], M)) sm_a18_74 rfl rfl rfl ?_
          obtain ⟨b_26, hb_27, h⟩ := h
          rw [hb_27]
          obtain ⟨h_28, h⟩ := h
          refine ru_go (t := (79, [some (.inr (some a0)), some (.inl x1), some (.inl x2), some (.inr (sm_R M b_6 (x1).toNatClampNeg)), some (.inr (some b_26))], [.inl (sm_I M b_26 0)], M)) sm_a18_76 rfl rfl (st_getI h_28 rfl) ?_
          exact ru_ret sm_a18_79 rfl h
        · by_cases hc_29 : x2 = 3
          · have h := h.2.2.2.1 hc_29
            refine ru_tsw (pc := 31) (v := 3) (p := 80) sm_a18_31 hc_29 (by decide) ?_
            refine ru_go (t := (82, [some (.inr (some a0)), some (.inl x1), some (.inl x2), some (.inr (sm_R M b_6 (x1).toNatClampNeg)), some (.inr (sm_R M b_13 (x1).toNatClampNeg))], [.inr (sm_R M b_13 (x1).toNatClampNeg)], M)) sm_a18_80 rfl rfl rfl ?_
            obtain ⟨b_30, hb_31, h⟩ := h
            rw [hb_31]
            obtain ⟨h_32, h⟩ := h
            refine ru_go (t := (85, [some (.inr (some a0)), some (.inl x1), some (.inl x2), some (.inr (sm_R M b_6 (x1).toNatClampNeg)), some (.inr (some b_30))], [.inl (sm_I M b_30 2)], M)) sm_a18_82 rfl rfl (st_getI h_32 rfl) ?_
            exact ru_ret sm_a18_85 rfl h
          · by_cases hc_33 : x2 = 4
            · have h := h.2.2.2.2.1 hc_33
              refine ru_tsw (pc := 31) (v := 4) (p := 86) sm_a18_31 hc_33 (by decide) ?_
              refine ru_go (t := (88, [some (.inr (some a0)), some (.inl x1), some (.inl x2), some (.inr (sm_R M b_6 (x1).toNatClampNeg)), some (.inr (sm_R M b_13 (x1).toNatClampNeg))], [.inr (sm_R M b_13 (x1).toNatClampNeg)], M)) sm_a18_86 rfl rfl rfl ?_
              obtain ⟨b_34, hb_35, h⟩ := h
              rw [hb_35]
              obtain ⟨h_36, h⟩ := h
              refine ru_go (t := (91, [some (.inr (some a0)), some (.inl x1), some (.inl x2), some (.inr (sm_R M b_6 (x1).toNatClampNeg)), some (.inr (some b_34))], [.inl (sm_I M b_34 4)], M)) sm_a18_88 rfl rfl (st_getI h_36 rfl) ?_
              exact ru_ret sm_a18_91 rfl h
            · have h := h.2.2.2.2.2 hc_17 hc_21 hc_25 hc_29 hc_33
              have zhc_17 := sm_ne_toInt hc_17; rw [show (0 : Int32).toInt = 0 by decide] at zhc_17
              have zhc_21 := sm_ne_toInt hc_21; rw [show (1 : Int32).toInt = 1 by decide] at zhc_21
              have zhc_25 := sm_ne_toInt hc_25; rw [show (2 : Int32).toInt = 2 by decide] at zhc_25
              have zhc_29 := sm_ne_toInt hc_29; rw [show (3 : Int32).toInt = 3 by decide] at zhc_29
              have zhc_33 := sm_ne_toInt hc_33; rw [show (4 : Int32).toInt = 4 by decide] at zhc_33
              refine ru_tswd (pc := 31) (p := 92) sm_a18_31 (by omega) (by decide) ?_
              refine ru_go (t := (93, [some (.inr (some a0)), some (.inl x1), some (.inl x2), some (.inr (sm_R M b_6 (x1).toNatClampNeg)), some (.inr (sm_R M b_13 (x1).toNatClampNeg))], [.inl x2], M)) sm_a18_92 rfl rfl rfl ?_
              refine ru_go (t := (94, [some (.inr (some a0)), some (.inl x1), some (.inl x2), some (.inr (sm_R M b_6 (x1).toNatClampNeg)), some (.inr (sm_R M b_13 (x1).toNatClampNeg))], [.inl 5, .inl x2], M)) sm_a18_93 rfl rfl (st_iconst (by decide)) ?_
              refine ru_icmp (pc := 94) (p := 108) (p2 := 97) sm_a18_94 (by decide) rfl ⟨fun hc_37 => ?_, fun hc_37 => ?_⟩
              · have h := h.1 hc_37
                refine ru_go (t := (109, [some (.inr (some a0)), some (.inl x1), some (.inl x2), some (.inr (sm_R M b_6 (x1).toNatClampNeg)), some (.inr (sm_R M b_13 (x1).toNatClampNeg))], [.inl (-1)], M)) sm_a18_108 rfl rfl (st_iconst (by decide)) ?_
                refine ru_go (t := (120, [some (.inr (some a0)), some (.inl x1), some (.inl x2), some (.inr (sm_R M b_6 (x1).toNatClampNeg)), some (.inr (sm_R M b_13 (x1).toNatClampNeg))], [.inl (-1)], M)) sm_a18_109 rfl rfl (st_goto (pc := 109) (by decide)) ?_
                exact ru_ret sm_a18_120 rfl h
              · have h := h.2 hc_37
                refine ru_go (t := (98, [some (.inr (some a0)), some (.inl x1), some (.inl x2), some (.inr (sm_R M b_6 (x1).toNatClampNeg)), some (.inr (sm_R M b_13 (x1).toNatClampNeg))], [.inl x2], M)) sm_a18_97 rfl rfl rfl ?_
                refine ru_go (t := (99, [some (.inr (some a0)), some (.inl x1), some (.inl x2), some (.inr (sm_R M b_6 (x1).toNatClampNeg)), some (.inr (sm_R M b_13 (x1).toNatClampNeg))], [.inl 5, .inl x2], M)) sm_a18_98 rfl rfl (st_iconst (by decide)) ?_
                refine ru_go (t := (100, [some (.inr (some a0)), some (.inl x1), some (.inl x2), some (.inr (sm_R M b_6 (x1).toNatClampNeg)), some (.inr (sm_R M b_13 (x1).toNatClampNeg))], [.inl (x2 - 5)], M)) sm_a18_99 rfl rfl rfl ?_
                refine ru_go (t := (101, [some (.inr (some a0)), some (.inl x1), some (.inl x2), some (.inr (sm_R M b_6 (x1).toNatClampNeg)), some (.inr (sm_R M b_13 (x1).toNatClampNeg))], [.inr (sm_R M b_6 (x1).toNatClampNeg), .inl (x2 - 5)], M)) sm_a18_100 rfl rfl rfl ?_
                obtain ⟨b_38, hb_39, h⟩ := h
                rw [hb_39]
                obtain ⟨h_40, h⟩ := h
                refine ru_go (t := (104, [some (.inr (some a0)), some (.inl x1), some (.inl x2), some (.inr (some b_38)), some (.inr (sm_R M b_13 (x1).toNatClampNeg))], [.inr (sm_R M b_38 7), .inl (x2 - 5)], M)) sm_a18_101 rfl rfl (st_getR h_40 rfl rfl) ?_
                obtain ⟨b_41, hb_42, h⟩ := h
                rw [hb_42]
                obtain ⟨h_43, h⟩ := h
                refine ru_go (t := (105, [some (.inr (some a0)), some (.inl x1), some (.inl x2), some (.inr (some b_38)), some (.inr (sm_R M b_13 (x1).toNatClampNeg))], [.inl (Int32.ofNat (sm_L M b_41)), .inl (x2 - 5)], M)) sm_a18_104 rfl rfl (st_alen h_43) ?_
                refine ru_icmp (pc := 105) (p := 112) (p2 := 108) sm_a18_105 (by decide) rfl ⟨fun hc_44 => ?_, fun hc_44 => ?_⟩
                · have h := h.1 hc_44
                  refine ru_go (t := (113, [some (.inr (some a0)), some (.inl x1), some (.inl x2), some (.inr (some b_38)), some (.inr (sm_R M b_13 (x1).toNatClampNeg))], [.inr (some b_38)], M)) sm_a18_112 rfl rfl rfl ?_
                  refine ru_go (t := (116, [some (.inr (some a0)), some (.inl x1), some (.inl x2), some (.inr (some b_38)), some (.inr (sm_R M b_13 (x1).toNatClampNeg))], [.inr (sm_R M b_38 7)], M)) sm_a18_113 rfl rfl (st_getR h_40 rfl rfl) ?_
                  refine ru_go (t := (117, [some (.inr (some a0)), some (.inl x1), some (.inl x2), some (.inr (some b_38)), some (.inr (sm_R M b_13 (x1).toNatClampNeg))], [.inl x2, .inr (sm_R M b_38 7)], M)) sm_a18_116 rfl rfl rfl ?_
                  refine ru_go (t := (118, [some (.inr (some a0)), some (.inl x1), some (.inl x2), some (.inr (some b_38)), some (.inr (sm_R M b_13 (x1).toNatClampNeg))], [.inl 5, .inl x2, .inr (sm_R M b_38 7)], M)) sm_a18_117 rfl rfl (st_iconst (by decide)) ?_
                  refine ru_go (t := (119, [some (.inr (some a0)), some (.inl x1), some (.inl x2), some (.inr (some b_38)), some (.inr (sm_R M b_13 (x1).toNatClampNeg))], [.inl (x2 - 5), .inr (sm_R M b_38 7)], M)) sm_a18_118 rfl rfl rfl ?_
                  obtain ⟨b_45, hb_46, h⟩ := h
                  rw [hb_46]
                  obtain ⟨h_47, h⟩ := h
                  obtain ⟨h_48, h⟩ := h
                  refine ru_go (t := (120, [some (.inr (some a0)), some (.inl x1), some (.inl x2), some (.inr (some b_38)), some (.inr (sm_R M b_13 (x1).toNatClampNeg))], [.inl (sm_I M b_45 (x2 - 5).toNatClampNeg)], M)) sm_a18_119 rfl rfl (st_iald h_47 h_48) ?_
                  exact ru_ret sm_a18_120 rfl h
                · have h := h.2 hc_44
                  refine ru_go (t := (109, [some (.inr (some a0)), some (.inl x1), some (.inl x2), some (.inr (some b_38)), some (.inr (sm_R M b_13 (x1).toNatClampNeg))], [.inl (-1)], M)) sm_a18_108 rfl rfl (st_iconst (by decide)) ?_
                  refine ru_go (t := (120, [some (.inr (some a0)), some (.inl x1), some (.inl x2), some (.inr (some b_38)), some (.inr (sm_R M b_13 (x1).toNatClampNeg))], [.inl (-1)], M)) sm_a18_109 rfl rfl (st_goto (pc := 109) (by decide)) ?_
                  exact ru_ret sm_a18_120 rfl h
  · have h := h.2 hc_1
    refine ru_go (t := (8, [some (.inr (some a0)), some (.inl x1), some (.inl x2), z3, z4], [.inl (-1)], M)) sm_a18_7 rfl rfl (st_iconst (by decide)) ?_
    exact ru_ret sm_a18_8 rfl h

/-! WireBus.point:(III)I -/
theorem sm_a19_0 : sm_at 19 0 = some (.iload_n 1, 1, (0, 0, 0, 0)) := by decide +kernel
theorem sm_a19_1 : sm_at 19 1 = some (.invokestatic 63, 3, (12, 21, 0, 505)) := by decide +kernel
theorem sm_a19_4 : sm_at 19 4 = some (.ifCond .ne 5, 3, (0, 0, 0, 0)) := by decide +kernel
theorem sm_a19_7 : sm_at 19 7 = some (.iconst (-1), 1, (0, 0, 0, 0)) := by decide +kernel
theorem sm_a19_8 : sm_at 19 8 = some (.ireturn, 1, (0, 0, 0, 0)) := by decide +kernel
theorem sm_a19_9 : sm_at 19 9 = some (.aload_n 0, 1, (0, 0, 0, 0)) := by decide +kernel
theorem sm_a19_10 : sm_at 19 10 = some (.getfield 25, 3, (0, 3, 0, 464)) := by decide +kernel
theorem sm_a19_13 : sm_at 19 13 = some (.getfield 67, 3, (11, 3, 1, 310)) := by decide +kernel
theorem sm_a19_16 : sm_at 19 16 = some (.iload_n 1, 1, (0, 0, 0, 0)) := by decide +kernel
theorem sm_a19_17 : sm_at 19 17 = some (.aaload, 1, (0, 0, 0, 0)) := by decide +kernel
theorem sm_a19_18 : sm_at 19 18 = some (.iload_n 2, 1, (0, 0, 0, 0)) := by decide +kernel
theorem sm_a19_19 : sm_at 19 19 = some (.invokevirtual 158, 3, (10, 62, 4, 1121)) := by decide +kernel
theorem sm_a19_22 : sm_at 19 22 = some (.astore 4, 2, (0, 0, 0, 0)) := by decide +kernel
theorem sm_a19_24 : sm_at 19 24 = some (.aload 4, 2, (0, 0, 0, 0)) := by decide +kernel
theorem sm_a19_26 : sm_at 19 26 = some (.ifnonnull 5, 3, (0, 0, 0, 0)) := by decide +kernel
theorem sm_a19_29 : sm_at 19 29 = some (.iconst (-1), 1, (0, 0, 0, 0)) := by decide +kernel
theorem sm_a19_30 : sm_at 19 30 = some (.ireturn, 1, (0, 0, 0, 0)) := by decide +kernel
theorem sm_a19_31 : sm_at 19 31 = some (.aload_n 0, 1, (0, 0, 0, 0)) := by decide +kernel
theorem sm_a19_32 : sm_at 19 32 = some (.getfield 32, 3, (0, 4, 0, 465)) := by decide +kernel
theorem sm_a19_35 : sm_at 19 35 = some (.getfield 205, 3, (6, 0, 1, 425)) := by decide +kernel
theorem sm_a19_38 : sm_at 19 38 = some (.iload_n 1, 1, (0, 0, 0, 0)) := by decide +kernel
theorem sm_a19_39 : sm_at 19 39 = some (.aaload, 1, (0, 0, 0, 0)) := by decide +kernel
theorem sm_a19_40 : sm_at 19 40 = some (.iload_n 2, 1, (0, 0, 0, 0)) := by decide +kernel
theorem sm_a19_41 : sm_at 19 41 = some (.invokevirtual 222, 3, (10, 114, 8, 1152)) := by decide +kernel
theorem sm_a19_44 : sm_at 19 44 = some (.astore 5, 2, (0, 0, 0, 0)) := by decide +kernel
theorem sm_a19_46 : sm_at 19 46 = some (.iload_n 3, 1, (0, 0, 0, 0)) := by decide +kernel
theorem sm_a19_47 : sm_at 19 47 = some (.tableswitch 100 0 4 #[33, 39, 53, 62, 77], 33, (0, 0, 0, 0)) := by decide +kernel
theorem sm_a19_80 : sm_at 19 80 = some (.aload 4, 2, (0, 0, 0, 0)) := by decide +kernel
theorem sm_a19_82 : sm_at 19 82 = some (.getfield 225, 3, (5, 3, 1, 545)) := by decide +kernel
theorem sm_a19_85 : sm_at 19 85 = some (.ireturn, 1, (0, 0, 0, 0)) := by decide +kernel
theorem sm_a19_86 : sm_at 19 86 = some (.aload 4, 2, (0, 0, 0, 0)) := by decide +kernel
theorem sm_a19_88 : sm_at 19 88 = some (.getfield 228, 3, (5, 4, 1, 548)) := by decide +kernel
theorem sm_a19_91 : sm_at 19 91 = some (.ifCond .eq 7, 3, (0, 0, 0, 0)) := by decide +kernel
theorem sm_a19_94 : sm_at 19 94 = some (.iconst 1, 1, (0, 0, 0, 0)) := by decide +kernel
theorem sm_a19_95 : sm_at 19 95 = some (.goto 4, 3, (0, 0, 0, 0)) := by decide +kernel
theorem sm_a19_98 : sm_at 19 98 = some (.iconst 0, 1, (0, 0, 0, 0)) := by decide +kernel
theorem sm_a19_99 : sm_at 19 99 = some (.ireturn, 1, (0, 0, 0, 0)) := by decide +kernel
theorem sm_a19_100 : sm_at 19 100 = some (.aload 4, 2, (0, 0, 0, 0)) := by decide +kernel
theorem sm_a19_102 : sm_at 19 102 = some (.getfield 150, 3, (5, 6, 1, 552)) := by decide +kernel
theorem sm_a19_105 : sm_at 19 105 = some (.getfield 60, 3, (1, 2, 1, 117)) := by decide +kernel
theorem sm_a19_108 : sm_at 19 108 = some (.ireturn, 1, (0, 0, 0, 0)) := by decide +kernel
theorem sm_a19_109 : sm_at 19 109 = some (.aload 5, 2, (0, 0, 0, 0)) := by decide +kernel
theorem sm_a19_111 : sm_at 19 111 = some (.ifnonnull 7, 3, (0, 0, 0, 0)) := by decide +kernel
theorem sm_a19_114 : sm_at 19 114 = some (.iconst (-1), 1, (0, 0, 0, 0)) := by decide +kernel
theorem sm_a19_115 : sm_at 19 115 = some (.goto 8, 3, (0, 0, 0, 0)) := by decide +kernel
theorem sm_a19_118 : sm_at 19 118 = some (.aload 5, 2, (0, 0, 0, 0)) := by decide +kernel
theorem sm_a19_120 : sm_at 19 120 = some (.getfield 232, 3, (9, 5, 1, 370)) := by decide +kernel
theorem sm_a19_123 : sm_at 19 123 = some (.ireturn, 1, (0, 0, 0, 0)) := by decide +kernel
theorem sm_a19_124 : sm_at 19 124 = some (.aload 5, 2, (0, 0, 0, 0)) := by decide +kernel
theorem sm_a19_126 : sm_at 19 126 = some (.ifnonnull 7, 3, (0, 0, 0, 0)) := by decide +kernel
theorem sm_a19_129 : sm_at 19 129 = some (.iconst 0, 1, (0, 0, 0, 0)) := by decide +kernel
theorem sm_a19_130 : sm_at 19 130 = some (.goto 16, 3, (0, 0, 0, 0)) := by decide +kernel
theorem sm_a19_133 : sm_at 19 133 = some (.aload 5, 2, (0, 0, 0, 0)) := by decide +kernel
theorem sm_a19_135 : sm_at 19 135 = some (.getfield 233, 3, (9, 4, 1, 367)) := by decide +kernel
theorem sm_a19_138 : sm_at 19 138 = some (.ifCond .eq 7, 3, (0, 0, 0, 0)) := by decide +kernel
theorem sm_a19_141 : sm_at 19 141 = some (.iconst 1, 1, (0, 0, 0, 0)) := by decide +kernel
theorem sm_a19_142 : sm_at 19 142 = some (.goto 4, 3, (0, 0, 0, 0)) := by decide +kernel
theorem sm_a19_145 : sm_at 19 145 = some (.iconst 2, 1, (0, 0, 0, 0)) := by decide +kernel
theorem sm_a19_146 : sm_at 19 146 = some (.ireturn, 1, (0, 0, 0, 0)) := by decide +kernel
theorem sm_a19_147 : sm_at 19 147 = some (.iconst (-1), 1, (0, 0, 0, 0)) := by decide +kernel
theorem sm_a19_148 : sm_at 19 148 = some (.ireturn, 1, (0, 0, 0, 0)) := by decide +kernel
theorem bb_19_0 {d : Nat} {M : sm_M} {Q : Option sm_V → sm_M → Prop} {a0 : Nat} {x1 : Int32} {x2 : Int32} {x3 : Int32} {z4 : Option sm_V} {z5 : Option sm_V}
    (h : sm_Run d 21 0 (sm_ent 21 [.inl x1]) [] M (fun v M1 => sm_Run (d + 1) 19 4 [some (.inr (some a0)), some (.inl x1), some (.inl x2), some (.inl x3), z4, z5] (v.toList ++ []) M1 Q)) :
    sm_Run (d + 1) 19 0 [some (.inr (some a0)), some (.inl x1), some (.inl x2), some (.inl x3), z4, z5] [] M Q := by
  refine ru_go (t := (1, [some (.inr (some a0)), some (.inl x1), some (.inl x2), some (.inl x3), z4, z5], [.inl x1], M)) sm_a19_0 rfl rfl rfl ?_
  exact ru_call (p := 4) sm_a19_1 rfl (sc_stat (Or.inl rfl) (Nat.le_of_ble_eq_true rfl) rfl rfl (Nat.le_of_ble_eq_true rfl)) rfl h
theorem bb_19_4 {d : Nat} {M : sm_M} {Q : Option sm_V → sm_M → Prop} {a0 : Nat} {x1 : Int32} {x2 : Int32} {x3 : Int32} {z4 : Option sm_V} {z5 : Option sm_V} {y0 : Int32}
    (h : ((¬ y0 = 0 → sm_K M a0 = 3 ∧ ∃ b_3, sm_R M a0 3 = some b_3 ∧ sm_K M b_3 = 36 ∧ ∃ b_6, sm_R M b_3 3 = some b_6 ∧ (∃ ci, sm_K M b_6 = 4 + 3 * ci) ∧ sm_in_ M b_6 x1 ∧ ∃ b_10, sm_R M b_6 (x1).toNatClampNeg = some b_10 ∧ sm_K M b_10 = 15 ∧ sm_Run d 62 0 (sm_ent 62 [.inr (some b_10), .inl x2]) [] M (fun v M1 => sm_Run (d + 1) 19 22 [some (.inr (some a0)), some (.inl x1), some (.inl x2), some (.inl x3), z4, z5] (v.toList ++ []) M1 Q)) ∧ (¬ (¬ y0 = 0) → Q (some (.inl (-1))) M))) :
    sm_Run (d + 1) 19 4 [some (.inr (some a0)), some (.inl x1), some (.inl x2), some (.inl x3), z4, z5] [.inl y0] M Q := by
  refine ru_if (pc := 4) (p := 9) (p2 := 7) sm_a19_4 (by decide) rfl ⟨fun hc_1 => ?_, fun hc_1 => ?_⟩
  · have h := h.1 hc_1
    refine ru_go (t := (10, [some (.inr (some a0)), some (.inl x1), some (.inl x2), some (.inl x3), z4, z5], [.inr (some a0)], M)) sm_a19_9 rfl rfl rfl ?_
    obtain ⟨h_2, h⟩ := h
    refine ru_go (t := (13, [some (.inr (some a0)), some (.inl x1), some (.inl x2), some (.inl x3), z4, z5], [.inr (sm_R M a0 3)], M)) sm_a19_10 rfl rfl (st_getR h_2 rfl rfl) ?_
    obtain ⟨b_3, hb_4, h⟩ := h
    rw [hb_4]
    obtain ⟨h_5, h⟩ := h
    refine ru_go (t := (16, [some (.inr (some a0)), some (.inl x1), some (.inl x2), some (.inl x3), z4, z5], [.inr (sm_R M b_3 3)], M)) sm_a19_13 rfl rfl (st_getR h_5 rfl rfl) ?_
    refine ru_go (t := (17, [some (.inr (some a0)), some (.inl x1), some (.inl x2), some (.inl x3), z4, z5], [.inl x1, .inr (sm_R M b_3 3)], M)) sm_a19_16 rfl rfl rfl ?_
    obtain ⟨b_6, hb_7, h⟩ := h
    rw [hb_7]
    obtain ⟨h_8, h⟩ := h
    obtain ⟨h_9, h⟩ := h
    refine ru_go (t := (18, [some (.inr (some a0)), some (.inl x1), some (.inl x2), some (.inl x3), z4, z5], [.inr (sm_R M b_6 (x1).toNatClampNeg)], M)) sm_a19_17 rfl rfl (st_aald h_8.choose_spec h_9 rfl) ?_
    refine ru_go (t := (19, [some (.inr (some a0)), some (.inl x1), some (.inl x2), some (.inl x3), z4, z5], [.inl x2, .inr (sm_R M b_6 (x1).toNatClampNeg)], M)) sm_a19_18 rfl rfl rfl ?_
    obtain ⟨b_10, hb_11, h⟩ := h
    rw [hb_11]
    obtain ⟨h_12, h⟩ := h
    exact ru_call (p := 22) sm_a19_19 rfl (sc_virt (Or.inl rfl) rfl rfl h_12 (Nat.le_of_ble_eq_true rfl)) rfl h
  · have h := h.2 hc_1
    refine ru_go (t := (8, [some (.inr (some a0)), some (.inl x1), some (.inl x2), some (.inl x3), z4, z5], [.inl (-1)], M)) sm_a19_7 rfl rfl (st_iconst (by decide)) ?_
    exact ru_ret sm_a19_8 rfl h
theorem bb_19_22 {d : Nat} {M : sm_M} {Q : Option sm_V → sm_M → Prop} {a0 : Nat} {x1 : Int32} {x2 : Int32} {x3 : Int32} {z4 : Option sm_V} {z5 : Option sm_V} {t0 : Option Nat}
    (h : ((t0 = none → Q (some (.inl (-1))) M) ∧ (∀ b_1, t0 = some b_1 → sm_K M a0 = 3 ∧ ∃ b_4, sm_R M a0 4 = some b_4 ∧ sm_K M b_4 = 21 ∧ ∃ b_7, sm_R M b_4 0 = some b_7 ∧ (∃ ci, sm_K M b_7 = 4 + 3 * ci) ∧ sm_in_ M b_7 x1 ∧ ∃ b_11, sm_R M b_7 (x1).toNatClampNeg = some b_11 ∧ sm_K M b_11 = 27 ∧ sm_Run d 114 0 (sm_ent 114 [.inr (some b_11), .inl x2]) [] M (fun v M1 => sm_Run (d + 1) 19 44 [some (.inr (some a0)), some (.inl x1), some (.inl x2), some (.inl x3), some (.inr (some b_1)), z5] (v.toList ++ []) M1 Q)))) :
    sm_Run (d + 1) 19 22 [some (.inr (some a0)), some (.inl x1), some (.inl x2), some (.inl x3), z4, z5] [.inr t0] M Q := by
  refine ru_go (t := (24, [some (.inr (some a0)), some (.inl x1), some (.inl x2), some (.inl x3), some (.inr t0), z5], [], M)) sm_a19_22 rfl rfl rfl ?_
  refine ru_go (t := (26, [some (.inr (some a0)), some (.inl x1), some (.inl x2), some (.inl x3), some (.inr t0), z5], [.inr t0], M)) sm_a19_24 rfl rfl rfl ?_
  refine ru_ifnonnull (pc := 26) (p := 31) (p2 := 29) sm_a19_26 (by decide) rfl ⟨fun b_1 hc => ?_, fun hc => ?_⟩
  · have h := h.2 b_1 hc
    try rw [hc]
    refine ru_go (t := (32, [some (.inr (some a0)), some (.inl x1), some (.inl x2), some (.inl x3), some (.inr (some b_1)), z5], [.inr (some a0)], M)) sm_a19_31 rfl rfl rfl ?_
    obtain ⟨h_3, h⟩ := h
    refine ru_go (t := (35, [some (.inr (some a0)), some (.inl x1), some (.inl x2), some (.inl x3), some (.inr (some b_1)), z5], [.inr (sm_R M a0 4)], M)) sm_a19_32 rfl rfl (st_getR h_3 rfl rfl) ?_
    obtain ⟨b_4, hb_5, h⟩ := h
    rw [hb_5]
    obtain ⟨h_6, h⟩ := h
    refine ru_go (t := (38, [some (.inr (some a0)), some (.inl x1), some (.inl x2), some (.inl x3), some (.inr (some b_1)), z5], [.inr (sm_R M b_4 0)], M)) sm_a19_35 rfl rfl (st_getR h_6 rfl rfl) ?_
    refine ru_go (t := (39, [some (.inr (some a0)), some (.inl x1), some (.inl x2), some (.inl x3), some (.inr (some b_1)), z5], [.inl x1, .inr (sm_R M b_4 0)], M)) sm_a19_38 rfl rfl rfl ?_
    obtain ⟨b_7, hb_8, h⟩ := h
    rw [hb_8]
    obtain ⟨h_9, h⟩ := h
    obtain ⟨h_10, h⟩ := h
    refine ru_go (t := (40, [some (.inr (some a0)), some (.inl x1), some (.inl x2), some (.inl x3), some (.inr (some b_1)), z5], [.inr (sm_R M b_7 (x1).toNatClampNeg)], M)) sm_a19_39 rfl rfl (st_aald h_9.choose_spec h_10 rfl) ?_
    refine ru_go (t := (41, [some (.inr (some a0)), some (.inl x1), some (.inl x2), some (.inl x3), some (.inr (some b_1)), z5], [.inl x2, .inr (sm_R M b_7 (x1).toNatClampNeg)], M)) sm_a19_40 rfl rfl rfl ?_
    obtain ⟨b_11, hb_12, h⟩ := h
    rw [hb_12]
    obtain ⟨h_13, h⟩ := h
    exact ru_call (p := 44) sm_a19_41 rfl (sc_virt (Or.inl rfl) rfl rfl h_13 (Nat.le_of_ble_eq_true rfl)) rfl h
  · have h := h.1 hc
    try rw [hc]
    refine ru_go (t := (30, [some (.inr (some a0)), some (.inl x1), some (.inl x2), some (.inl x3), some (.inr none), z5], [.inl (-1)], M)) sm_a19_29 rfl rfl (st_iconst (by decide)) ?_
    exact ru_ret sm_a19_30 rfl h
theorem bb_19_44 {d : Nat} {M : sm_M} {Q : Option sm_V → sm_M → Prop} {a0 : Nat} {x1 : Int32} {x2 : Int32} {x3 : Int32} {r4 : Option Nat} {z5 : Option sm_V} {t0 : Option Nat}
    (h : ((x3 = 0 → ∃ b_2, r4 = some b_2 ∧ sm_K M b_2 = 18 ∧ Q (some (.inl (sm_I M b_2 3))) M) ∧ (x3 = 1 → ∃ b_6, r4 = some b_6 ∧ sm_K M b_6 = 18 ∧ (((sm_I M b_6 4) = 0 → Q (some (.inl 0)) M) ∧ (¬ ((sm_I M b_6 4) = 0) → Q (some (.inl 1)) M))) ∧ (x3 = 2 → ∃ b_11, r4 = some b_11 ∧ sm_K M b_11 = 18 ∧ ∃ b_14, sm_R M b_11 6 = some b_14 ∧ sm_K M b_14 = 6 ∧ Q (some (.inl (sm_I M b_14 2))) M) ∧ (x3 = 3 → ((t0 = none → Q (some (.inl (-1))) M) ∧ (∀ b_18, t0 = some b_18 → sm_K M b_18 = 30 ∧ Q (some (.inl (sm_I M b_18 5))) M))) ∧ (x3 = 4 → ((t0 = none → Q (some (.inl 0)) M) ∧ (∀ b_22, t0 = some b_22 → sm_K M b_22 = 30 ∧ (((sm_I M b_22 4) = 0 → Q (some (.inl 2)) M) ∧ (¬ ((sm_I M b_22 4) = 0) → Q (some (.inl 1)) M))))) ∧ (¬ x3 = 0 → ¬ x3 = 1 → ¬ x3 = 2 → ¬ x3 = 3 → ¬ x3 = 4 → Q (some (.inl (-1))) M))) :
    sm_Run (d + 1) 19 44 [some (.inr (some a0)), some (.inl x1), some (.inl x2), some (.inl x3), some (.inr r4), z5] [.inr t0] M Q := by
  refine ru_go (t := (46, [some (.inr (some a0)), some (.inl x1), some (.inl x2), some (.inl x3), some (.inr r4), some (.inr t0)], [], M)) sm_a19_44 rfl rfl rfl ?_
  refine ru_go (t := (47, [some (.inr (some a0)), some (.inl x1), some (.inl x2), some (.inl x3), some (.inr r4), some (.inr t0)], [.inl x3], M)) sm_a19_46 rfl rfl rfl ?_
  by_cases hc_1 : x3 = 0
  · have h := h.1 hc_1
    refine ru_tsw (pc := 47) (v := 0) (p := 80) sm_a19_47 hc_1 (by decide) ?_
    refine ru_go (t := (82, [some (.inr (some a0)), some (.inl x1), some (.inl x2), some (.inl x3), some (.inr r4), some (.inr t0)], [.inr r4], M)) sm_a19_80 rfl rfl rfl ?_
    obtain ⟨b_2, hb_3, h⟩ := h
    rw [hb_3]
    obtain ⟨h_4, h⟩ := h
    refine ru_go (t := (85, [some (.inr (some a0)), some (.inl x1), some (.inl x2), some (.inl x3), some (.inr (some b_2)), some (.inr t0)], [.inl (sm_I M b_2 3)], M)) sm_a19_82 rfl rfl (st_getI h_4 rfl) ?_
    exact ru_ret sm_a19_85 rfl h
  · by_cases hc_5 : x3 = 1
    · have h := h.2.1 hc_5
      refine ru_tsw (pc := 47) (v := 1) (p := 86) sm_a19_47 hc_5 (by decide) ?_
      refine ru_go (t := (88, [some (.inr (some a0)), some (.inl x1), some (.inl x2), some (.inl x3), some (.inr r4), some (.inr t0)], [.inr r4], M)) sm_a19_86 rfl rfl rfl ?_
      obtain ⟨b_6, hb_7, h⟩ := h
      rw [hb_7]
      obtain ⟨h_8, h⟩ := h
      refine ru_go (t := (91, [some (.inr (some a0)), some (.inl x1), some (.inl x2), some (.inl x3), some (.inr (some b_6)), some (.inr t0)], [.inl (sm_I M b_6 4)], M)) sm_a19_88 rfl rfl (st_getI h_8 rfl) ?_
      refine ru_if (pc := 91) (p := 98) (p2 := 94) sm_a19_91 (by decide) rfl ⟨fun hc_9 => ?_, fun hc_9 => ?_⟩
      · have h := h.1 hc_9
        refine ru_go (t := (99, [some (.inr (some a0)), some (.inl x1), some (.inl x2), some (.inl x3), some (.inr (some b_6)), some (.inr t0)], [.inl 0], M)) sm_a19_98 rfl rfl (st_iconst (by decide)) ?_
        exact ru_ret sm_a19_99 rfl h
      · have h := h.2 hc_9
        refine ru_go (t := (95, [some (.inr (some a0)), some (.inl x1), some (.inl x2), some (.inl x3), some (.inr (some b_6)), some (.inr t0)], [.inl 1], M)) sm_a19_94 rfl rfl (st_iconst (by decide)) ?_
        refine ru_go (t := (99, [some (.inr (some a0)), some (.inl x1), some (.inl x2), some (.inl x3), some (.inr (some b_6)), some (.inr t0)], [.inl 1], M)) sm_a19_95 rfl rfl (st_goto (pc := 95) (by decide)) ?_
        exact ru_ret sm_a19_99 rfl h
    · by_cases hc_10 : x3 = 2
      · have h := h.2.2.1 hc_10
        refine ru_tsw (pc := 47) (v := 2) (p := 100) sm_a19_47 hc_10 (by decide) ?_
        refine ru_go (t := (102, [some (.inr (some a0)), some (.inl x1), some (.inl x2), some (.inl x3), some (.inr r4), some (.inr t0)], [.inr r4], M)) sm_a19_100 rfl rfl rfl ?_
        obtain ⟨b_11, hb_12, h⟩ := h
        rw [hb_12]
        obtain ⟨h_13, h⟩ := h
        refine ru_go (t := (105, [some (.inr (some a0)), some (.inl x1), some (.inl x2), some (.inl x3), some (.inr (some b_11)), some (.inr t0)], [.inr (sm_R M b_11 6)], M)) sm_a19_102 rfl rfl (st_getR h_13 rfl rfl) ?_
        obtain ⟨b_14, hb_15, h⟩ := h
        rw [hb_15]
        obtain ⟨h_16, h⟩ := h
        refine ru_go (t := (108, [some (.inr (some a0)), some (.inl x1), some (.inl x2), some (.inl x3), some (.inr (some b_11)), some (.inr t0)], [.inl (sm_I M b_14 2)], M)) sm_a19_105 rfl rfl (st_getI h_16 rfl) ?_
        exact ru_ret sm_a19_108 rfl h
      · by_cases hc_17 : x3 = 3
        · have h := h.2.2.2.1 hc_17
          refine ru_tsw (pc := 47) (v := 3) (p := 109) sm_a19_47 hc_17 (by decide) ?_
          refine ru_go (t := (111, [some (.inr (some a0)), some (.inl x1), some (.inl x2), some (.inl x3), some (.inr r4), some (.inr t0)], [.inr t0], M)) sm_a19_109 rfl rfl rfl ?_
          refine ru_ifnonnull (pc := 111) (p := 118) (p2 := 114) sm_a19_111 (by decide) rfl ⟨fun b_18 hc => ?_, fun hc => ?_⟩
          · have h := h.2 b_18 hc
            try rw [hc]
            refine ru_go (t := (120, [some (.inr (some a0)), some (.inl x1), some (.inl x2), some (.inl x3), some (.inr r4), some (.inr (some b_18))], [.inr (some b_18)], M)) sm_a19_118 rfl rfl rfl ?_
            obtain ⟨h_20, h⟩ := h
            refine ru_go (t := (123, [some (.inr (some a0)), some (.inl x1), some (.inl x2), some (.inl x3), some (.inr r4), some (.inr (some b_18))], [.inl (sm_I M b_18 5)], M)) sm_a19_120 rfl rfl (st_getI h_20 rfl) ?_
            exact ru_ret sm_a19_123 rfl h
          · have h := h.1 hc
            try rw [hc]
            refine ru_go (t := (115, [some (.inr (some a0)), some (.inl x1), some (.inl x2), some (.inl x3), some (.inr r4), some (.inr none)], [.inl (-1)], M)) sm_a19_114 rfl rfl (st_iconst (by decide)) ?_
            refine ru_go (t := (123, [some (.inr (some a0)), some (.inl x1), some (.inl x2), some (.inl x3), some (.inr r4), some (.inr none)], [.inl (-1)], M)) sm_a19_115 rfl rfl (st_goto (pc := 115) (by decide)) ?_
            exact ru_ret sm_a19_123 rfl h
        · by_cases hc_21 : x3 = 4
          · have h := h.2.2.2.2.1 hc_21
            refine ru_tsw (pc := 47) (v := 4) (p := 124) sm_a19_47 hc_21 (by decide) ?_
            refine ru_go (t := (126, [some (.inr (some a0)), some (.inl x1), some (.inl x2), some (.inl x3), some (.inr r4), some (.inr t0)], [.inr t0], M)) sm_a19_124 rfl rfl rfl ?_
            refine ru_ifnonnull (pc := 126) (p := 133) (p2 := 129) sm_a19_126 (by decide) rfl ⟨fun b_22 hc => ?_, fun hc => ?_⟩
            · have h := h.2 b_22 hc
              try rw [hc]
              refine ru_go (t := (135, [some (.inr (some a0)), some (.inl x1), some (.inl x2), some (.inl x3), some (.inr r4), some (.inr (some b_22))], [.inr (some b_22)], M)) sm_a19_133 rfl rfl rfl ?_
              obtain ⟨h_24, h⟩ := h
              refine ru_go (t := (138, [some (.inr (some a0)), some (.inl x1), some (.inl x2), some (.inl x3), some (.inr r4), some (.inr (some b_22))], [.inl (sm_I M b_22 4)], M)) sm_a19_135 rfl rfl (st_getI h_24 rfl) ?_
              refine ru_if (pc := 138) (p := 145) (p2 := 141) sm_a19_138 (by decide) rfl ⟨fun hc_25 => ?_, fun hc_25 => ?_⟩
              · have h := h.1 hc_25
                refine ru_go (t := (146, [some (.inr (some a0)), some (.inl x1), some (.inl x2), some (.inl x3), some (.inr r4), some (.inr (some b_22))], [.inl 2], M)) sm_a19_145 rfl rfl (st_iconst (by decide)) ?_
                exact ru_ret sm_a19_146 rfl h
              · have h := h.2 hc_25
                refine ru_go (t := (142, [some (.inr (some a0)), some (.inl x1), some (.inl x2), some (.inl x3), some (.inr r4), some (.inr (some b_22))], [.inl 1], M)) sm_a19_141 rfl rfl (st_iconst (by decide)) ?_
                refine ru_go (t := (146, [some (.inr (some a0)), some (.inl x1), some (.inl x2), some (.inl x3), some (.inr r4), some (.inr (some b_22))], [.inl 1], M)) sm_a19_142 rfl rfl (st_goto (pc := 142) (by decide)) ?_
                exact ru_ret sm_a19_146 rfl h
            · have h := h.1 hc
              try rw [hc]
              refine ru_go (t := (130, [some (.inr (some a0)), some (.inl x1), some (.inl x2), some (.inl x3), some (.inr r4), some (.inr none)], [.inl 0], M)) sm_a19_129 rfl rfl (st_iconst (by decide)) ?_
              refine ru_go (t := (146, [some (.inr (some a0)), some (.inl x1), some (.inl x2), some (.inl x3), some (.inr r4), some (.inr none)], [.inl 0], M)) sm_a19_130 rfl rfl (st_goto (pc := 130) (by decide)) ?_
              exact ru_ret sm_a19_146 rfl h
          · have h := h.2.2.2.2.2 hc_1 hc_5 hc_10 hc_17 hc_21
            have zhc_1 := sm_ne_toInt hc_1; rw [show (0 : Int32).toInt = 0 by decide] at zhc_1
            have zhc_5 := sm_ne_toInt hc_5; rw [show (1 : Int32).toInt = 1 by decide] at zhc_5
            have zhc_10 := sm_ne_toInt hc_10; rw [show (2 : Int32).toInt = 2 by decide] at zhc_10
            have zhc_17 := sm_ne_toInt hc_17; rw [show (3 : Int32).toInt = 3 by decide] at zhc_17
            have zhc_21 := sm_ne_toInt hc_21; rw [show (4 : Int32).toInt = 4 by decide] at zhc_21
            refine ru_tswd (pc := 47) (p := 147) sm_a19_47 (by omega) (by decide) ?_
            refine ru_go (t := (148, [some (.inr (some a0)), some (.inl x1), some (.inl x2), some (.inl x3), some (.inr r4), some (.inr t0)], [.inl (-1)], M)) sm_a19_147 rfl rfl (st_iconst (by decide)) ?_
            exact ru_ret sm_a19_148 rfl h

/-! WireBus.packet:(II)I -/
theorem sm_a20_0 : sm_at 20 0 = some (.aload_n 0, 1, (0, 0, 0, 0)) := by decide +kernel
theorem sm_a20_1 : sm_at 20 1 = some (.getfield 25, 3, (0, 3, 0, 464)) := by decide +kernel
theorem sm_a20_4 : sm_at 20 4 = some (.iload_n 1, 1, (0, 0, 0, 0)) := by decide +kernel
theorem sm_a20_5 : sm_at 20 5 = some (.invokevirtual 236, 3, (10, 146, 11, 1157)) := by decide +kernel
theorem sm_a20_8 : sm_at 20 8 = some (.astore_n 3, 1, (0, 0, 0, 0)) := by decide +kernel
theorem sm_a20_9 : sm_at 20 9 = some (.aload_n 3, 1, (0, 0, 0, 0)) := by decide +kernel
theorem sm_a20_10 : sm_at 20 10 = some (.ifnonnull 5, 3, (0, 0, 0, 0)) := by decide +kernel
theorem sm_a20_13 : sm_at 20 13 = some (.iconst (-1), 1, (0, 0, 0, 0)) := by decide +kernel
theorem sm_a20_14 : sm_at 20 14 = some (.ireturn, 1, (0, 0, 0, 0)) := by decide +kernel
theorem sm_a20_15 : sm_at 20 15 = some (.iload_n 2, 1, (0, 0, 0, 0)) := by decide +kernel
theorem sm_a20_16 : sm_at 20 16 = some (.tableswitch 56 0 3 #[32, 37, 42, 51], 32, (0, 0, 0, 0)) := by decide +kernel
theorem sm_a20_48 : sm_at 20 48 = some (.aload_n 3, 1, (0, 0, 0, 0)) := by decide +kernel
theorem sm_a20_49 : sm_at 20 49 = some (.getfield 240, 3, (7, 0, 1, 142)) := by decide +kernel
theorem sm_a20_52 : sm_at 20 52 = some (.ireturn, 1, (0, 0, 0, 0)) := by decide +kernel
theorem sm_a20_53 : sm_at 20 53 = some (.aload_n 3, 1, (0, 0, 0, 0)) := by decide +kernel
theorem sm_a20_54 : sm_at 20 54 = some (.getfield 245, 3, (7, 1, 1, 151)) := by decide +kernel
theorem sm_a20_57 : sm_at 20 57 = some (.ireturn, 1, (0, 0, 0, 0)) := by decide +kernel
theorem sm_a20_58 : sm_at 20 58 = some (.aload_n 0, 1, (0, 0, 0, 0)) := by decide +kernel
theorem sm_a20_59 : sm_at 20 59 = some (.getfield 25, 3, (0, 3, 0, 464)) := by decide +kernel
theorem sm_a20_62 : sm_at 20 62 = some (.iload_n 1, 1, (0, 0, 0, 0)) := by decide +kernel
theorem sm_a20_63 : sm_at 20 63 = some (.invokevirtual 248, 3, (10, 148, 11, 1161)) := by decide +kernel
theorem sm_a20_66 : sm_at 20 66 = some (.ireturn, 1, (0, 0, 0, 0)) := by decide +kernel
theorem sm_a20_67 : sm_at 20 67 = some (.aload_n 3, 1, (0, 0, 0, 0)) := by decide +kernel
theorem sm_a20_68 : sm_at 20 68 = some (.getfield 251, 3, (7, 5, 1, 165)) := by decide +kernel
theorem sm_a20_71 : sm_at 20 71 = some (.ireturn, 1, (0, 0, 0, 0)) := by decide +kernel
theorem sm_a20_72 : sm_at 20 72 = some (.iload_n 2, 1, (0, 0, 0, 0)) := by decide +kernel
theorem sm_a20_73 : sm_at 20 73 = some (.iconst 4, 1, (0, 0, 0, 0)) := by decide +kernel
theorem sm_a20_74 : sm_at 20 74 = some (.if_icmp .ge 7, 3, (0, 0, 0, 0)) := by decide +kernel
theorem sm_a20_77 : sm_at 20 77 = some (.iconst (-1), 1, (0, 0, 0, 0)) := by decide +kernel
theorem sm_a20_78 : sm_at 20 78 = some (.goto 14, 3, (0, 0, 0, 0)) := by decide +kernel
theorem sm_a20_81 : sm_at 20 81 = some (.aload_n 0, 1, (0, 0, 0, 0)) := by decide +kernel
theorem sm_a20_82 : sm_at 20 82 = some (.getfield 25, 3, (0, 3, 0, 464)) := by decide +kernel
theorem sm_a20_85 : sm_at 20 85 = some (.iload_n 1, 1, (0, 0, 0, 0)) := by decide +kernel
theorem sm_a20_86 : sm_at 20 86 = some (.iload_n 2, 1, (0, 0, 0, 0)) := by decide +kernel
theorem sm_a20_87 : sm_at 20 87 = some (.iconst 4, 1, (0, 0, 0, 0)) := by decide +kernel
theorem sm_a20_88 : sm_at 20 88 = some (.isub, 1, (0, 0, 0, 0)) := by decide +kernel
theorem sm_a20_89 : sm_at 20 89 = some (.invokevirtual 254, 3, (10, 149, 11, 1169)) := by decide +kernel
theorem sm_a20_92 : sm_at 20 92 = some (.ireturn, 1, (0, 0, 0, 0)) := by decide +kernel
theorem bb_20_0 {d : Nat} {M : sm_M} {Q : Option sm_V → sm_M → Prop} {a0 : Nat} {x1 : Int32} {x2 : Int32} {z3 : Option sm_V}
    (h : sm_K M a0 = 3 ∧ ∃ b_2, sm_R M a0 3 = some b_2 ∧ sm_K M b_2 = 36 ∧ sm_Run d 146 0 (sm_ent 146 [.inr (some b_2), .inl x1]) [] M (fun v M1 => sm_Run (d + 1) 20 8 [some (.inr (some a0)), some (.inl x1), some (.inl x2), z3] (v.toList ++ []) M1 Q)) :
    sm_Run (d + 1) 20 0 [some (.inr (some a0)), some (.inl x1), some (.inl x2), z3] [] M Q := by
  refine ru_go (t := (1, [some (.inr (some a0)), some (.inl x1), some (.inl x2), z3], [.inr (some a0)], M)) sm_a20_0 rfl rfl rfl ?_
  obtain ⟨h_1, h⟩ := h
  refine ru_go (t := (4, [some (.inr (some a0)), some (.inl x1), some (.inl x2), z3], [.inr (sm_R M a0 3)], M)) sm_a20_1 rfl rfl (st_getR h_1 rfl rfl) ?_
  refine ru_go (t := (5, [some (.inr (some a0)), some (.inl x1), some (.inl x2), z3], [.inl x1, .inr (sm_R M a0 3)], M)) sm_a20_4 rfl rfl rfl ?_
  obtain ⟨b_2, hb_3, h⟩ := h
  rw [hb_3]
  obtain ⟨h_4, h⟩ := h
  exact ru_call (p := 8) sm_a20_5 rfl (sc_virt (Or.inl rfl) rfl rfl h_4 (Nat.le_of_ble_eq_true rfl)) rfl h
theorem bb_20_8 {d : Nat} {M : sm_M} {Q : Option sm_V → sm_M → Prop} {a0 : Nat} {x1 : Int32} {x2 : Int32} {z3 : Option sm_V} {t0 : Option Nat}
    (h : ((t0 = none → Q (some (.inl (-1))) M) ∧ (∀ b_1, t0 = some b_1 → ((x2 = 0 → sm_K M b_1 = 24 ∧ Q (some (.inl (sm_I M b_1 0))) M) ∧ (x2 = 1 → sm_K M b_1 = 24 ∧ Q (some (.inl (sm_I M b_1 1))) M) ∧ (x2 = 2 → sm_K M a0 = 3 ∧ ∃ b_9, sm_R M a0 3 = some b_9 ∧ sm_K M b_9 = 36 ∧ sm_Run d 148 0 (sm_ent 148 [.inr (some b_9), .inl x1]) [] M (fun v M1 => sm_Run (d + 1) 20 66 [some (.inr (some a0)), some (.inl x1), some (.inl x2), some (.inr (some b_1))] (v.toList ++ []) M1 Q)) ∧ (x2 = 3 → sm_K M b_1 = 24 ∧ Q (some (.inl (sm_I M b_1 5))) M) ∧ (¬ x2 = 0 → ¬ x2 = 1 → ¬ x2 = 2 → ¬ x2 = 3 → ((4 ≤ x2 → sm_K M a0 = 3 ∧ ∃ b_16, sm_R M a0 3 = some b_16 ∧ sm_K M b_16 = 36 ∧ sm_Run d 149 0 (sm_ent 149 [.inr (some b_16), .inl x1, .inl (x2 - 4)]) [] M (fun v M1 => sm_Run (d + 1) 20 92 [some (.inr (some a0)), some (.inl x1), some (.inl x2), some (.inr (some b_1))] (v.toList ++ []) M1 Q)) ∧ (¬ (4 ≤ x2) → Q (some (.inl (-1))) M))))))) :
    sm_Run (d + 1) 20 8 [some (.inr (some a0)), some (.inl x1), some (.inl x2), z3] [.inr t0] M Q := by
  refine ru_go (t := (9, [some (.inr (some a0)), some (.inl x1), some (.inl x2), some (.inr t0)], [], M)) sm_a20_8 rfl rfl rfl ?_
  refine ru_go (t := (10, [some (.inr (some a0)), some (.inl x1), some (.inl x2), some (.inr t0)], [.inr t0], M)) sm_a20_9 rfl rfl rfl ?_
  refine ru_ifnonnull (pc := 10) (p := 15) (p2 := 13) sm_a20_10 (by decide) rfl ⟨fun b_1 hc => ?_, fun hc => ?_⟩
  · have h := h.2 b_1 hc
    try rw [hc]
    refine ru_go (t := (16, [some (.inr (some a0)), some (.inl x1), some (.inl x2), some (.inr (some b_1))], [.inl x2], M)) sm_a20_15 rfl rfl rfl ?_
    by_cases hc_3 : x2 = 0
    · have h := h.1 hc_3
      refine ru_tsw (pc := 16) (v := 0) (p := 48) sm_a20_16 hc_3 (by decide) ?_
      refine ru_go (t := (49, [some (.inr (some a0)), some (.inl x1), some (.inl x2), some (.inr (some b_1))], [.inr (some b_1)], M)) sm_a20_48 rfl rfl rfl ?_
      obtain ⟨h_4, h⟩ := h
      refine ru_go (t := (52, [some (.inr (some a0)), some (.inl x1), some (.inl x2), some (.inr (some b_1))], [.inl (sm_I M b_1 0)], M)) sm_a20_49 rfl rfl (st_getI h_4 rfl) ?_
      exact ru_ret sm_a20_52 rfl h
    · by_cases hc_5 : x2 = 1
      · have h := h.2.1 hc_5
        refine ru_tsw (pc := 16) (v := 1) (p := 53) sm_a20_16 hc_5 (by decide) ?_
        refine ru_go (t := (54, [some (.inr (some a0)), some (.inl x1), some (.inl x2), some (.inr (some b_1))], [.inr (some b_1)], M)) sm_a20_53 rfl rfl rfl ?_
        obtain ⟨h_6, h⟩ := h
        refine ru_go (t := (57, [some (.inr (some a0)), some (.inl x1), some (.inl x2), some (.inr (some b_1))], [.inl (sm_I M b_1 1)], M)) sm_a20_54 rfl rfl (st_getI h_6 rfl) ?_
        exact ru_ret sm_a20_57 rfl h
      · by_cases hc_7 : x2 = 2
        · have h := h.2.2.1 hc_7
          refine ru_tsw (pc := 16) (v := 2) (p := 58) sm_a20_16 hc_7 (by decide) ?_
          refine ru_go (t := (59, [some (.inr (some a0)), some (.inl x1), some (.inl x2), some (.inr (some b_1))], [.inr (some a0)], M)) sm_a20_58 rfl rfl rfl ?_
          obtain ⟨h_8, h⟩ := h
          refine ru_go (t := (62, [some (.inr (some a0)), some (.inl x1), some (.inl x2), some (.inr (some b_1))], [.inr (sm_R M a0 3)], M)) sm_a20_59 rfl rfl (st_getR h_8 rfl rfl) ?_
          refine ru_go (t := (63, [some (.inr (some a0)), some (.inl x1), some (.inl x2), some (.inr (some b_1))], [.inl x1, .inr (sm_R M a0 3)], M)) sm_a20_62 rfl rfl rfl ?_
          obtain ⟨b_9, hb_10, h⟩ := h
          rw [hb_10]
          obtain ⟨h_11, h⟩ := h
          exact ru_call (p := 66) sm_a20_63 rfl (sc_virt (Or.inl rfl) rfl rfl h_11 (Nat.le_of_ble_eq_true rfl)) rfl h
        · by_cases hc_12 : x2 = 3
          · have h := h.2.2.2.1 hc_12
            refine ru_tsw (pc := 16) (v := 3) (p := 67) sm_a20_16 hc_12 (by decide) ?_
            refine ru_go (t := (68, [some (.inr (some a0)), some (.inl x1), some (.inl x2), some (.inr (some b_1))], [.inr (some b_1)], M)) sm_a20_67 rfl rfl rfl ?_
            obtain ⟨h_13, h⟩ := h
            refine ru_go (t := (71, [some (.inr (some a0)), some (.inl x1), some (.inl x2), some (.inr (some b_1))], [.inl (sm_I M b_1 5)], M)) sm_a20_68 rfl rfl (st_getI h_13 rfl) ?_
            exact ru_ret sm_a20_71 rfl h
          · have h := h.2.2.2.2 hc_3 hc_5 hc_7 hc_12
            have zhc_3 := sm_ne_toInt hc_3; rw [show (0 : Int32).toInt = 0 by decide] at zhc_3
            have zhc_5 := sm_ne_toInt hc_5; rw [show (1 : Int32).toInt = 1 by decide] at zhc_5
            have zhc_7 := sm_ne_toInt hc_7; rw [show (2 : Int32).toInt = 2 by decide] at zhc_7
            have zhc_12 := sm_ne_toInt hc_12; rw [show (3 : Int32).toInt = 3 by decide] at zhc_12
            refine ru_tswd (pc := 16) (p := 72) sm_a20_16 (by omega) (by decide) ?_
            refine ru_go (t := (73, [some (.inr (some a0)), some (.inl x1), some (.inl x2), some (.inr (some b_1))], [.inl x2], M)) sm_a20_72 rfl rfl rfl ?_
            refine ru_go (t := (74, [some (.inr (some a0)), some (.inl x1), some (.inl x2), some (.inr (some b_1))], [.inl 4, .inl x2], M)) sm_a20_73 rfl rfl (st_iconst (by decide)) ?_
            refine ru_icmp (pc := 74) (p := 81) (p2 := 77) sm_a20_74 (by decide) rfl ⟨fun hc_14 => ?_, fun hc_14 => ?_⟩
            · have h := h.1 hc_14
              refine ru_go (t := (82, [some (.inr (some a0)), some (.inl x1), some (.inl x2), some (.inr (some b_1))], [.inr (some a0)], M)) sm_a20_81 rfl rfl rfl ?_
              obtain ⟨h_15, h⟩ := h
              refine ru_go (t := (85, [some (.inr (some a0)), some (.inl x1), some (.inl x2), some (.inr (some b_1))], [.inr (sm_R M a0 3)], M)) sm_a20_82 rfl rfl (st_getR h_15 rfl rfl) ?_
              refine ru_go (t := (86, [some (.inr (some a0)), some (.inl x1), some (.inl x2), some (.inr (some b_1))], [.inl x1, .inr (sm_R M a0 3)], M)) sm_a20_85 rfl rfl rfl ?_
              refine ru_go (t := (87, [some (.inr (some a0)), some (.inl x1), some (.inl x2), some (.inr (some b_1))], [.inl x2, .inl x1, .inr (sm_R M a0 3)], M)) sm_a20_86 rfl rfl rfl ?_
              refine ru_go (t := (88, [some (.inr (some a0)), some (.inl x1), some (.inl x2), some (.inr (some b_1))], [.inl 4, .inl x2, .inl x1, .inr (sm_R M a0 3)], M)) sm_a20_87 rfl rfl (st_iconst (by decide)) ?_
              refine ru_go (t := (89, [some (.inr (some a0)), some (.inl x1), some (.inl x2), some (.inr (some b_1))], [.inl (x2 - 4), .inl x1, .inr (sm_R M a0 3)], M)) sm_a20_88 rfl rfl rfl ?_
              obtain ⟨b_16, hb_17, h⟩ := h
              rw [hb_17]
              obtain ⟨h_18, h⟩ := h
              exact ru_call (p := 92) sm_a20_89 rfl (sc_virt (Or.inl rfl) rfl rfl h_18 (Nat.le_of_ble_eq_true rfl)) rfl h
            · have h := h.2 hc_14
              refine ru_go (t := (78, [some (.inr (some a0)), some (.inl x1), some (.inl x2), some (.inr (some b_1))], [.inl (-1)], M)) sm_a20_77 rfl rfl (st_iconst (by decide)) ?_
              refine ru_go (t := (92, [some (.inr (some a0)), some (.inl x1), some (.inl x2), some (.inr (some b_1))], [.inl (-1)], M)) sm_a20_78 rfl rfl (st_goto (pc := 78) (by decide)) ?_
              exact ru_ret sm_a20_92 rfl h
  · have h := h.1 hc
    try rw [hc]
    refine ru_go (t := (14, [some (.inr (some a0)), some (.inl x1), some (.inl x2), some (.inr none)], [.inl (-1)], M)) sm_a20_13 rfl rfl (st_iconst (by decide)) ?_
    exact ru_ret sm_a20_14 rfl h
theorem bb_20_66 {d : Nat} {M : sm_M} {Q : Option sm_V → sm_M → Prop} {a0 : Nat} {x1 : Int32} {x2 : Int32} {r3 : Option Nat} {y0 : Int32}
    (h : Q (some (.inl y0)) M) :
    sm_Run (d + 1) 20 66 [some (.inr (some a0)), some (.inl x1), some (.inl x2), some (.inr r3)] [.inl y0] M Q := by
  exact ru_ret sm_a20_66 rfl h
theorem bb_20_92 {d : Nat} {M : sm_M} {Q : Option sm_V → sm_M → Prop} {a0 : Nat} {x1 : Int32} {x2 : Int32} {r3 : Option Nat} {y0 : Int32}
    (h : Q (some (.inl y0)) M) :
    sm_Run (d + 1) 20 92 [some (.inr (some a0)), some (.inl x1), some (.inl x2), some (.inr r3)] [.inl y0] M Q := by
  exact ru_ret sm_a20_92 rfl h

/-! WireBus.isDevice:(I)Z -/
theorem sm_a21_0 : sm_at 21 0 = some (.iload_n 0, 1, (0, 0, 0, 0)) := by decide +kernel
theorem sm_a21_1 : sm_at 21 1 = some (.ifCond .lt 13, 3, (0, 0, 0, 0)) := by decide +kernel
theorem sm_a21_4 : sm_at 21 4 = some (.iload_n 0, 1, (0, 0, 0, 0)) := by decide +kernel
theorem sm_a21_5 : sm_at 21 5 = some (.bipush 6, 2, (0, 0, 0, 0)) := by decide +kernel
theorem sm_a21_7 : sm_at 21 7 = some (.if_icmp .ge 7, 3, (0, 0, 0, 0)) := by decide +kernel
theorem sm_a21_10 : sm_at 21 10 = some (.iconst 1, 1, (0, 0, 0, 0)) := by decide +kernel
theorem sm_a21_11 : sm_at 21 11 = some (.goto 4, 3, (0, 0, 0, 0)) := by decide +kernel
theorem sm_a21_14 : sm_at 21 14 = some (.iconst 0, 1, (0, 0, 0, 0)) := by decide +kernel
theorem sm_a21_15 : sm_at 21 15 = some (.ireturn, 1, (0, 0, 0, 0)) := by decide +kernel
theorem bb_21_0 {d : Nat} {M : sm_M} {Q : Option sm_V → sm_M → Prop} {x0 : Int32}
    (h : ((x0 < 0 → Q (some (.inl 0)) M) ∧ (¬ (x0 < 0) → ((6 ≤ x0 → Q (some (.inl 0)) M) ∧ (¬ (6 ≤ x0) → Q (some (.inl 1)) M))))) :
    sm_Run d 21 0 [some (.inl x0)] [] M Q := by
  refine ru_go (t := (1, [some (.inl x0)], [.inl x0], M)) sm_a21_0 rfl rfl rfl ?_
  refine ru_if (pc := 1) (p := 14) (p2 := 4) sm_a21_1 (by decide) rfl ⟨fun hc_1 => ?_, fun hc_1 => ?_⟩
  · have h := h.1 hc_1
    refine ru_go (t := (15, [some (.inl x0)], [.inl 0], M)) sm_a21_14 rfl rfl (st_iconst (by decide)) ?_
    exact ru_ret sm_a21_15 (sm_rvz rfl (by decide)) h
  · have h := h.2 hc_1
    refine ru_go (t := (5, [some (.inl x0)], [.inl x0], M)) sm_a21_4 rfl rfl rfl ?_
    refine ru_go (t := (7, [some (.inl x0)], [.inl 6, .inl x0], M)) sm_a21_5 rfl rfl (st_bipush (by decide)) ?_
    refine ru_icmp (pc := 7) (p := 14) (p2 := 10) sm_a21_7 (by decide) rfl ⟨fun hc_2 => ?_, fun hc_2 => ?_⟩
    · have h := h.1 hc_2
      refine ru_go (t := (15, [some (.inl x0)], [.inl 0], M)) sm_a21_14 rfl rfl (st_iconst (by decide)) ?_
      exact ru_ret sm_a21_15 (sm_rvz rfl (by decide)) h
    · have h := h.2 hc_2
      refine ru_go (t := (11, [some (.inl x0)], [.inl 1], M)) sm_a21_10 rfl rfl (st_iconst (by decide)) ?_
      refine ru_go (t := (15, [some (.inl x0)], [.inl 1], M)) sm_a21_11 rfl rfl (st_goto (pc := 11) (by decide)) ?_
      exact ru_ret sm_a21_15 (sm_rvz rfl (by decide)) h

/-! WireBus.isBulkSize:(I)Z -/
theorem sm_a22_0 : sm_at 22 0 = some (.iload_n 0, 1, (0, 0, 0, 0)) := by decide +kernel
theorem sm_a22_1 : sm_at 22 1 = some (.bipush 8, 2, (0, 0, 0, 0)) := by decide +kernel
theorem sm_a22_3 : sm_at 22 3 = some (.if_icmp .eq 21, 3, (0, 0, 0, 0)) := by decide +kernel
theorem sm_a22_6 : sm_at 22 6 = some (.iload_n 0, 1, (0, 0, 0, 0)) := by decide +kernel
theorem sm_a22_7 : sm_at 22 7 = some (.bipush 16, 2, (0, 0, 0, 0)) := by decide +kernel
theorem sm_a22_9 : sm_at 22 9 = some (.if_icmp .eq 15, 3, (0, 0, 0, 0)) := by decide +kernel
theorem sm_a22_12 : sm_at 22 12 = some (.iload_n 0, 1, (0, 0, 0, 0)) := by decide +kernel
theorem sm_a22_13 : sm_at 22 13 = some (.bipush 32, 2, (0, 0, 0, 0)) := by decide +kernel
theorem sm_a22_15 : sm_at 22 15 = some (.if_icmp .eq 9, 3, (0, 0, 0, 0)) := by decide +kernel
theorem sm_a22_18 : sm_at 22 18 = some (.iload_n 0, 1, (0, 0, 0, 0)) := by decide +kernel
theorem sm_a22_19 : sm_at 22 19 = some (.bipush 64, 2, (0, 0, 0, 0)) := by decide +kernel
theorem sm_a22_21 : sm_at 22 21 = some (.if_icmp .ne 7, 3, (0, 0, 0, 0)) := by decide +kernel
theorem sm_a22_24 : sm_at 22 24 = some (.iconst 1, 1, (0, 0, 0, 0)) := by decide +kernel
theorem sm_a22_25 : sm_at 22 25 = some (.goto 4, 3, (0, 0, 0, 0)) := by decide +kernel
theorem sm_a22_28 : sm_at 22 28 = some (.iconst 0, 1, (0, 0, 0, 0)) := by decide +kernel
theorem sm_a22_29 : sm_at 22 29 = some (.ireturn, 1, (0, 0, 0, 0)) := by decide +kernel
theorem bb_22_0 {d : Nat} {M : sm_M} {Q : Option sm_V → sm_M → Prop} {x0 : Int32}
    (h : ((x0 = 8 → Q (some (.inl 1)) M) ∧ (¬ (x0 = 8) → ((x0 = 16 → Q (some (.inl 1)) M) ∧ (¬ (x0 = 16) → ((x0 = 32 → Q (some (.inl 1)) M) ∧ (¬ (x0 = 32) → ((¬ x0 = 64 → Q (some (.inl 0)) M) ∧ (¬ (¬ x0 = 64) → Q (some (.inl 1)) M))))))))) :
    sm_Run d 22 0 [some (.inl x0)] [] M Q := by
  refine ru_go (t := (1, [some (.inl x0)], [.inl x0], M)) sm_a22_0 rfl rfl rfl ?_
  refine ru_go (t := (3, [some (.inl x0)], [.inl 8, .inl x0], M)) sm_a22_1 rfl rfl (st_bipush (by decide)) ?_
  refine ru_icmp (pc := 3) (p := 24) (p2 := 6) sm_a22_3 (by decide) rfl ⟨fun hc_1 => ?_, fun hc_1 => ?_⟩
  · have h := h.1 hc_1
    refine ru_go (t := (25, [some (.inl x0)], [.inl 1], M)) sm_a22_24 rfl rfl (st_iconst (by decide)) ?_
    refine ru_go (t := (29, [some (.inl x0)], [.inl 1], M)) sm_a22_25 rfl rfl (st_goto (pc := 25) (by decide)) ?_
    exact ru_ret sm_a22_29 (sm_rvz rfl (by decide)) h
  · have h := h.2 hc_1
    refine ru_go (t := (7, [some (.inl x0)], [.inl x0], M)) sm_a22_6 rfl rfl rfl ?_
    refine ru_go (t := (9, [some (.inl x0)], [.inl 16, .inl x0], M)) sm_a22_7 rfl rfl (st_bipush (by decide)) ?_
    refine ru_icmp (pc := 9) (p := 24) (p2 := 12) sm_a22_9 (by decide) rfl ⟨fun hc_2 => ?_, fun hc_2 => ?_⟩
    · have h := h.1 hc_2
      refine ru_go (t := (25, [some (.inl x0)], [.inl 1], M)) sm_a22_24 rfl rfl (st_iconst (by decide)) ?_
      refine ru_go (t := (29, [some (.inl x0)], [.inl 1], M)) sm_a22_25 rfl rfl (st_goto (pc := 25) (by decide)) ?_
      exact ru_ret sm_a22_29 (sm_rvz rfl (by decide)) h
    · have h := h.2 hc_2
      refine ru_go (t := (13, [some (.inl x0)], [.inl x0], M)) sm_a22_12 rfl rfl rfl ?_
      refine ru_go (t := (15, [some (.inl x0)], [.inl 32, .inl x0], M)) sm_a22_13 rfl rfl (st_bipush (by decide)) ?_
      refine ru_icmp (pc := 15) (p := 24) (p2 := 18) sm_a22_15 (by decide) rfl ⟨fun hc_3 => ?_, fun hc_3 => ?_⟩
      · have h := h.1 hc_3
        refine ru_go (t := (25, [some (.inl x0)], [.inl 1], M)) sm_a22_24 rfl rfl (st_iconst (by decide)) ?_
        refine ru_go (t := (29, [some (.inl x0)], [.inl 1], M)) sm_a22_25 rfl rfl (st_goto (pc := 25) (by decide)) ?_
        exact ru_ret sm_a22_29 (sm_rvz rfl (by decide)) h
      · have h := h.2 hc_3
        refine ru_go (t := (19, [some (.inl x0)], [.inl x0], M)) sm_a22_18 rfl rfl rfl ?_
        refine ru_go (t := (21, [some (.inl x0)], [.inl 64, .inl x0], M)) sm_a22_19 rfl rfl (st_bipush (by decide)) ?_
        refine ru_icmp (pc := 21) (p := 28) (p2 := 24) sm_a22_21 (by decide) rfl ⟨fun hc_4 => ?_, fun hc_4 => ?_⟩
        · have h := h.1 hc_4
          refine ru_go (t := (29, [some (.inl x0)], [.inl 0], M)) sm_a22_28 rfl rfl (st_iconst (by decide)) ?_
          exact ru_ret sm_a22_29 (sm_rvz rfl (by decide)) h
        · have h := h.2 hc_4
          refine ru_go (t := (25, [some (.inl x0)], [.inl 1], M)) sm_a22_24 rfl rfl (st_iconst (by decide)) ?_
          refine ru_go (t := (29, [some (.inl x0)], [.inl 1], M)) sm_a22_25 rfl rfl (st_goto (pc := 25) (by decide)) ?_
          exact ru_ret sm_a22_29 (sm_rvz rfl (by decide)) h

/-! WireBus.isEndpoint:(III)Z -/
theorem sm_a23_0 : sm_at 23 0 = some (.iload_n 0, 1, (0, 0, 0, 0)) := by decide +kernel
theorem sm_a23_1 : sm_at 23 1 = some (.sipush 129, 3, (0, 0, 0, 0)) := by decide +kernel
theorem sm_a23_4 : sm_at 23 4 = some (.if_icmp .lt 14, 3, (0, 0, 0, 0)) := by decide +kernel
theorem sm_a23_7 : sm_at 23 7 = some (.iload_n 0, 1, (0, 0, 0, 0)) := by decide +kernel
theorem sm_a23_8 : sm_at 23 8 = some (.sipush 135, 3, (0, 0, 0, 0)) := by decide +kernel
theorem sm_a23_11 : sm_at 23 11 = some (.if_icmp .gt 7, 3, (0, 0, 0, 0)) := by decide +kernel
theorem sm_a23_14 : sm_at 23 14 = some (.iconst 1, 1, (0, 0, 0, 0)) := by decide +kernel
theorem sm_a23_15 : sm_at 23 15 = some (.goto 4, 3, (0, 0, 0, 0)) := by decide +kernel
theorem sm_a23_18 : sm_at 23 18 = some (.iconst 0, 1, (0, 0, 0, 0)) := by decide +kernel
theorem sm_a23_19 : sm_at 23 19 = some (.istore_n 3, 1, (0, 0, 0, 0)) := by decide +kernel
theorem sm_a23_20 : sm_at 23 20 = some (.iload_n 3, 1, (0, 0, 0, 0)) := by decide +kernel
theorem sm_a23_21 : sm_at 23 21 = some (.ifCond .ne 16, 3, (0, 0, 0, 0)) := by decide +kernel
theorem sm_a23_24 : sm_at 23 24 = some (.iload_n 0, 1, (0, 0, 0, 0)) := by decide +kernel
theorem sm_a23_25 : sm_at 23 25 = some (.iconst 1, 1, (0, 0, 0, 0)) := by decide +kernel
theorem sm_a23_26 : sm_at 23 26 = some (.if_icmp .lt 9, 3, (0, 0, 0, 0)) := by decide +kernel
theorem sm_a23_29 : sm_at 23 29 = some (.iload_n 0, 1, (0, 0, 0, 0)) := by decide +kernel
theorem sm_a23_30 : sm_at 23 30 = some (.bipush 7, 2, (0, 0, 0, 0)) := by decide +kernel
theorem sm_a23_32 : sm_at 23 32 = some (.if_icmp .le 5, 3, (0, 0, 0, 0)) := by decide +kernel
theorem sm_a23_35 : sm_at 23 35 = some (.iconst 0, 1, (0, 0, 0, 0)) := by decide +kernel
theorem sm_a23_36 : sm_at 23 36 = some (.ireturn, 1, (0, 0, 0, 0)) := by decide +kernel
theorem sm_a23_37 : sm_at 23 37 = some (.iload_n 2, 1, (0, 0, 0, 0)) := by decide +kernel
theorem sm_a23_38 : sm_at 23 38 = some (.ifCond .ne 8, 3, (0, 0, 0, 0)) := by decide +kernel
theorem sm_a23_41 : sm_at 23 41 = some (.iload_n 1, 1, (0, 0, 0, 0)) := by decide +kernel
theorem sm_a23_42 : sm_at 23 42 = some (.invokestatic 76, 3, (12, 22, 0, 508)) := by decide +kernel
theorem sm_a23_45 : sm_at 23 45 = some (.ireturn, 1, (0, 0, 0, 0)) := by decide +kernel
theorem sm_a23_46 : sm_at 23 46 = some (.iload_n 3, 1, (0, 0, 0, 0)) := by decide +kernel
theorem sm_a23_47 : sm_at 23 47 = some (.ifCond .eq 30, 3, (0, 0, 0, 0)) := by decide +kernel
theorem sm_a23_50 : sm_at 23 50 = some (.iload_n 2, 1, (0, 0, 0, 0)) := by decide +kernel
theorem sm_a23_51 : sm_at 23 51 = some (.iconst 1, 1, (0, 0, 0, 0)) := by decide +kernel
theorem sm_a23_52 : sm_at 23 52 = some (.if_icmp .lt 25, 3, (0, 0, 0, 0)) := by decide +kernel
theorem sm_a23_55 : sm_at 23 55 = some (.iload_n 2, 1, (0, 0, 0, 0)) := by decide +kernel
theorem sm_a23_56 : sm_at 23 56 = some (.sipush 255, 3, (0, 0, 0, 0)) := by decide +kernel
theorem sm_a23_59 : sm_at 23 59 = some (.if_icmp .gt 18, 3, (0, 0, 0, 0)) := by decide +kernel
theorem sm_a23_62 : sm_at 23 62 = some (.iload_n 1, 1, (0, 0, 0, 0)) := by decide +kernel
theorem sm_a23_63 : sm_at 23 63 = some (.iconst 1, 1, (0, 0, 0, 0)) := by decide +kernel
theorem sm_a23_64 : sm_at 23 64 = some (.if_icmp .lt 13, 3, (0, 0, 0, 0)) := by decide +kernel
theorem sm_a23_67 : sm_at 23 67 = some (.iload_n 1, 1, (0, 0, 0, 0)) := by decide +kernel
theorem sm_a23_68 : sm_at 23 68 = some (.bipush 64, 2, (0, 0, 0, 0)) := by decide +kernel
theorem sm_a23_70 : sm_at 23 70 = some (.if_icmp .gt 7, 3, (0, 0, 0, 0)) := by decide +kernel
theorem sm_a23_73 : sm_at 23 73 = some (.iconst 1, 1, (0, 0, 0, 0)) := by decide +kernel
theorem sm_a23_74 : sm_at 23 74 = some (.goto 4, 3, (0, 0, 0, 0)) := by decide +kernel
theorem sm_a23_77 : sm_at 23 77 = some (.iconst 0, 1, (0, 0, 0, 0)) := by decide +kernel
theorem sm_a23_78 : sm_at 23 78 = some (.ireturn, 1, (0, 0, 0, 0)) := by decide +kernel
theorem bb_23_0 {d : Nat} {M : sm_M} {Q : Option sm_V → sm_M → Prop} {x0 : Int32} {x1 : Int32} {x2 : Int32} {z3 : Option sm_V}
    (h : ((x0 < 129 → sm_Run (d + 1) 23 18 [some (.inl x0), some (.inl x1), some (.inl x2), z3] [] M Q) ∧ (¬ (x0 < 129) → ((135 < x0 → sm_Run (d + 1) 23 18 [some (.inl x0), some (.inl x1), some (.inl x2), z3] [] M Q) ∧ (¬ (135 < x0) → sm_Run (d + 1) 23 37 [some (.inl x0), some (.inl x1), some (.inl x2), some (.inl 1)] [] M Q))))) :
    sm_Run (d + 1) 23 0 [some (.inl x0), some (.inl x1), some (.inl x2), z3] [] M Q := by
  refine ru_go (t := (1, [some (.inl x0), some (.inl x1), some (.inl x2), z3], [.inl x0], M)) sm_a23_0 rfl rfl rfl ?_
  refine ru_go (t := (4, [some (.inl x0), some (.inl x1), some (.inl x2), z3], [.inl 129, .inl x0], M)) sm_a23_1 rfl rfl (st_sipush (by decide)) ?_
  refine ru_icmp (pc := 4) (p := 18) (p2 := 7) sm_a23_4 (by decide) rfl ⟨fun hc_1 => ?_, fun hc_1 => ?_⟩
  · have h := h.1 hc_1
    exact h
  · have h := h.2 hc_1
    refine ru_go (t := (8, [some (.inl x0), some (.inl x1), some (.inl x2), z3], [.inl x0], M)) sm_a23_7 rfl rfl rfl ?_
    refine ru_go (t := (11, [some (.inl x0), some (.inl x1), some (.inl x2), z3], [.inl 135, .inl x0], M)) sm_a23_8 rfl rfl (st_sipush (by decide)) ?_
    refine ru_icmp (pc := 11) (p := 18) (p2 := 14) sm_a23_11 (by decide) rfl ⟨fun hc_2 => ?_, fun hc_2 => ?_⟩
    · have h := h.1 hc_2
      exact h
    · have h := h.2 hc_2
      refine ru_go (t := (15, [some (.inl x0), some (.inl x1), some (.inl x2), z3], [.inl 1], M)) sm_a23_14 rfl rfl (st_iconst (by decide)) ?_
      refine ru_go (t := (19, [some (.inl x0), some (.inl x1), some (.inl x2), z3], [.inl 1], M)) sm_a23_15 rfl rfl (st_goto (pc := 15) (by decide)) ?_
      refine ru_go (t := (20, [some (.inl x0), some (.inl x1), some (.inl x2), some (.inl 1)], [], M)) sm_a23_19 rfl rfl rfl ?_
      refine ru_go (t := (21, [some (.inl x0), some (.inl x1), some (.inl x2), some (.inl 1)], [.inl 1], M)) sm_a23_20 rfl rfl rfl ?_
      refine ru_if (pc := 21) (p := 37) (p2 := 24) sm_a23_21 (by decide) rfl ⟨fun _ => ?_, fun hc => absurd (show sm_cP .ne 1 0 from (by show ¬ (1 : Int32) = 0; decide)) hc⟩
      exact h
theorem bb_23_18 {d : Nat} {M : sm_M} {Q : Option sm_V → sm_M → Prop} {x0 : Int32} {x1 : Int32} {x2 : Int32} {z3 : Option sm_V}
    (h : ((x0 < 1 → Q (some (.inl 0)) M) ∧ (¬ (x0 < 1) → ((x0 ≤ 7 → sm_Run (d + 1) 23 37 [some (.inl x0), some (.inl x1), some (.inl x2), some (.inl 0)] [] M Q) ∧ (¬ (x0 ≤ 7) → Q (some (.inl 0)) M))))) :
    sm_Run (d + 1) 23 18 [some (.inl x0), some (.inl x1), some (.inl x2), z3] [] M Q := by
  refine ru_go (t := (19, [some (.inl x0), some (.inl x1), some (.inl x2), z3], [.inl 0], M)) sm_a23_18 rfl rfl (st_iconst (by decide)) ?_
  refine ru_go (t := (20, [some (.inl x0), some (.inl x1), some (.inl x2), some (.inl 0)], [], M)) sm_a23_19 rfl rfl rfl ?_
  refine ru_go (t := (21, [some (.inl x0), some (.inl x1), some (.inl x2), some (.inl 0)], [.inl 0], M)) sm_a23_20 rfl rfl rfl ?_
  refine ru_if (pc := 21) (p := 37) (p2 := 24) sm_a23_21 (by decide) rfl ⟨fun hc => absurd (show ¬ (0 : Int32) = 0 from hc) (by decide), fun _ => ?_⟩
  refine ru_go (t := (25, [some (.inl x0), some (.inl x1), some (.inl x2), some (.inl 0)], [.inl x0], M)) sm_a23_24 rfl rfl rfl ?_
  refine ru_go (t := (26, [some (.inl x0), some (.inl x1), some (.inl x2), some (.inl 0)], [.inl 1, .inl x0], M)) sm_a23_25 rfl rfl (st_iconst (by decide)) ?_
  refine ru_icmp (pc := 26) (p := 35) (p2 := 29) sm_a23_26 (by decide) rfl ⟨fun hc_1 => ?_, fun hc_1 => ?_⟩
  · have h := h.1 hc_1
    refine ru_go (t := (36, [some (.inl x0), some (.inl x1), some (.inl x2), some (.inl 0)], [.inl 0], M)) sm_a23_35 rfl rfl (st_iconst (by decide)) ?_
    exact ru_ret sm_a23_36 (sm_rvz rfl (by decide)) h
  · have h := h.2 hc_1
    refine ru_go (t := (30, [some (.inl x0), some (.inl x1), some (.inl x2), some (.inl 0)], [.inl x0], M)) sm_a23_29 rfl rfl rfl ?_
    refine ru_go (t := (32, [some (.inl x0), some (.inl x1), some (.inl x2), some (.inl 0)], [.inl 7, .inl x0], M)) sm_a23_30 rfl rfl (st_bipush (by decide)) ?_
    refine ru_icmp (pc := 32) (p := 37) (p2 := 35) sm_a23_32 (by decide) rfl ⟨fun hc_2 => ?_, fun hc_2 => ?_⟩
    · have h := h.1 hc_2
      exact h
    · have h := h.2 hc_2
      refine ru_go (t := (36, [some (.inl x0), some (.inl x1), some (.inl x2), some (.inl 0)], [.inl 0], M)) sm_a23_35 rfl rfl (st_iconst (by decide)) ?_
      exact ru_ret sm_a23_36 (sm_rvz rfl (by decide)) h
theorem bb_23_37 {d : Nat} {M : sm_M} {Q : Option sm_V → sm_M → Prop} {x0 : Int32} {x1 : Int32} {x2 : Int32} {x3 : Int32}
    (h : ((¬ x2 = 0 → ((x3 = 0 → Q (some (.inl 0)) M) ∧ (¬ (x3 = 0) → ((x2 < 1 → Q (some (.inl 0)) M) ∧ (¬ (x2 < 1) → ((255 < x2 → Q (some (.inl 0)) M) ∧ (¬ (255 < x2) → ((x1 < 1 → Q (some (.inl 0)) M) ∧ (¬ (x1 < 1) → ((64 < x1 → Q (some (.inl 0)) M) ∧ (¬ (64 < x1) → Q (some (.inl 1)) M))))))))))) ∧ (¬ (¬ x2 = 0) → sm_Run d 22 0 (sm_ent 22 [.inl x1]) [] M (fun v M1 => sm_Run (d + 1) 23 45 [some (.inl x0), some (.inl x1), some (.inl x2), some (.inl x3)] (v.toList ++ []) M1 Q)))) :
    sm_Run (d + 1) 23 37 [some (.inl x0), some (.inl x1), some (.inl x2), some (.inl x3)] [] M Q := by
  refine ru_go (t := (38, [some (.inl x0), some (.inl x1), some (.inl x2), some (.inl x3)], [.inl x2], M)) sm_a23_37 rfl rfl rfl ?_
  refine ru_if (pc := 38) (p := 46) (p2 := 41) sm_a23_38 (by decide) rfl ⟨fun hc_1 => ?_, fun hc_1 => ?_⟩
  · have h := h.1 hc_1
    refine ru_go (t := (47, [some (.inl x0), some (.inl x1), some (.inl x2), some (.inl x3)], [.inl x3], M)) sm_a23_46 rfl rfl rfl ?_
    refine ru_if (pc := 47) (p := 77) (p2 := 50) sm_a23_47 (by decide) rfl ⟨fun hc_2 => ?_, fun hc_2 => ?_⟩
    · have h := h.1 hc_2
      refine ru_go (t := (78, [some (.inl x0), some (.inl x1), some (.inl x2), some (.inl x3)], [.inl 0], M)) sm_a23_77 rfl rfl (st_iconst (by decide)) ?_
      exact ru_ret sm_a23_78 (sm_rvz rfl (by decide)) h
    · have h := h.2 hc_2
      refine ru_go (t := (51, [some (.inl x0), some (.inl x1), some (.inl x2), some (.inl x3)], [.inl x2], M)) sm_a23_50 rfl rfl rfl ?_
      refine ru_go (t := (52, [some (.inl x0), some (.inl x1), some (.inl x2), some (.inl x3)], [.inl 1, .inl x2], M)) sm_a23_51 rfl rfl (st_iconst (by decide)) ?_
      refine ru_icmp (pc := 52) (p := 77) (p2 := 55) sm_a23_52 (by decide) rfl ⟨fun hc_3 => ?_, fun hc_3 => ?_⟩
      · have h := h.1 hc_3
        refine ru_go (t := (78, [some (.inl x0), some (.inl x1), some (.inl x2), some (.inl x3)], [.inl 0], M)) sm_a23_77 rfl rfl (st_iconst (by decide)) ?_
        exact ru_ret sm_a23_78 (sm_rvz rfl (by decide)) h
      · have h := h.2 hc_3
        refine ru_go (t := (56, [some (.inl x0), some (.inl x1), some (.inl x2), some (.inl x3)], [.inl x2], M)) sm_a23_55 rfl rfl rfl ?_
        refine ru_go (t := (59, [some (.inl x0), some (.inl x1), some (.inl x2), some (.inl x3)], [.inl 255, .inl x2], M)) sm_a23_56 rfl rfl (st_sipush (by decide)) ?_
        refine ru_icmp (pc := 59) (p := 77) (p2 := 62) sm_a23_59 (by decide) rfl ⟨fun hc_4 => ?_, fun hc_4 => ?_⟩
        · have h := h.1 hc_4
          refine ru_go (t := (78, [some (.inl x0), some (.inl x1), some (.inl x2), some (.inl x3)], [.inl 0], M)) sm_a23_77 rfl rfl (st_iconst (by decide)) ?_
          exact ru_ret sm_a23_78 (sm_rvz rfl (by decide)) h
        · have h := h.2 hc_4
          refine ru_go (t := (63, [some (.inl x0), some (.inl x1), some (.inl x2), some (.inl x3)], [.inl x1], M)) sm_a23_62 rfl rfl rfl ?_
          refine ru_go (t := (64, [some (.inl x0), some (.inl x1), some (.inl x2), some (.inl x3)], [.inl 1, .inl x1], M)) sm_a23_63 rfl rfl (st_iconst (by decide)) ?_
          refine ru_icmp (pc := 64) (p := 77) (p2 := 67) sm_a23_64 (by decide) rfl ⟨fun hc_5 => ?_, fun hc_5 => ?_⟩
          · have h := h.1 hc_5
            refine ru_go (t := (78, [some (.inl x0), some (.inl x1), some (.inl x2), some (.inl x3)], [.inl 0], M)) sm_a23_77 rfl rfl (st_iconst (by decide)) ?_
            exact ru_ret sm_a23_78 (sm_rvz rfl (by decide)) h
          · have h := h.2 hc_5
            refine ru_go (t := (68, [some (.inl x0), some (.inl x1), some (.inl x2), some (.inl x3)], [.inl x1], M)) sm_a23_67 rfl rfl rfl ?_
            refine ru_go (t := (70, [some (.inl x0), some (.inl x1), some (.inl x2), some (.inl x3)], [.inl 64, .inl x1], M)) sm_a23_68 rfl rfl (st_bipush (by decide)) ?_
            refine ru_icmp (pc := 70) (p := 77) (p2 := 73) sm_a23_70 (by decide) rfl ⟨fun hc_6 => ?_, fun hc_6 => ?_⟩
            · have h := h.1 hc_6
              refine ru_go (t := (78, [some (.inl x0), some (.inl x1), some (.inl x2), some (.inl x3)], [.inl 0], M)) sm_a23_77 rfl rfl (st_iconst (by decide)) ?_
              exact ru_ret sm_a23_78 (sm_rvz rfl (by decide)) h
            · have h := h.2 hc_6
              refine ru_go (t := (74, [some (.inl x0), some (.inl x1), some (.inl x2), some (.inl x3)], [.inl 1], M)) sm_a23_73 rfl rfl (st_iconst (by decide)) ?_
              refine ru_go (t := (78, [some (.inl x0), some (.inl x1), some (.inl x2), some (.inl x3)], [.inl 1], M)) sm_a23_74 rfl rfl (st_goto (pc := 74) (by decide)) ?_
              exact ru_ret sm_a23_78 (sm_rvz rfl (by decide)) h
  · have h := h.2 hc_1
    refine ru_go (t := (42, [some (.inl x0), some (.inl x1), some (.inl x2), some (.inl x3)], [.inl x1], M)) sm_a23_41 rfl rfl rfl ?_
    exact ru_call (p := 45) sm_a23_42 rfl (sc_stat (Or.inl rfl) (Nat.le_of_ble_eq_true rfl) rfl rfl (Nat.le_of_ble_eq_true rfl)) rfl h
theorem bb_23_45 {d : Nat} {M : sm_M} {Q : Option sm_V → sm_M → Prop} {x0 : Int32} {x1 : Int32} {x2 : Int32} {x3 : Int32} {y0 : Int32}
    (h : sm_fit .boolean y0 = true ∧ Q (some (.inl y0)) M) :
    sm_Run (d + 1) 23 45 [some (.inl x0), some (.inl x1), some (.inl x2), some (.inl x3)] [.inl y0] M Q := by
  obtain ⟨h_1, h⟩ := h
  exact ru_ret sm_a23_45 (sm_rvz rfl h_1) h

/-! WireBus.isData:(I)Z -/
theorem sm_a24_0 : sm_at 24 0 = some (.iload_n 0, 1, (0, 0, 0, 0)) := by decide +kernel
theorem sm_a24_1 : sm_at 24 1 = some (.iconst 3, 1, (0, 0, 0, 0)) := by decide +kernel
theorem sm_a24_2 : sm_at 24 2 = some (.if_icmp .eq 9, 3, (0, 0, 0, 0)) := by decide +kernel
theorem sm_a24_5 : sm_at 24 5 = some (.iload_n 0, 1, (0, 0, 0, 0)) := by decide +kernel
theorem sm_a24_6 : sm_at 24 6 = some (.bipush 11, 2, (0, 0, 0, 0)) := by decide +kernel
theorem sm_a24_8 : sm_at 24 8 = some (.if_icmp .ne 7, 3, (0, 0, 0, 0)) := by decide +kernel
theorem sm_a24_11 : sm_at 24 11 = some (.iconst 1, 1, (0, 0, 0, 0)) := by decide +kernel
theorem sm_a24_12 : sm_at 24 12 = some (.goto 4, 3, (0, 0, 0, 0)) := by decide +kernel
theorem sm_a24_15 : sm_at 24 15 = some (.iconst 0, 1, (0, 0, 0, 0)) := by decide +kernel
theorem sm_a24_16 : sm_at 24 16 = some (.ireturn, 1, (0, 0, 0, 0)) := by decide +kernel
theorem bb_24_0 {d : Nat} {M : sm_M} {Q : Option sm_V → sm_M → Prop} {x0 : Int32}
    (h : ((x0 = 3 → Q (some (.inl 1)) M) ∧ (¬ (x0 = 3) → ((¬ x0 = 11 → Q (some (.inl 0)) M) ∧ (¬ (¬ x0 = 11) → Q (some (.inl 1)) M))))) :
    sm_Run d 24 0 [some (.inl x0)] [] M Q := by
  refine ru_go (t := (1, [some (.inl x0)], [.inl x0], M)) sm_a24_0 rfl rfl rfl ?_
  refine ru_go (t := (2, [some (.inl x0)], [.inl 3, .inl x0], M)) sm_a24_1 rfl rfl (st_iconst (by decide)) ?_
  refine ru_icmp (pc := 2) (p := 11) (p2 := 5) sm_a24_2 (by decide) rfl ⟨fun hc_1 => ?_, fun hc_1 => ?_⟩
  · have h := h.1 hc_1
    refine ru_go (t := (12, [some (.inl x0)], [.inl 1], M)) sm_a24_11 rfl rfl (st_iconst (by decide)) ?_
    refine ru_go (t := (16, [some (.inl x0)], [.inl 1], M)) sm_a24_12 rfl rfl (st_goto (pc := 12) (by decide)) ?_
    exact ru_ret sm_a24_16 (sm_rvz rfl (by decide)) h
  · have h := h.2 hc_1
    refine ru_go (t := (6, [some (.inl x0)], [.inl x0], M)) sm_a24_5 rfl rfl rfl ?_
    refine ru_go (t := (8, [some (.inl x0)], [.inl 11, .inl x0], M)) sm_a24_6 rfl rfl (st_bipush (by decide)) ?_
    refine ru_icmp (pc := 8) (p := 15) (p2 := 11) sm_a24_8 (by decide) rfl ⟨fun hc_2 => ?_, fun hc_2 => ?_⟩
    · have h := h.1 hc_2
      refine ru_go (t := (16, [some (.inl x0)], [.inl 0], M)) sm_a24_15 rfl rfl (st_iconst (by decide)) ?_
      exact ru_ret sm_a24_16 (sm_rvz rfl (by decide)) h
    · have h := h.2 hc_2
      refine ru_go (t := (12, [some (.inl x0)], [.inl 1], M)) sm_a24_11 rfl rfl (st_iconst (by decide)) ?_
      refine ru_go (t := (16, [some (.inl x0)], [.inl 1], M)) sm_a24_12 rfl rfl (st_goto (pc := 12) (by decide)) ?_
      exact ru_ret sm_a24_16 (sm_rvz rfl (by decide)) h

/-! WireBus.isToken:(I)Z -/
theorem sm_a25_0 : sm_at 25 0 = some (.iload_n 0, 1, (0, 0, 0, 0)) := by decide +kernel
theorem sm_a25_1 : sm_at 25 1 = some (.iconst 1, 1, (0, 0, 0, 0)) := by decide +kernel
theorem sm_a25_2 : sm_at 25 2 = some (.if_icmp .eq 15, 3, (0, 0, 0, 0)) := by decide +kernel
theorem sm_a25_5 : sm_at 25 5 = some (.iload_n 0, 1, (0, 0, 0, 0)) := by decide +kernel
theorem sm_a25_6 : sm_at 25 6 = some (.bipush 9, 2, (0, 0, 0, 0)) := by decide +kernel
theorem sm_a25_8 : sm_at 25 8 = some (.if_icmp .eq 9, 3, (0, 0, 0, 0)) := by decide +kernel
theorem sm_a25_11 : sm_at 25 11 = some (.iload_n 0, 1, (0, 0, 0, 0)) := by decide +kernel
theorem sm_a25_12 : sm_at 25 12 = some (.bipush 13, 2, (0, 0, 0, 0)) := by decide +kernel
theorem sm_a25_14 : sm_at 25 14 = some (.if_icmp .ne 7, 3, (0, 0, 0, 0)) := by decide +kernel
theorem sm_a25_17 : sm_at 25 17 = some (.iconst 1, 1, (0, 0, 0, 0)) := by decide +kernel
theorem sm_a25_18 : sm_at 25 18 = some (.goto 4, 3, (0, 0, 0, 0)) := by decide +kernel
theorem sm_a25_21 : sm_at 25 21 = some (.iconst 0, 1, (0, 0, 0, 0)) := by decide +kernel
theorem sm_a25_22 : sm_at 25 22 = some (.ireturn, 1, (0, 0, 0, 0)) := by decide +kernel
theorem bb_25_0 {d : Nat} {M : sm_M} {Q : Option sm_V → sm_M → Prop} {x0 : Int32}
    (h : ((x0 = 1 → Q (some (.inl 1)) M) ∧ (¬ (x0 = 1) → ((x0 = 9 → Q (some (.inl 1)) M) ∧ (¬ (x0 = 9) → ((¬ x0 = 13 → Q (some (.inl 0)) M) ∧ (¬ (¬ x0 = 13) → Q (some (.inl 1)) M))))))) :
    sm_Run d 25 0 [some (.inl x0)] [] M Q := by
  refine ru_go (t := (1, [some (.inl x0)], [.inl x0], M)) sm_a25_0 rfl rfl rfl ?_
  refine ru_go (t := (2, [some (.inl x0)], [.inl 1, .inl x0], M)) sm_a25_1 rfl rfl (st_iconst (by decide)) ?_
  refine ru_icmp (pc := 2) (p := 17) (p2 := 5) sm_a25_2 (by decide) rfl ⟨fun hc_1 => ?_, fun hc_1 => ?_⟩
  · have h := h.1 hc_1
    refine ru_go (t := (18, [some (.inl x0)], [.inl 1], M)) sm_a25_17 rfl rfl (st_iconst (by decide)) ?_
    refine ru_go (t := (22, [some (.inl x0)], [.inl 1], M)) sm_a25_18 rfl rfl (st_goto (pc := 18) (by decide)) ?_
    exact ru_ret sm_a25_22 (sm_rvz rfl (by decide)) h
  · have h := h.2 hc_1
    refine ru_go (t := (6, [some (.inl x0)], [.inl x0], M)) sm_a25_5 rfl rfl rfl ?_
    refine ru_go (t := (8, [some (.inl x0)], [.inl 9, .inl x0], M)) sm_a25_6 rfl rfl (st_bipush (by decide)) ?_
    refine ru_icmp (pc := 8) (p := 17) (p2 := 11) sm_a25_8 (by decide) rfl ⟨fun hc_2 => ?_, fun hc_2 => ?_⟩
    · have h := h.1 hc_2
      refine ru_go (t := (18, [some (.inl x0)], [.inl 1], M)) sm_a25_17 rfl rfl (st_iconst (by decide)) ?_
      refine ru_go (t := (22, [some (.inl x0)], [.inl 1], M)) sm_a25_18 rfl rfl (st_goto (pc := 18) (by decide)) ?_
      exact ru_ret sm_a25_22 (sm_rvz rfl (by decide)) h
    · have h := h.2 hc_2
      refine ru_go (t := (12, [some (.inl x0)], [.inl x0], M)) sm_a25_11 rfl rfl rfl ?_
      refine ru_go (t := (14, [some (.inl x0)], [.inl 13, .inl x0], M)) sm_a25_12 rfl rfl (st_bipush (by decide)) ?_
      refine ru_icmp (pc := 14) (p := 21) (p2 := 17) sm_a25_14 (by decide) rfl ⟨fun hc_3 => ?_, fun hc_3 => ?_⟩
      · have h := h.1 hc_3
        refine ru_go (t := (22, [some (.inl x0)], [.inl 0], M)) sm_a25_21 rfl rfl (st_iconst (by decide)) ?_
        exact ru_ret sm_a25_22 (sm_rvz rfl (by decide)) h
      · have h := h.2 hc_3
        refine ru_go (t := (18, [some (.inl x0)], [.inl 1], M)) sm_a25_17 rfl rfl (st_iconst (by decide)) ?_
        refine ru_go (t := (22, [some (.inl x0)], [.inl 1], M)) sm_a25_18 rfl rfl (st_goto (pc := 18) (by decide)) ?_
        exact ru_ret sm_a25_22 (sm_rvz rfl (by decide)) h

/-! WireBus.isHandshake:(I)Z -/
theorem sm_a26_0 : sm_at 26 0 = some (.iload_n 0, 1, (0, 0, 0, 0)) := by decide +kernel
theorem sm_a26_1 : sm_at 26 1 = some (.iconst 2, 1, (0, 0, 0, 0)) := by decide +kernel
theorem sm_a26_2 : sm_at 26 2 = some (.if_icmp .eq 15, 3, (0, 0, 0, 0)) := by decide +kernel
theorem sm_a26_5 : sm_at 26 5 = some (.iload_n 0, 1, (0, 0, 0, 0)) := by decide +kernel
theorem sm_a26_6 : sm_at 26 6 = some (.bipush 10, 2, (0, 0, 0, 0)) := by decide +kernel
theorem sm_a26_8 : sm_at 26 8 = some (.if_icmp .eq 9, 3, (0, 0, 0, 0)) := by decide +kernel
theorem sm_a26_11 : sm_at 26 11 = some (.iload_n 0, 1, (0, 0, 0, 0)) := by decide +kernel
theorem sm_a26_12 : sm_at 26 12 = some (.bipush 14, 2, (0, 0, 0, 0)) := by decide +kernel
theorem sm_a26_14 : sm_at 26 14 = some (.if_icmp .ne 7, 3, (0, 0, 0, 0)) := by decide +kernel
theorem sm_a26_17 : sm_at 26 17 = some (.iconst 1, 1, (0, 0, 0, 0)) := by decide +kernel
theorem sm_a26_18 : sm_at 26 18 = some (.goto 4, 3, (0, 0, 0, 0)) := by decide +kernel
theorem sm_a26_21 : sm_at 26 21 = some (.iconst 0, 1, (0, 0, 0, 0)) := by decide +kernel
theorem sm_a26_22 : sm_at 26 22 = some (.ireturn, 1, (0, 0, 0, 0)) := by decide +kernel
theorem bb_26_0 {d : Nat} {M : sm_M} {Q : Option sm_V → sm_M → Prop} {x0 : Int32}
    (h : ((x0 = 2 → Q (some (.inl 1)) M) ∧ (¬ (x0 = 2) → ((x0 = 10 → Q (some (.inl 1)) M) ∧ (¬ (x0 = 10) → ((¬ x0 = 14 → Q (some (.inl 0)) M) ∧ (¬ (¬ x0 = 14) → Q (some (.inl 1)) M))))))) :
    sm_Run d 26 0 [some (.inl x0)] [] M Q := by
  refine ru_go (t := (1, [some (.inl x0)], [.inl x0], M)) sm_a26_0 rfl rfl rfl ?_
  refine ru_go (t := (2, [some (.inl x0)], [.inl 2, .inl x0], M)) sm_a26_1 rfl rfl (st_iconst (by decide)) ?_
  refine ru_icmp (pc := 2) (p := 17) (p2 := 5) sm_a26_2 (by decide) rfl ⟨fun hc_1 => ?_, fun hc_1 => ?_⟩
  · have h := h.1 hc_1
    refine ru_go (t := (18, [some (.inl x0)], [.inl 1], M)) sm_a26_17 rfl rfl (st_iconst (by decide)) ?_
    refine ru_go (t := (22, [some (.inl x0)], [.inl 1], M)) sm_a26_18 rfl rfl (st_goto (pc := 18) (by decide)) ?_
    exact ru_ret sm_a26_22 (sm_rvz rfl (by decide)) h
  · have h := h.2 hc_1
    refine ru_go (t := (6, [some (.inl x0)], [.inl x0], M)) sm_a26_5 rfl rfl rfl ?_
    refine ru_go (t := (8, [some (.inl x0)], [.inl 10, .inl x0], M)) sm_a26_6 rfl rfl (st_bipush (by decide)) ?_
    refine ru_icmp (pc := 8) (p := 17) (p2 := 11) sm_a26_8 (by decide) rfl ⟨fun hc_2 => ?_, fun hc_2 => ?_⟩
    · have h := h.1 hc_2
      refine ru_go (t := (18, [some (.inl x0)], [.inl 1], M)) sm_a26_17 rfl rfl (st_iconst (by decide)) ?_
      refine ru_go (t := (22, [some (.inl x0)], [.inl 1], M)) sm_a26_18 rfl rfl (st_goto (pc := 18) (by decide)) ?_
      exact ru_ret sm_a26_22 (sm_rvz rfl (by decide)) h
    · have h := h.2 hc_2
      refine ru_go (t := (12, [some (.inl x0)], [.inl x0], M)) sm_a26_11 rfl rfl rfl ?_
      refine ru_go (t := (14, [some (.inl x0)], [.inl 14, .inl x0], M)) sm_a26_12 rfl rfl (st_bipush (by decide)) ?_
      refine ru_icmp (pc := 14) (p := 21) (p2 := 17) sm_a26_14 (by decide) rfl ⟨fun hc_3 => ?_, fun hc_3 => ?_⟩
      · have h := h.1 hc_3
        refine ru_go (t := (22, [some (.inl x0)], [.inl 0], M)) sm_a26_21 rfl rfl (st_iconst (by decide)) ?_
        exact ru_ret sm_a26_22 (sm_rvz rfl (by decide)) h
      · have h := h.2 hc_3
        refine ru_go (t := (18, [some (.inl x0)], [.inl 1], M)) sm_a26_17 rfl rfl (st_iconst (by decide)) ?_
        refine ru_go (t := (22, [some (.inl x0)], [.inl 1], M)) sm_a26_18 rfl rfl (st_goto (pc := 18) (by decide)) ?_
        exact ru_ret sm_a26_22 (sm_rvz rfl (by decide)) h

/-! WireBus.dataKind:(I)I -/
theorem sm_a27_0 : sm_at 27 0 = some (.iload_n 0, 1, (0, 0, 0, 0)) := by decide +kernel
theorem sm_a27_1 : sm_at 27 1 = some (.ifCond .ne 7, 3, (0, 0, 0, 0)) := by decide +kernel
theorem sm_a27_4 : sm_at 27 4 = some (.iconst 3, 1, (0, 0, 0, 0)) := by decide +kernel
theorem sm_a27_5 : sm_at 27 5 = some (.goto 5, 3, (0, 0, 0, 0)) := by decide +kernel
theorem sm_a27_8 : sm_at 27 8 = some (.bipush 11, 2, (0, 0, 0, 0)) := by decide +kernel
theorem sm_a27_10 : sm_at 27 10 = some (.ireturn, 1, (0, 0, 0, 0)) := by decide +kernel
theorem bb_27_0 {d : Nat} {M : sm_M} {Q : Option sm_V → sm_M → Prop} {x0 : Int32}
    (h : ((¬ x0 = 0 → Q (some (.inl 11)) M) ∧ (¬ (¬ x0 = 0) → Q (some (.inl 3)) M))) :
    sm_Run d 27 0 [some (.inl x0)] [] M Q := by
  refine ru_go (t := (1, [some (.inl x0)], [.inl x0], M)) sm_a27_0 rfl rfl rfl ?_
  refine ru_if (pc := 1) (p := 8) (p2 := 4) sm_a27_1 (by decide) rfl ⟨fun hc_1 => ?_, fun hc_1 => ?_⟩
  · have h := h.1 hc_1
    refine ru_go (t := (10, [some (.inl x0)], [.inl 11], M)) sm_a27_8 rfl rfl (st_bipush (by decide)) ?_
    exact ru_ret sm_a27_10 rfl h
  · have h := h.2 hc_1
    refine ru_go (t := (5, [some (.inl x0)], [.inl 3], M)) sm_a27_4 rfl rfl (st_iconst (by decide)) ?_
    refine ru_go (t := (10, [some (.inl x0)], [.inl 3], M)) sm_a27_5 rfl rfl (st_goto (pc := 5) (by decide)) ?_
    exact ru_ret sm_a27_10 rfl h

/-! WireBus.toggleOf:(I)I -/
theorem sm_a28_0 : sm_at 28 0 = some (.iload_n 0, 1, (0, 0, 0, 0)) := by decide +kernel
theorem sm_a28_1 : sm_at 28 1 = some (.iconst 3, 1, (0, 0, 0, 0)) := by decide +kernel
theorem sm_a28_2 : sm_at 28 2 = some (.if_icmp .ne 7, 3, (0, 0, 0, 0)) := by decide +kernel
theorem sm_a28_5 : sm_at 28 5 = some (.iconst 0, 1, (0, 0, 0, 0)) := by decide +kernel
theorem sm_a28_6 : sm_at 28 6 = some (.goto 4, 3, (0, 0, 0, 0)) := by decide +kernel
theorem sm_a28_9 : sm_at 28 9 = some (.iconst 1, 1, (0, 0, 0, 0)) := by decide +kernel
theorem sm_a28_10 : sm_at 28 10 = some (.ireturn, 1, (0, 0, 0, 0)) := by decide +kernel
theorem bb_28_0 {d : Nat} {M : sm_M} {Q : Option sm_V → sm_M → Prop} {x0 : Int32}
    (h : ((¬ x0 = 3 → Q (some (.inl 1)) M) ∧ (¬ (¬ x0 = 3) → Q (some (.inl 0)) M))) :
    sm_Run d 28 0 [some (.inl x0)] [] M Q := by
  refine ru_go (t := (1, [some (.inl x0)], [.inl x0], M)) sm_a28_0 rfl rfl rfl ?_
  refine ru_go (t := (2, [some (.inl x0)], [.inl 3, .inl x0], M)) sm_a28_1 rfl rfl (st_iconst (by decide)) ?_
  refine ru_icmp (pc := 2) (p := 9) (p2 := 5) sm_a28_2 (by decide) rfl ⟨fun hc_1 => ?_, fun hc_1 => ?_⟩
  · have h := h.1 hc_1
    refine ru_go (t := (10, [some (.inl x0)], [.inl 1], M)) sm_a28_9 rfl rfl (st_iconst (by decide)) ?_
    exact ru_ret sm_a28_10 rfl h
  · have h := h.2 hc_1
    refine ru_go (t := (6, [some (.inl x0)], [.inl 0], M)) sm_a28_5 rfl rfl (st_iconst (by decide)) ?_
    refine ru_go (t := (10, [some (.inl x0)], [.inl 0], M)) sm_a28_6 rfl rfl (st_goto (pc := 6) (by decide)) ?_
    exact ru_ret sm_a28_10 rfl h
