/-! WireBus$ControlPoint.<init>:()V -/
theorem sm_a52_0 : sm_at 52 0 = some (.aload_n 0, 1, (0, 0, 0, 0)) := by decide +kernel
theorem sm_a52_1 : sm_at 52 1 = some (.invokespecial 3, 3, (1, 0, 0, 220)) := by decide +kernel
theorem sm_a52_4 : sm_at 52 4 = some (.aload_n 0, 1, (0, 0, 0, 0)) := by decide +kernel
theorem sm_a52_5 : sm_at 52 5 = some (.bipush 64, 2, (0, 0, 0, 0)) := by decide +kernel
theorem sm_a52_7 : sm_at 52 7 = some (.newarray .int, 2, (4, 0, 0, 0)) := by decide +kernel
theorem sm_a52_9 : sm_at 52 9 = some (.putfield 9, 3, (3, 2, 0, 224)) := by decide +kernel
theorem sm_a52_12 : sm_at 52 12 = some (.return_, 1, (0, 0, 0, 0)) := by decide +kernel
theorem bb_52_0 {d : Nat} {M : sm_M} {Q : Option sm_V → sm_M → Prop} {a0 : Nat}
    (h : sm_K (sm_new M 14 (64 : Int32).toNatClampNeg (64 : Int32).toNatClampNeg) a0 = 12 ∧ Q none (sm_putR (sm_new M 14 (64 : Int32).toNatClampNeg (64 : Int32).toNatClampNeg) a0 2 (some (sm_N M)))) :
    sm_Run (d + 1) 52 0 [some (.inr (some a0))] [] M Q := by
  refine ru_go (t := (1, [some (.inr (some a0))], [.inr (some a0)], M)) sm_a52_0 rfl rfl rfl ?_
  refine ru_go (t := (4, [some (.inr (some a0))], [], M)) sm_a52_1 rfl rfl (st_oi (Nat.le_of_ble_eq_true rfl)) ?_
  refine ru_go (t := (5, [some (.inr (some a0))], [.inr (some a0)], M)) sm_a52_4 rfl rfl rfl ?_
  refine ru_go (t := (7, [some (.inr (some a0))], [.inl 64, .inr (some a0)], M)) sm_a52_5 rfl rfl (st_bipush (by decide)) ?_
  refine ru_go (t := (9, [some (.inr (some a0))], [.inr (some (sm_N M)), .inr (some a0)], sm_new M 14 (64 : Int32).toNatClampNeg (64 : Int32).toNatClampNeg)) sm_a52_7 rfl rfl (st_newa (by decide)) ?_
  obtain ⟨h_1, h⟩ := h
  refine ru_go (t := (12, [some (.inr (some a0))], [], sm_putR (sm_new M 14 (64 : Int32).toNatClampNeg (64 : Int32).toNatClampNeg) a0 2 (some (sm_N M)))) sm_a52_9 rfl rfl (st_putR h_1 rfl) ?_
  exact ru_ret sm_a52_12 (sm_rvv rfl) h

/-! WireBus$ControlPoint.begin:(LWireBus$Device;LWireBus$Packet;)V -/
theorem sm_a53_0 : sm_at 53 0 = some (.aload_n 2, 1, (0, 0, 0, 0)) := by decide +kernel
theorem sm_a53_1 : sm_at 53 1 = some (.iconst 0, 1, (0, 0, 0, 0)) := by decide +kernel
theorem sm_a53_2 : sm_at 53 2 = some (.invokevirtual 15, 3, (10, 107, 7, 890)) := by decide +kernel
theorem sm_a53_5 : sm_at 53 5 = some (.sipush 256, 3, (0, 0, 0, 0)) := by decide +kernel
theorem sm_a53_8 : sm_at 53 8 = some (.imul, 1, (0, 0, 0, 0)) := by decide +kernel
theorem sm_a53_9 : sm_at 53 9 = some (.aload_n 2, 1, (0, 0, 0, 0)) := by decide +kernel
theorem sm_a53_10 : sm_at 53 10 = some (.iconst 1, 1, (0, 0, 0, 0)) := by decide +kernel
theorem sm_a53_11 : sm_at 53 11 = some (.invokevirtual 15, 3, (10, 107, 7, 890)) := by decide +kernel
theorem sm_a53_14 : sm_at 53 14 = some (.iadd, 1, (0, 0, 0, 0)) := by decide +kernel
theorem sm_a53_15 : sm_at 53 15 = some (.istore_n 3, 1, (0, 0, 0, 0)) := by decide +kernel
theorem sm_a53_16 : sm_at 53 16 = some (.aload_n 2, 1, (0, 0, 0, 0)) := by decide +kernel
theorem sm_a53_17 : sm_at 53 17 = some (.iconst 4, 1, (0, 0, 0, 0)) := by decide +kernel
theorem sm_a53_18 : sm_at 53 18 = some (.invokevirtual 21, 3, (10, 108, 7, 891)) := by decide +kernel
theorem sm_a53_21 : sm_at 53 21 = some (.istore 4, 2, (0, 0, 0, 0)) := by decide +kernel
theorem sm_a53_23 : sm_at 53 23 = some (.aload_n 0, 1, (0, 0, 0, 0)) := by decide +kernel
theorem sm_a53_24 : sm_at 53 24 = some (.aload_n 2, 1, (0, 0, 0, 0)) := by decide +kernel
theorem sm_a53_25 : sm_at 53 25 = some (.iconst 2, 1, (0, 0, 0, 0)) := by decide +kernel
theorem sm_a53_26 : sm_at 53 26 = some (.invokevirtual 21, 3, (10, 108, 7, 891)) := by decide +kernel
theorem sm_a53_29 : sm_at 53 29 = some (.putfield 24, 3, (3, 6, 0, 228)) := by decide +kernel
theorem sm_a53_32 : sm_at 53 32 = some (.aload_n 0, 1, (0, 0, 0, 0)) := by decide +kernel
theorem sm_a53_33 : sm_at 53 33 = some (.aload_n 2, 1, (0, 0, 0, 0)) := by decide +kernel
theorem sm_a53_34 : sm_at 53 34 = some (.bipush 6, 2, (0, 0, 0, 0)) := by decide +kernel
theorem sm_a53_36 : sm_at 53 36 = some (.invokevirtual 21, 3, (10, 108, 7, 891)) := by decide +kernel
theorem sm_a53_39 : sm_at 53 39 = some (.putfield 28, 3, (3, 5, 0, 227)) := by decide +kernel
theorem sm_a53_42 : sm_at 53 42 = some (.aload_n 0, 1, (0, 0, 0, 0)) := by decide +kernel
theorem sm_a53_43 : sm_at 53 43 = some (.iconst 1, 1, (0, 0, 0, 0)) := by decide +kernel
theorem sm_a53_44 : sm_at 53 44 = some (.putfield 31, 3, (3, 1, 0, 223)) := by decide +kernel
theorem sm_a53_47 : sm_at 53 47 = some (.aload_n 0, 1, (0, 0, 0, 0)) := by decide +kernel
theorem sm_a53_48 : sm_at 53 48 = some (.iconst 0, 1, (0, 0, 0, 0)) := by decide +kernel
theorem sm_a53_49 : sm_at 53 49 = some (.putfield 34, 3, (3, 4, 0, 226)) := by decide +kernel
theorem sm_a53_52 : sm_at 53 52 = some (.aload_n 0, 1, (0, 0, 0, 0)) := by decide +kernel
theorem sm_a53_53 : sm_at 53 53 = some (.iconst 0, 1, (0, 0, 0, 0)) := by decide +kernel
theorem sm_a53_54 : sm_at 53 54 = some (.putfield 37, 3, (3, 7, 0, 229)) := by decide +kernel
theorem sm_a53_57 : sm_at 53 57 = some (.aload_n 0, 1, (0, 0, 0, 0)) := by decide +kernel
theorem sm_a53_58 : sm_at 53 58 = some (.iconst 0, 1, (0, 0, 0, 0)) := by decide +kernel
theorem sm_a53_59 : sm_at 53 59 = some (.putfield 40, 3, (3, 9, 0, 231)) := by decide +kernel
theorem sm_a53_62 : sm_at 53 62 = some (.iload_n 3, 1, (0, 0, 0, 0)) := by decide +kernel
theorem sm_a53_63 : sm_at 53 63 = some (.ldc 44, 2, (32768, 0, 0, 896)) := by decide +kernel
theorem sm_a53_65 : sm_at 53 65 = some (.if_icmp .ge 16, 3, (0, 0, 0, 0)) := by decide +kernel
theorem sm_a53_68 : sm_at 53 68 = some (.aload_n 0, 1, (0, 0, 0, 0)) := by decide +kernel
theorem sm_a53_69 : sm_at 53 69 = some (.aload_n 0, 1, (0, 0, 0, 0)) := by decide +kernel
theorem sm_a53_70 : sm_at 53 70 = some (.aload_n 1, 1, (0, 0, 0, 0)) := by decide +kernel
theorem sm_a53_71 : sm_at 53 71 = some (.iload_n 3, 1, (0, 0, 0, 0)) := by decide +kernel
theorem sm_a53_72 : sm_at 53 72 = some (.iload 4, 2, (0, 0, 0, 0)) := by decide +kernel
theorem sm_a53_74 : sm_at 53 74 = some (.invokevirtual 45, 3, (10, 54, 3, 897)) := by decide +kernel
theorem sm_a53_77 : sm_at 53 77 = some (.putfield 49, 3, (3, 0, 0, 221)) := by decide +kernel
theorem sm_a53_80 : sm_at 53 80 = some (.return_, 1, (0, 0, 0, 0)) := by decide +kernel
theorem sm_a53_81 : sm_at 53 81 = some (.aload_n 1, 1, (0, 0, 0, 0)) := by decide +kernel
theorem sm_a53_82 : sm_at 53 82 = some (.iload_n 3, 1, (0, 0, 0, 0)) := by decide +kernel
theorem sm_a53_83 : sm_at 53 83 = some (.aload_n 0, 1, (0, 0, 0, 0)) := by decide +kernel
theorem sm_a53_84 : sm_at 53 84 = some (.getfield 24, 3, (3, 6, 0, 228)) := by decide +kernel
theorem sm_a53_87 : sm_at 53 87 = some (.iload 4, 2, (0, 0, 0, 0)) := by decide +kernel
theorem sm_a53_89 : sm_at 53 89 = some (.aload_n 0, 1, (0, 0, 0, 0)) := by decide +kernel
theorem sm_a53_90 : sm_at 53 90 = some (.getfield 9, 3, (3, 2, 0, 224)) := by decide +kernel
theorem sm_a53_93 : sm_at 53 93 = some (.invokevirtual 52, 3, (10, 71, 4, 905)) := by decide +kernel
theorem sm_a53_96 : sm_at 53 96 = some (.istore 5, 2, (0, 0, 0, 0)) := by decide +kernel
theorem sm_a53_98 : sm_at 53 98 = some (.aload_n 0, 1, (0, 0, 0, 0)) := by decide +kernel
theorem sm_a53_99 : sm_at 53 99 = some (.iload 5, 2, (0, 0, 0, 0)) := by decide +kernel
theorem sm_a53_101 : sm_at 53 101 = some (.aload_n 0, 1, (0, 0, 0, 0)) := by decide +kernel
theorem sm_a53_102 : sm_at 53 102 = some (.getfield 28, 3, (3, 5, 0, 227)) := by decide +kernel
theorem sm_a53_105 : sm_at 53 105 = some (.invokestatic 58, 3, (3, 0, 0, 867)) := by decide +kernel
theorem sm_a53_108 : sm_at 53 108 = some (.putfield 64, 3, (3, 3, 0, 225)) := by decide +kernel
theorem sm_a53_111 : sm_at 53 111 = some (.aload_n 0, 1, (0, 0, 0, 0)) := by decide +kernel
theorem sm_a53_112 : sm_at 53 112 = some (.iload 5, 2, (0, 0, 0, 0)) := by decide +kernel
theorem sm_a53_114 : sm_at 53 114 = some (.iconst (-1), 1, (0, 0, 0, 0)) := by decide +kernel
theorem sm_a53_115 : sm_at 53 115 = some (.if_icmp .ne 7, 3, (0, 0, 0, 0)) := by decide +kernel
theorem sm_a53_118 : sm_at 53 118 = some (.iconst 1, 1, (0, 0, 0, 0)) := by decide +kernel
theorem sm_a53_119 : sm_at 53 119 = some (.goto 15, 3, (0, 0, 0, 0)) := by decide +kernel
theorem sm_a53_122 : sm_at 53 122 = some (.aload_n 0, 1, (0, 0, 0, 0)) := by decide +kernel
theorem sm_a53_123 : sm_at 53 123 = some (.getfield 28, 3, (3, 5, 0, 227)) := by decide +kernel
theorem sm_a53_126 : sm_at 53 126 = some (.ifCond .ne 7, 3, (0, 0, 0, 0)) := by decide +kernel
theorem sm_a53_129 : sm_at 53 129 = some (.iconst 5, 1, (0, 0, 0, 0)) := by decide +kernel
theorem sm_a53_130 : sm_at 53 130 = some (.goto 4, 3, (0, 0, 0, 0)) := by decide +kernel
theorem sm_a53_133 : sm_at 53 133 = some (.iconst 2, 1, (0, 0, 0, 0)) := by decide +kernel
theorem sm_a53_134 : sm_at 53 134 = some (.putfield 49, 3, (3, 0, 0, 221)) := by decide +kernel
theorem sm_a53_137 : sm_at 53 137 = some (.return_, 1, (0, 0, 0, 0)) := by decide +kernel
theorem bb_53_0 {d : Nat} {M : sm_M} {Q : Option sm_V → sm_M → Prop} {a0 : Nat} {r1 : Option Nat} {r2 : Option Nat} {z3 : Option sm_V} {z4 : Option sm_V} {z5 : Option sm_V}
    (h : ∃ b_1, r2 = some b_1 ∧ sm_K M b_1 = 24 ∧ sm_Run d 107 0 (sm_ent 107 [.inr (some b_1), .inl 0]) [] M (fun v M1 => sm_Run (d + 1) 53 5 [some (.inr (some a0)), some (.inr r1), some (.inr (some b_1)), z3, z4, z5] (v.toList ++ []) M1 Q)) :
    sm_Run (d + 1) 53 0 [some (.inr (some a0)), some (.inr r1), some (.inr r2), z3, z4, z5] [] M Q := by
  refine ru_go (t := (1, [some (.inr (some a0)), some (.inr r1), some (.inr r2), z3, z4, z5], [.inr r2], M)) sm_a53_0 rfl rfl rfl ?_
  refine ru_go (t := (2, [some (.inr (some a0)), some (.inr r1), some (.inr r2), z3, z4, z5], [.inl 0, .inr r2], M)) sm_a53_1 rfl rfl (st_iconst (by decide)) ?_
  obtain ⟨b_1, hb_2, h⟩ := h
  rw [hb_2]
  obtain ⟨h_3, h⟩ := h
  exact ru_call (p := 5) sm_a53_2 rfl (sc_virt (Or.inl rfl) rfl rfl h_3 (Nat.le_of_ble_eq_true rfl)) rfl h
theorem bb_53_5 {d : Nat} {M : sm_M} {Q : Option sm_V → sm_M → Prop} {a0 : Nat} {r1 : Option Nat} {r2 : Option Nat} {z3 : Option sm_V} {z4 : Option sm_V} {z5 : Option sm_V} {y0 : Int32}
    (h : ∃ b_1, r2 = some b_1 ∧ sm_K M b_1 = 24 ∧ sm_Run d 107 0 (sm_ent 107 [.inr (some b_1), .inl 1]) [] M (fun v M1 => sm_Run (d + 1) 53 14 [some (.inr (some a0)), some (.inr r1), some (.inr (some b_1)), z3, z4, z5] (v.toList ++ [.inl (y0 * 256)]) M1 Q)) :
    sm_Run (d + 1) 53 5 [some (.inr (some a0)), some (.inr r1), some (.inr r2), z3, z4, z5] [.inl y0] M Q := by
  refine ru_go (t := (8, [some (.inr (some a0)), some (.inr r1), some (.inr r2), z3, z4, z5], [.inl 256, .inl y0], M)) sm_a53_5 rfl rfl (st_sipush (by decide)) ?_
  refine ru_go (t := (9, [some (.inr (some a0)), some (.inr r1), some (.inr r2), z3, z4, z5], [.inl (y0 * 256)], M)) sm_a53_8 rfl rfl rfl ?_
  refine ru_go (t := (10, [some (.inr (some a0)), some (.inr r1), some (.inr r2), z3, z4, z5], [.inr r2, .inl (y0 * 256)], M)) sm_a53_9 rfl rfl rfl ?_
  refine ru_go (t := (11, [some (.inr (some a0)), some (.inr r1), some (.inr r2), z3, z4, z5], [.inl 1, .inr r2, .inl (y0 * 256)], M)) sm_a53_10 rfl rfl (st_iconst (by decide)) ?_
  obtain ⟨b_1, hb_2, h⟩ := h
  rw [hb_2]
  obtain ⟨h_3, h⟩ := h
  exact ru_call (p := 14) sm_a53_11 rfl (sc_virt (Or.inl rfl) rfl rfl h_3 (Nat.le_of_ble_eq_true rfl)) rfl h
theorem bb_53_14 {d : Nat} {M : sm_M} {Q : Option sm_V → sm_M → Prop} {a0 : Nat} {r1 : Option Nat} {r2 : Option Nat} {z3 : Option sm_V} {z4 : Option sm_V} {z5 : Option sm_V} {y0 : Int32} {y1 : Int32}
    (h : ∃ b_1, r2 = some b_1 ∧ sm_K M b_1 = 24 ∧ sm_Run d 108 0 (sm_ent 108 [.inr (some b_1), .inl 4]) [] M (fun v M1 => sm_Run (d + 1) 53 21 [some (.inr (some a0)), some (.inr r1), some (.inr (some b_1)), some (.inl (y1 + y0)), z4, z5] (v.toList ++ []) M1 Q)) :
    sm_Run (d + 1) 53 14 [some (.inr (some a0)), some (.inr r1), some (.inr r2), z3, z4, z5] [.inl y0, .inl y1] M Q := by
  refine ru_go (t := (15, [some (.inr (some a0)), some (.inr r1), some (.inr r2), z3, z4, z5], [.inl (y1 + y0)], M)) sm_a53_14 rfl rfl rfl ?_
  refine ru_go (t := (16, [some (.inr (some a0)), some (.inr r1), some (.inr r2), some (.inl (y1 + y0)), z4, z5], [], M)) sm_a53_15 rfl rfl rfl ?_
  refine ru_go (t := (17, [some (.inr (some a0)), some (.inr r1), some (.inr r2), some (.inl (y1 + y0)), z4, z5], [.inr r2], M)) sm_a53_16 rfl rfl rfl ?_
  refine ru_go (t := (18, [some (.inr (some a0)), some (.inr r1), some (.inr r2), some (.inl (y1 + y0)), z4, z5], [.inl 4, .inr r2], M)) sm_a53_17 rfl rfl (st_iconst (by decide)) ?_
  obtain ⟨b_1, hb_2, h⟩ := h
  rw [hb_2]
  obtain ⟨h_3, h⟩ := h
  exact ru_call (p := 21) sm_a53_18 rfl (sc_virt (Or.inl rfl) rfl rfl h_3 (Nat.le_of_ble_eq_true rfl)) rfl h
theorem bb_53_21 {d : Nat} {M : sm_M} {Q : Option sm_V → sm_M → Prop} {a0 : Nat} {r1 : Option Nat} {r2 : Option Nat} {x3 : Int32} {z4 : Option sm_V} {z5 : Option sm_V} {y0 : Int32}
    (h : ∃ b_1, r2 = some b_1 ∧ sm_K M b_1 = 24 ∧ sm_Run d 108 0 (sm_ent 108 [.inr (some b_1), .inl 2]) [] M (fun v M1 => sm_Run (d + 1) 53 29 [some (.inr (some a0)), some (.inr r1), some (.inr (some b_1)), some (.inl x3), some (.inl y0), z5] (v.toList ++ [.inr (some a0)]) M1 Q)) :
    sm_Run (d + 1) 53 21 [some (.inr (some a0)), some (.inr r1), some (.inr r2), some (.inl x3), z4, z5] [.inl y0] M Q := by
  refine ru_go (t := (23, [some (.inr (some a0)), some (.inr r1), some (.inr r2), some (.inl x3), some (.inl y0), z5], [], M)) sm_a53_21 rfl rfl rfl ?_
  refine ru_go (t := (24, [some (.inr (some a0)), some (.inr r1), some (.inr r2), some (.inl x3), some (.inl y0), z5], [.inr (some a0)], M)) sm_a53_23 rfl rfl rfl ?_
  refine ru_go (t := (25, [some (.inr (some a0)), some (.inr r1), some (.inr r2), some (.inl x3), some (.inl y0), z5], [.inr r2, .inr (some a0)], M)) sm_a53_24 rfl rfl rfl ?_
  refine ru_go (t := (26, [some (.inr (some a0)), some (.inr r1), some (.inr r2), some (.inl x3), some (.inl y0), z5], [.inl 2, .inr r2, .inr (some a0)], M)) sm_a53_25 rfl rfl (st_iconst (by decide)) ?_
  obtain ⟨b_1, hb_2, h⟩ := h
  rw [hb_2]
  obtain ⟨h_3, h⟩ := h
  exact ru_call (p := 29) sm_a53_26 rfl (sc_virt (Or.inl rfl) rfl rfl h_3 (Nat.le_of_ble_eq_true rfl)) rfl h
theorem bb_53_29 {d : Nat} {M : sm_M} {Q : Option sm_V → sm_M → Prop} {a0 : Nat} {r1 : Option Nat} {r2 : Option Nat} {x3 : Int32} {x4 : Int32} {z5 : Option sm_V} {y0 : Int32} {b1 : Nat}
    (h : sm_K M b1 = 12 ∧ ∃ b_2, r2 = some b_2 ∧ sm_K M b_2 = 24 ∧ sm_Run d 108 0 (sm_ent 108 [.inr (some b_2), .inl 6]) [] (sm_putI M b1 6 y0) (fun v M1 => sm_Run (d + 1) 53 39 [some (.inr (some a0)), some (.inr r1), some (.inr (some b_2)), some (.inl x3), some (.inl x4), z5] (v.toList ++ [.inr (some a0)]) M1 Q)) :
    sm_Run (d + 1) 53 29 [some (.inr (some a0)), some (.inr r1), some (.inr r2), some (.inl x3), some (.inl x4), z5] [.inl y0, .inr (some b1)] M Q := by
  obtain ⟨h_1, h⟩ := h
  refine ru_go (t := (32, [some (.inr (some a0)), some (.inr r1), some (.inr r2), some (.inl x3), some (.inl x4), z5], [], sm_putI M b1 6 y0)) sm_a53_29 rfl rfl (st_putI h_1 rfl) ?_
  refine ru_go (t := (33, [some (.inr (some a0)), some (.inr r1), some (.inr r2), some (.inl x3), some (.inl x4), z5], [.inr (some a0)], sm_putI M b1 6 y0)) sm_a53_32 rfl rfl rfl ?_
  refine ru_go (t := (34, [some (.inr (some a0)), some (.inr r1), some (.inr r2), some (.inl x3), some (.inl x4), z5], [.inr r2, .inr (some a0)], sm_putI M b1 6 y0)) sm_a53_33 rfl rfl rfl ?_
  refine ru_go (t := (36, [some (.inr (some a0)), some (.inr r1), some (.inr r2), some (.inl x3), some (.inl x4), z5], [.inl 6, .inr r2, .inr (some a0)], sm_putI M b1 6 y0)) sm_a53_34 rfl rfl (st_bipush (by decide)) ?_
  obtain ⟨b_2, hb_3, h⟩ := h
  rw [hb_3]
  obtain ⟨h_4, h⟩ := h
  exact ru_call (p := 39) sm_a53_36 rfl (sc_virt (Or.inl rfl) rfl rfl h_4 (Nat.le_of_ble_eq_true rfl)) rfl h
theorem bb_53_39 {d : Nat} {M : sm_M} {Q : Option sm_V → sm_M → Prop} {a0 : Nat} {r1 : Option Nat} {r2 : Option Nat} {x3 : Int32} {x4 : Int32} {z5 : Option sm_V} {y0 : Int32} {b1 : Nat}
    (h : sm_K M b1 = 12 ∧ sm_K M a0 = 12 ∧ ((32768 ≤ x3 → ∃ b_4, r1 = some b_4 ∧ sm_K M b_4 = 15 ∧ sm_Run d 71 0 (sm_ent 71 [.inr (some b_4), .inl x3, .inl (sm_I (sm_putI (sm_putI (sm_putI (sm_putI (sm_putI M b1 5 y0) a0 1 1) a0 4 0) a0 7 0) a0 9 0) a0 6), .inl x4, .inr (sm_R (sm_putI (sm_putI (sm_putI (sm_putI (sm_putI M b1 5 y0) a0 1 1) a0 4 0) a0 7 0) a0 9 0) a0 2)]) [] (sm_putI (sm_putI (sm_putI (sm_putI (sm_putI M b1 5 y0) a0 1 1) a0 4 0) a0 7 0) a0 9 0) (fun v M1 => sm_Run (d + 1) 53 96 [some (.inr (some a0)), some (.inr (some b_4)), some (.inr r2), some (.inl x3), some (.inl x4), z5] (v.toList ++ []) M1 Q)) ∧ (¬ (32768 ≤ x3) → sm_Run d 54 0 (sm_ent 54 [.inr (some a0), .inr r1, .inl x3, .inl x4]) [] (sm_putI (sm_putI (sm_putI (sm_putI (sm_putI M b1 5 y0) a0 1 1) a0 4 0) a0 7 0) a0 9 0) (fun v M1 => sm_Run (d + 1) 53 77 [some (.inr (some a0)), some (.inr r1), some (.inr r2), some (.inl x3), some (.inl x4), z5] (v.toList ++ [.inr (some a0)]) M1 Q)))) :
    sm_Run (d + 1) 53 39 [some (.inr (some a0)), some (.inr r1), some (.inr r2), some (.inl x3), some (.inl x4), z5] [.inl y0, .inr (some b1)] M Q := by
  obtain ⟨h_1, h⟩ := h
  refine ru_go (t := (42, [some (.inr (some a0)), some (.inr r1), some (.inr r2), some (.inl x3), some (.inl x4), z5], [], sm_putI M b1 5 y0)) sm_a53_39 rfl rfl (st_putI h_1 rfl) ?_
  refine ru_go (t := (43, [some (.inr (some a0)), some (.inr r1), some (.inr r2), some (.inl x3), some (.inl x4), z5], [.inr (some a0)], sm_putI M b1 5 y0)) sm_a53_42 rfl rfl rfl ?_
  refine ru_go (t := (44, [some (.inr (some a0)), some (.inr r1), some (.inr r2), some (.inl x3), some (.inl x4), z5], [.inl 1, .inr (some a0)], sm_putI M b1 5 y0)) sm_a53_43 rfl rfl (st_iconst (by decide)) ?_
  obtain ⟨h_2, h⟩ := h
  refine ru_go (t := (47, [some (.inr (some a0)), some (.inr r1), some (.inr r2), some (.inl x3), some (.inl x4), z5], [], sm_putI (sm_putI M b1 5 y0) a0 1 1)) sm_a53_44 rfl rfl (st_putI h_2 rfl) ?_
  refine ru_go (t := (48, [some (.inr (some a0)), some (.inr r1), some (.inr r2), some (.inl x3), some (.inl x4), z5], [.inr (some a0)], sm_putI (sm_putI M b1 5 y0) a0 1 1)) sm_a53_47 rfl rfl rfl ?_
  refine ru_go (t := (49, [some (.inr (some a0)), some (.inr r1), some (.inr r2), some (.inl x3), some (.inl x4), z5], [.inl 0, .inr (some a0)], sm_putI (sm_putI M b1 5 y0) a0 1 1)) sm_a53_48 rfl rfl (st_iconst (by decide)) ?_
  refine ru_go (t := (52, [some (.inr (some a0)), some (.inr r1), some (.inr r2), some (.inl x3), some (.inl x4), z5], [], sm_putI (sm_putI (sm_putI M b1 5 y0) a0 1 1) a0 4 0)) sm_a53_49 rfl rfl (st_putI h_2 rfl) ?_
  refine ru_go (t := (53, [some (.inr (some a0)), some (.inr r1), some (.inr r2), some (.inl x3), some (.inl x4), z5], [.inr (some a0)], sm_putI (sm_putI (sm_putI M b1 5 y0) a0 1 1) a0 4 0)) sm_a53_52 rfl rfl rfl ?_
  refine ru_go (t := (54, [some (.inr (some a0)), some (.inr r1), some (.inr r2), some (.inl x3), some (.inl x4), z5], [.inl 0, .inr (some a0)], sm_putI (sm_putI (sm_putI M b1 5 y0) a0 1 1) a0 4 0)) sm_a53_53 rfl rfl (st_iconst (by decide)) ?_
  refine ru_go (t := (57, [some (.inr (some a0)), some (.inr r1), some (.inr r2), some (.inl x3), some (.inl x4), z5], [], sm_putI (sm_putI (sm_putI (sm_putI M b1 5 y0) a0 1 1) a0 4 0) a0 7 0)) sm_a53_54 rfl rfl (st_putI h_2 rfl) ?_
  refine ru_go (t := (58, [some (.inr (some a0)), some (.inr r1), some (.inr r2), some (.inl x3), some (.inl x4), z5], [.inr (some a0)], sm_putI (sm_putI (sm_putI (sm_putI M b1 5 y0) a0 1 1) a0 4 0) a0 7 0)) sm_a53_57 rfl rfl rfl ?_
  refine ru_go (t := (59, [some (.inr (some a0)), some (.inr r1), some (.inr r2), some (.inl x3), some (.inl x4), z5], [.inl 0, .inr (some a0)], sm_putI (sm_putI (sm_putI (sm_putI M b1 5 y0) a0 1 1) a0 4 0) a0 7 0)) sm_a53_58 rfl rfl (st_iconst (by decide)) ?_
  refine ru_go (t := (62, [some (.inr (some a0)), some (.inr r1), some (.inr r2), some (.inl x3), some (.inl x4), z5], [], sm_putI (sm_putI (sm_putI (sm_putI (sm_putI M b1 5 y0) a0 1 1) a0 4 0) a0 7 0) a0 9 0)) sm_a53_59 rfl rfl (st_putI h_2 (by decide)) ?_
  refine ru_go (t := (63, [some (.inr (some a0)), some (.inr r1), some (.inr r2), some (.inl x3), some (.inl x4), z5], [.inl x3], sm_putI (sm_putI (sm_putI (sm_putI (sm_putI M b1 5 y0) a0 1 1) a0 4 0) a0 7 0) a0 9 0)) sm_a53_62 rfl rfl rfl ?_
  refine ru_go (t := (65, [some (.inr (some a0)), some (.inr r1), some (.inr r2), some (.inl x3), some (.inl x4), z5], [.inl 32768, .inl x3], sm_putI (sm_putI (sm_putI (sm_putI (sm_putI M b1 5 y0) a0 1 1) a0 4 0) a0 7 0) a0 9 0)) sm_a53_63 rfl rfl (st_ldc (by decide)) ?_
  refine ru_icmp (pc := 65) (p := 81) (p2 := 68) sm_a53_65 (by decide) rfl ⟨fun hc_3 => ?_, fun hc_3 => ?_⟩
  · have h := h.1 hc_3
    refine ru_go (t := (82, [some (.inr (some a0)), some (.inr r1), some (.inr r2), some (.inl x3), some (.inl x4), z5], [.inr r1], sm_putI (sm_putI (sm_putI (sm_putI (sm_putI M b1 5 y0) a0 1 1) a0 4 0) a0 7 0) a0 9 0)) sm_a53_81 rfl rfl rfl ?_
    refine ru_go (t := (83, [some (.inr (some a0)), some (.inr r1), some (.inr r2), some (.inl x3), some (.inl x4), z5], [.inl x3, .inr r1], sm_putI (sm_putI (sm_putI (sm_putI (sm_putI M b1 5 y0) a0 1 1) a0 4 0) a0 7 0) a0 9 0)) sm_a53_82 rfl rfl rfl ?_
    refine ru_go (t := (84, [some (.inr (some a0)), some (.inr r1), some (.inr r2), some (.inl x3), some (.inl x4), z5], [.inr (some a0), .inl x3, .inr r1], sm_putI (sm_putI (sm_putI (sm_putI (sm_putI M b1 5 y0) a0 1 1) a0 4 0) a0 7 0) a0 9 0)) sm_a53_83 rfl rfl rfl ?_
    refine ru_go (t := (87, [some (.inr (some a0)), some (.inr r1), some (.inr r2), some (.inl x3), some (.inl x4), z5], [.inl (sm_I (sm_putI (sm_putI (sm_putI (sm_putI (sm_putI M b1 5 y0) a0 1 1) a0 4 0) a0 7 0) a0 9 0) a0 6), .inl x3, .inr r1], sm_putI (sm_putI (sm_putI (sm_putI (sm_putI M b1 5 y0) a0 1 1) a0 4 0) a0 7 0) a0 9 0)) sm_a53_84 rfl rfl (st_getI h_2 rfl) ?_
    refine ru_go (t := (89, [some (.inr (some a0)), some (.inr r1), some (.inr r2), some (.inl x3), some (.inl x4), z5], [.inl x4, .inl (sm_I (sm_putI (sm_putI (sm_putI (sm_putI (sm_putI M b1 5 y0) a0 1 1) a0 4 0) a0 7 0) a0 9 0) a0 6), .inl x3, .inr r1], sm_putI (sm_putI (sm_putI (sm_putI (sm_putI M b1 5 y0) a0 1 1) a0 4 0) a0 7 0) a0 9 0)) sm_a53_87 rfl rfl rfl ?_
    refine ru_go (t := (90, [some (.inr (some a0)), some (.inr r1), some (.inr r2), some (.inl x3), some (.inl x4), z5], [.inr (some a0), .inl x4, .inl (sm_I (sm_putI (sm_putI (sm_putI (sm_putI (sm_putI M b1 5 y0) a0 1 1) a0 4 0) a0 7 0) a0 9 0) a0 6), .inl x3, .inr r1], sm_putI (sm_putI (sm_putI (sm_putI (sm_putI M b1 5 y0) a0 1 1) a0 4 0) a0 7 0) a0 9 0)) sm_a53_89 rfl rfl rfl ?_
    refine ru_go (t := (93, [some (.inr (some a0)), some (.inr r1), some (.inr r2), some (.inl x3), some (.inl x4), z5], [.inr (sm_R (sm_putI (sm_putI (sm_putI (sm_putI (sm_putI M b1 5 y0) a0 1 1) a0 4 0) a0 7 0) a0 9 0) a0 2), .inl x4, .inl (sm_I (sm_putI (sm_putI (sm_putI (sm_putI (sm_putI M b1 5 y0) a0 1 1) a0 4 0) a0 7 0) a0 9 0) a0 6), .inl x3, .inr r1], sm_putI (sm_putI (sm_putI (sm_putI (sm_putI M b1 5 y0) a0 1 1) a0 4 0) a0 7 0) a0 9 0)) sm_a53_90 rfl rfl (st_getR h_2 rfl rfl) ?_
    obtain ⟨b_4, hb_5, h⟩ := h
    rw [hb_5]
    obtain ⟨h_6, h⟩ := h
    exact ru_call (p := 96) sm_a53_93 rfl (sc_virt (Or.inl rfl) rfl rfl h_6 (Nat.le_of_ble_eq_true rfl)) rfl h
  · have h := h.2 hc_3
    refine ru_go (t := (69, [some (.inr (some a0)), some (.inr r1), some (.inr r2), some (.inl x3), some (.inl x4), z5], [.inr (some a0)], sm_putI (sm_putI (sm_putI (sm_putI (sm_putI M b1 5 y0) a0 1 1) a0 4 0) a0 7 0) a0 9 0)) sm_a53_68 rfl rfl rfl ?_
    refine ru_go (t := (70, [some (.inr (some a0)), some (.inr r1), some (.inr r2), some (.inl x3), some (.inl x4), z5], [.inr (some a0), .inr (some a0)], sm_putI (sm_putI (sm_putI (sm_putI (sm_putI M b1 5 y0) a0 1 1) a0 4 0) a0 7 0) a0 9 0)) sm_a53_69 rfl rfl rfl ?_
    refine ru_go (t := (71, [some (.inr (some a0)), some (.inr r1), some (.inr r2), some (.inl x3), some (.inl x4), z5], [.inr r1, .inr (some a0), .inr (some a0)], sm_putI (sm_putI (sm_putI (sm_putI (sm_putI M b1 5 y0) a0 1 1) a0 4 0) a0 7 0) a0 9 0)) sm_a53_70 rfl rfl rfl ?_
    refine ru_go (t := (72, [some (.inr (some a0)), some (.inr r1), some (.inr r2), some (.inl x3), some (.inl x4), z5], [.inl x3, .inr r1, .inr (some a0), .inr (some a0)], sm_putI (sm_putI (sm_putI (sm_putI (sm_putI M b1 5 y0) a0 1 1) a0 4 0) a0 7 0) a0 9 0)) sm_a53_71 rfl rfl rfl ?_
    refine ru_go (t := (74, [some (.inr (some a0)), some (.inr r1), some (.inr r2), some (.inl x3), some (.inl x4), z5], [.inl x4, .inl x3, .inr r1, .inr (some a0), .inr (some a0)], sm_putI (sm_putI (sm_putI (sm_putI (sm_putI M b1 5 y0) a0 1 1) a0 4 0) a0 7 0) a0 9 0)) sm_a53_72 rfl rfl rfl ?_
    exact ru_call (p := 77) sm_a53_74 rfl (sc_virt (Or.inl rfl) rfl rfl h_2 (Nat.le_of_ble_eq_true rfl)) rfl h
theorem bb_53_77 {d : Nat} {M : sm_M} {Q : Option sm_V → sm_M → Prop} {a0 : Nat} {r1 : Option Nat} {r2 : Option Nat} {x3 : Int32} {x4 : Int32} {z5 : Option sm_V} {y0 : Int32} {b1 : Nat}
    (h : sm_K M b1 = 12 ∧ Q none (sm_putI M b1 0 y0)) :
    sm_Run (d + 1) 53 77 [some (.inr (some a0)), some (.inr r1), some (.inr r2), some (.inl x3), some (.inl x4), z5] [.inl y0, .inr (some b1)] M Q := by
  obtain ⟨h_1, h⟩ := h
  refine ru_go (t := (80, [some (.inr (some a0)), some (.inr r1), some (.inr r2), some (.inl x3), some (.inl x4), z5], [], sm_putI M b1 0 y0)) sm_a53_77 rfl rfl (st_putI h_1 rfl) ?_
  exact ru_ret sm_a53_80 (sm_rvv rfl) h
theorem bb_53_96 {d : Nat} {M : sm_M} {Q : Option sm_V → sm_M → Prop} {a0 : Nat} {r1 : Option Nat} {r2 : Option Nat} {x3 : Int32} {x4 : Int32} {z5 : Option sm_V} {y0 : Int32}
    (h : sm_K M a0 = 12 ∧ ((¬ y0 = (-1) → ((¬ (sm_I (sm_putI M a0 3 (if sm_I M a0 5 < y0 then sm_I M a0 5 else y0)) a0 5) = 0 → Q none (sm_putI (sm_putI M a0 3 (if sm_I M a0 5 < y0 then sm_I M a0 5 else y0)) a0 0 2)) ∧ (¬ (¬ (sm_I (sm_putI M a0 3 (if sm_I M a0 5 < y0 then sm_I M a0 5 else y0)) a0 5) = 0) → Q none (sm_putI (sm_putI M a0 3 (if sm_I M a0 5 < y0 then sm_I M a0 5 else y0)) a0 0 5)))) ∧ (¬ (¬ y0 = (-1)) → Q none (sm_putI (sm_putI M a0 3 (if sm_I M a0 5 < y0 then sm_I M a0 5 else y0)) a0 0 1)))) :
    sm_Run (d + 1) 53 96 [some (.inr (some a0)), some (.inr r1), some (.inr r2), some (.inl x3), some (.inl x4), z5] [.inl y0] M Q := by
  refine ru_go (t := (98, [some (.inr (some a0)), some (.inr r1), some (.inr r2), some (.inl x3), some (.inl x4), some (.inl y0)], [], M)) sm_a53_96 rfl rfl rfl ?_
  refine ru_go (t := (99, [some (.inr (some a0)), some (.inr r1), some (.inr r2), some (.inl x3), some (.inl x4), some (.inl y0)], [.inr (some a0)], M)) sm_a53_98 rfl rfl rfl ?_
  refine ru_go (t := (101, [some (.inr (some a0)), some (.inr r1), some (.inr r2), some (.inl x3), some (.inl x4), some (.inl y0)], [.inl y0, .inr (some a0)], M)) sm_a53_99 rfl rfl rfl ?_
  refine ru_go (t := (102, [some (.inr (some a0)), some (.inr r1), some (.inr r2), some (.inl x3), some (.inl x4), some (.inl y0)], [.inr (some a0), .inl y0, .inr (some a0)], M)) sm_a53_101 rfl rfl rfl ?_
  obtain ⟨h_1, h⟩ := h
  refine ru_go (t := (105, [some (.inr (some a0)), some (.inr r1), some (.inr r2), some (.inl x3), some (.inl x4), some (.inl y0)], [.inl (sm_I M a0 5), .inl y0, .inr (some a0)], M)) sm_a53_102 rfl rfl (st_getI h_1 rfl) ?_
  refine ru_go (t := (108, [some (.inr (some a0)), some (.inr r1), some (.inr r2), some (.inl x3), some (.inl x4), some (.inl y0)], [.inl (if sm_I M a0 5 < y0 then sm_I M a0 5 else y0), .inr (some a0)], M)) sm_a53_105 rfl rfl (st_min (Nat.le_of_ble_eq_true rfl)) ?_
  refine ru_go (t := (111, [some (.inr (some a0)), some (.inr r1), some (.inr r2), some (.inl x3), some (.inl x4), some (.inl y0)], [], sm_putI M a0 3 (if sm_I M a0 5 < y0 then sm_I M a0 5 else y0))) sm_a53_108 rfl rfl (st_putI h_1 rfl) ?_
  refine ru_go (t := (112, [some (.inr (some a0)), some (.inr r1), some (.inr r2), some (.inl x3), some (.inl x4), some (.inl y0)], [.inr (some a0)], sm_putI M a0 3 (if sm_I M a0 5 < y0 then sm_I M a0 5 else y0))) sm_a53_111 rfl rfl rfl ?_
  refine ru_go (t := (114, [some (.inr (some a0)), some (.inr r1), some (.inr r2), some (.inl x3), some (.inl x4), some (.inl y0)], [.inl y0, .inr (some a0)], sm_putI M a0 3 (if sm_I M a0 5 < y0 then sm_I M a0 5 else y0))) sm_a53_112 rfl rfl rfl ?_
  refine ru_go (t := (115, [some (.inr (some a0)), some (.inr r1), some (.inr r2), some (.inl x3), some (.inl x4), some (.inl y0)], [.inl (-1), .inl y0, .inr (some a0)], sm_putI M a0 3 (if sm_I M a0 5 < y0 then sm_I M a0 5 else y0))) sm_a53_114 rfl rfl (st_iconst (by decide)) ?_
  refine ru_icmp (pc := 115) (p := 122) (p2 := 118) sm_a53_115 (by decide) rfl ⟨fun hc_2 => ?_, fun hc_2 => ?_⟩
  · have h := h.1 hc_2
    refine ru_go (t := (123, [some (.inr (some a0)), some (.inr r1), some (.inr r2), some (.inl x3), some (.inl x4), some (.inl y0)], [.inr (some a0), .inr (some a0)], sm_putI M a0 3 (if sm_I M a0 5 < y0 then sm_I M a0 5 else y0))) sm_a53_122 rfl rfl rfl ?_
    refine ru_go (t := (126, [some (.inr (some a0)), some (.inr r1), some (.inr r2), some (.inl x3), some (.inl x4), some (.inl y0)], [.inl (sm_I (sm_putI M a0 3 (if sm_I M a0 5 < y0 then sm_I M a0 5 else y0)) a0 5), .inr (some a0)], sm_putI M a0 3 (if sm_I M a0 5 < y0 then sm_I M a0 5 else y0))) sm_a53_123 rfl rfl (st_getI h_1 rfl) ?_
    refine ru_if (pc := 126) (p := 133) (p2 := 129) sm_a53_126 (by decide) rfl ⟨fun hc_3 => ?_, fun hc_3 => ?_⟩
    · have h := h.1 hc_3
      refine ru_go (t := (134, [some (.inr (some a0)), some (.inr r1), some (.inr r2), some (.inl x3), some (.inl x4), some (.inl y0)], [.inl 2, .inr (some a0)], sm_putI M a0 3 (if sm_I M a0 5 < y0 then sm_I M a0 5 else y0))) sm_a53_133 rfl rfl (st_iconst (by decide)) ?_
      refine ru_go (t := (137, [some (.inr (some a0)), some (.inr r1), some (.inr r2), some (.inl x3), some (.inl x4), some (.inl y0)], [], sm_putI (sm_putI M a0 3 (if sm_I M a0 5 < y0 then sm_I M a0 5 else y0)) a0 0 2)) sm_a53_134 rfl rfl (st_putI h_1 rfl) ?_
      exact ru_ret sm_a53_137 (sm_rvv rfl) h
    · have h := h.2 hc_3
      refine ru_go (t := (130, [some (.inr (some a0)), some (.inr r1), some (.inr r2), some (.inl x3), some (.inl x4), some (.inl y0)], [.inl 5, .inr (some a0)], sm_putI M a0 3 (if sm_I M a0 5 < y0 then sm_I M a0 5 else y0))) sm_a53_129 rfl rfl (st_iconst (by decide)) ?_
      refine ru_go (t := (134, [some (.inr (some a0)), some (.inr r1), some (.inr r2), some (.inl x3), some (.inl x4), some (.inl y0)], [.inl 5, .inr (some a0)], sm_putI M a0 3 (if sm_I M a0 5 < y0 then sm_I M a0 5 else y0))) sm_a53_130 rfl rfl (st_goto (pc := 130) (by decide)) ?_
      refine ru_go (t := (137, [some (.inr (some a0)), some (.inr r1), some (.inr r2), some (.inl x3), some (.inl x4), some (.inl y0)], [], sm_putI (sm_putI M a0 3 (if sm_I M a0 5 < y0 then sm_I M a0 5 else y0)) a0 0 5)) sm_a53_134 rfl rfl (st_putI h_1 rfl) ?_
      exact ru_ret sm_a53_137 (sm_rvv rfl) h
  · have h := h.2 hc_2
    refine ru_go (t := (119, [some (.inr (some a0)), some (.inr r1), some (.inr r2), some (.inl x3), some (.inl x4), some (.inl y0)], [.inl 1, .inr (some a0)], sm_putI M a0 3 (if sm_I M a0 5 < y0 then sm_I M a0 5 else y0))) sm_a53_118 rfl rfl (st_iconst (by decide)) ?_
    refine ru_go (t := (134, [some (.inr (some a0)), some (.inr r1), some (.inr r2), some (.inl x3), some (.inl x4), some (.inl y0)], [.inl 1, .inr (some a0)], sm_putI M a0 3 (if sm_I M a0 5 < y0 then sm_I M a0 5 else y0))) sm_a53_119 rfl rfl (st_goto (pc := 119) (by decide)) ?_
    refine ru_go (t := (137, [some (.inr (some a0)), some (.inr r1), some (.inr r2), some (.inl x3), some (.inl x4), some (.inl y0)], [], sm_putI (sm_putI M a0 3 (if sm_I M a0 5 < y0 then sm_I M a0 5 else y0)) a0 0 1)) sm_a53_134 rfl rfl (st_putI h_1 rfl) ?_
    exact ru_ret sm_a53_137 (sm_rvv rfl) h

/-! WireBus$ControlPoint.beginFromHost:(LWireBus$Device;II)I -/
theorem sm_a54_0 : sm_at 54 0 = some (.iload_n 2, 1, (0, 0, 0, 0)) := by decide +kernel
theorem sm_a54_1 : sm_at 54 1 = some (.sipush 16385, 3, (0, 0, 0, 0)) := by decide +kernel
theorem sm_a54_4 : sm_at 54 4 = some (.if_icmp .ne 32, 3, (0, 0, 0, 0)) := by decide +kernel
theorem sm_a54_7 : sm_at 54 7 = some (.aload_n 0, 1, (0, 0, 0, 0)) := by decide +kernel
theorem sm_a54_8 : sm_at 54 8 = some (.getfield 24, 3, (3, 6, 0, 228)) := by decide +kernel
theorem sm_a54_11 : sm_at 54 11 = some (.aload_n 0, 1, (0, 0, 0, 0)) := by decide +kernel
theorem sm_a54_12 : sm_at 54 12 = some (.getfield 28, 3, (3, 5, 0, 227)) := by decide +kernel
theorem sm_a54_15 : sm_at 54 15 = some (.iadd, 1, (0, 0, 0, 0)) := by decide +kernel
theorem sm_a54_16 : sm_at 54 16 = some (.bipush 64, 2, (0, 0, 0, 0)) := by decide +kernel
theorem sm_a54_18 : sm_at 54 18 = some (.if_icmp .le 5, 3, (0, 0, 0, 0)) := by decide +kernel
theorem sm_a54_21 : sm_at 54 21 = some (.iconst 1, 1, (0, 0, 0, 0)) := by decide +kernel
theorem sm_a54_22 : sm_at 54 22 = some (.ireturn, 1, (0, 0, 0, 0)) := by decide +kernel
theorem sm_a54_23 : sm_at 54 23 = some (.aload_n 0, 1, (0, 0, 0, 0)) := by decide +kernel
theorem sm_a54_24 : sm_at 54 24 = some (.getfield 28, 3, (3, 5, 0, 227)) := by decide +kernel
theorem sm_a54_27 : sm_at 54 27 = some (.ifCond .ne 7, 3, (0, 0, 0, 0)) := by decide +kernel
theorem sm_a54_30 : sm_at 54 30 = some (.iconst 5, 1, (0, 0, 0, 0)) := by decide +kernel
theorem sm_a54_31 : sm_at 54 31 = some (.goto 4, 3, (0, 0, 0, 0)) := by decide +kernel
theorem sm_a54_34 : sm_at 54 34 = some (.iconst 4, 1, (0, 0, 0, 0)) := by decide +kernel
theorem sm_a54_35 : sm_at 54 35 = some (.ireturn, 1, (0, 0, 0, 0)) := by decide +kernel
theorem sm_a54_36 : sm_at 54 36 = some (.aload_n 0, 1, (0, 0, 0, 0)) := by decide +kernel
theorem sm_a54_37 : sm_at 54 37 = some (.getfield 28, 3, (3, 5, 0, 227)) := by decide +kernel
theorem sm_a54_40 : sm_at 54 40 = some (.ifCond .eq 5, 3, (0, 0, 0, 0)) := by decide +kernel
theorem sm_a54_43 : sm_at 54 43 = some (.iconst 1, 1, (0, 0, 0, 0)) := by decide +kernel
theorem sm_a54_44 : sm_at 54 44 = some (.ireturn, 1, (0, 0, 0, 0)) := by decide +kernel
theorem sm_a54_45 : sm_at 54 45 = some (.iload_n 2, 1, (0, 0, 0, 0)) := by decide +kernel
theorem sm_a54_46 : sm_at 54 46 = some (.iconst 5, 1, (0, 0, 0, 0)) := by decide +kernel
theorem sm_a54_47 : sm_at 54 47 = some (.if_icmp .ne 32, 3, (0, 0, 0, 0)) := by decide +kernel
theorem sm_a54_50 : sm_at 54 50 = some (.aload_n 0, 1, (0, 0, 0, 0)) := by decide +kernel
theorem sm_a54_51 : sm_at 54 51 = some (.getfield 24, 3, (3, 6, 0, 228)) := by decide +kernel
theorem sm_a54_54 : sm_at 54 54 = some (.iconst 1, 1, (0, 0, 0, 0)) := by decide +kernel
theorem sm_a54_55 : sm_at 54 55 = some (.if_icmp .lt 12, 3, (0, 0, 0, 0)) := by decide +kernel
theorem sm_a54_58 : sm_at 54 58 = some (.aload_n 0, 1, (0, 0, 0, 0)) := by decide +kernel
theorem sm_a54_59 : sm_at 54 59 = some (.getfield 24, 3, (3, 6, 0, 228)) := by decide +kernel
theorem sm_a54_62 : sm_at 54 62 = some (.bipush 127, 2, (0, 0, 0, 0)) := by decide +kernel
theorem sm_a54_64 : sm_at 54 64 = some (.if_icmp .le 5, 3, (0, 0, 0, 0)) := by decide +kernel
theorem sm_a54_67 : sm_at 54 67 = some (.iconst 1, 1, (0, 0, 0, 0)) := by decide +kernel
theorem sm_a54_68 : sm_at 54 68 = some (.ireturn, 1, (0, 0, 0, 0)) := by decide +kernel
theorem sm_a54_69 : sm_at 54 69 = some (.aload_n 0, 1, (0, 0, 0, 0)) := by decide +kernel
theorem sm_a54_70 : sm_at 54 70 = some (.aload_n 0, 1, (0, 0, 0, 0)) := by decide +kernel
theorem sm_a54_71 : sm_at 54 71 = some (.getfield 24, 3, (3, 6, 0, 228)) := by decide +kernel
theorem sm_a54_74 : sm_at 54 74 = some (.putfield 37, 3, (3, 7, 0, 229)) := by decide +kernel
theorem sm_a54_77 : sm_at 54 77 = some (.iconst 5, 1, (0, 0, 0, 0)) := by decide +kernel
theorem sm_a54_78 : sm_at 54 78 = some (.ireturn, 1, (0, 0, 0, 0)) := by decide +kernel
theorem sm_a54_79 : sm_at 54 79 = some (.aload_n 1, 1, (0, 0, 0, 0)) := by decide +kernel
theorem sm_a54_80 : sm_at 54 80 = some (.iload_n 2, 1, (0, 0, 0, 0)) := by decide +kernel
theorem sm_a54_81 : sm_at 54 81 = some (.aload_n 0, 1, (0, 0, 0, 0)) := by decide +kernel
theorem sm_a54_82 : sm_at 54 82 = some (.getfield 24, 3, (3, 6, 0, 228)) := by decide +kernel
theorem sm_a54_85 : sm_at 54 85 = some (.iload_n 3, 1, (0, 0, 0, 0)) := by decide +kernel
theorem sm_a54_86 : sm_at 54 86 = some (.invokevirtual 67, 3, (10, 76, 4, 901)) := by decide +kernel
theorem sm_a54_89 : sm_at 54 89 = some (.ifCond .eq 7, 3, (0, 0, 0, 0)) := by decide +kernel
theorem sm_a54_92 : sm_at 54 92 = some (.iconst 5, 1, (0, 0, 0, 0)) := by decide +kernel
theorem sm_a54_93 : sm_at 54 93 = some (.goto 4, 3, (0, 0, 0, 0)) := by decide +kernel
theorem sm_a54_96 : sm_at 54 96 = some (.iconst 1, 1, (0, 0, 0, 0)) := by decide +kernel
theorem sm_a54_97 : sm_at 54 97 = some (.ireturn, 1, (0, 0, 0, 0)) := by decide +kernel
theorem bb_54_0 {d : Nat} {M : sm_M} {Q : Option sm_V → sm_M → Prop} {a0 : Nat} {r1 : Option Nat} {x2 : Int32} {x3 : Int32}
    (h : ((¬ x2 = 16385 → sm_K M a0 = 12 ∧ (((sm_I M a0 5) = 0 → ((¬ x2 = 5 → ∃ b_5, r1 = some b_5 ∧ sm_K M b_5 = 15 ∧ sm_Run d 76 0 (sm_ent 76 [.inr (some b_5), .inl x2, .inl (sm_I M a0 6), .inl x3]) [] M (fun v M1 => sm_Run (d + 1) 54 89 [some (.inr (some a0)), some (.inr (some b_5)), some (.inl x2), some (.inl x3)] (v.toList ++ []) M1 Q)) ∧ (¬ (¬ x2 = 5) → (((sm_I M a0 6) < 1 → Q (some (.inl 1)) M) ∧ (¬ ((sm_I M a0 6) < 1) → (((sm_I M a0 6) ≤ 127 → Q (some (.inl 5)) (sm_putI M a0 7 (sm_I M a0 6))) ∧ (¬ ((sm_I M a0 6) ≤ 127) → Q (some (.inl 1)) M))))))) ∧ (¬ ((sm_I M a0 5) = 0) → Q (some (.inl 1)) M))) ∧ (¬ (¬ x2 = 16385) → sm_K M a0 = 12 ∧ ((((sm_I M a0 6) + (sm_I M a0 5)) ≤ 64 → ((¬ (sm_I M a0 5) = 0 → Q (some (.inl 4)) M) ∧ (¬ (¬ (sm_I M a0 5) = 0) → Q (some (.inl 5)) M))) ∧ (¬ (((sm_I M a0 6) + (sm_I M a0 5)) ≤ 64) → Q (some (.inl 1)) M))))) :
    sm_Run (d + 1) 54 0 [some (.inr (some a0)), some (.inr r1), some (.inl x2), some (.inl x3)] [] M Q := by
  refine ru_go (t := (1, [some (.inr (some a0)), some (.inr r1), some (.inl x2), some (.inl x3)], [.inl x2], M)) sm_a54_0 rfl rfl rfl ?_
  refine ru_go (t := (4, [some (.inr (some a0)), some (.inr r1), some (.inl x2), some (.inl x3)], [.inl 16385, .inl x2], M)) sm_a54_1 rfl rfl (st_sipush (by decide)) ?_
  refine ru_icmp (pc := 4) (p := 36) (p2 := 7) sm_a54_4 (by decide) rfl ⟨fun hc_1 => ?_, fun hc_1 => ?_⟩
  · have h := h.1 hc_1
    refine ru_go (t := (37, [some (.inr (some a0)), some (.inr r1), some (.inl x2), some (.inl x3)], [.inr (some a0)], M)) sm_a54_36 rfl rfl rfl ?_
    obtain ⟨h_2, h⟩ := h
    refine ru_go (t := (40, [some (.inr (some a0)), some (.inr r1), some (.inl x2), some (.inl x3)], [.inl (sm_I M a0 5)], M)) sm_a54_37 rfl rfl (st_getI h_2 rfl) ?_
    refine ru_if (pc := 40) (p := 45) (p2 := 43) sm_a54_40 (by decide) rfl ⟨fun hc_3 => ?_, fun hc_3 => ?_⟩
    · have h := h.1 hc_3
      refine ru_go (t := (46, [some (.inr (some a0)), some (.inr r1), some (.inl x2), some (.inl x3)], [.inl x2], M)) sm_a54_45 rfl rfl rfl ?_
      refine ru_go (t := (47, [some (.inr (some a0)), some (.inr r1), some (.inl x2), some (.inl x3)], [.inl 5, .inl x2], M)) sm_a54_46 rfl rfl (st_iconst (by decide)) ?_
      refine ru_icmp (pc := 47) (p := 79) (p2 := 50) sm_a54_47 (by decide) rfl ⟨fun hc_4 => ?_, fun hc_4 => ?_⟩
      · have h := h.1 hc_4
        refine ru_go (t := (80, [some (.inr (some a0)), some (.inr r1), some (.inl x2), some (.inl x3)], [.inr r1], M)) sm_a54_79 rfl rfl rfl ?_
        refine ru_go (t := (81, [some (.inr (some a0)), some (.inr r1), some (.inl x2), some (.inl x3)], [.inl x2, .inr r1], M)) sm_a54_80 rfl rfl rfl ?_
        refine ru_go (t := (82, [some (.inr (some a0)), some (.inr r1), some (.inl x2), some (.inl x3)], [.inr (some a0), .inl x2, .inr r1], M)) sm_a54_81 rfl rfl rfl ?_
        refine ru_go (t := (85, [some (.inr (some a0)), some (.inr r1), some (.inl x2), some (.inl x3)], [.inl (sm_I M a0 6), .inl x2, .inr r1], M)) sm_a54_82 rfl rfl (st_getI h_2 rfl) ?_
        refine ru_go (t := (86, [some (.inr (some a0)), some (.inr r1), some (.inl x2), some (.inl x3)], [.inl x3, .inl (sm_I M a0 6), .inl x2, .inr r1], M)) sm_a54_85 rfl rfl rfl ?_
        obtain ⟨b_5, hb_6, h⟩ := h
        rw [hb_6]
        obtain ⟨h_7, h⟩ := h
        exact ru_call (p := 89) sm_a54_86 rfl (sc_virt (Or.inl rfl) rfl rfl h_7 (Nat.le_of_ble_eq_true rfl)) rfl h
      · have h := h.2 hc_4
        refine ru_go (t := (51, [some (.inr (some a0)), some (.inr r1), some (.inl x2), some (.inl x3)], [.inr (some a0)], M)) sm_a54_50 rfl rfl rfl ?_
        refine ru_go (t := (54, [some (.inr (some a0)), some (.inr r1), some (.inl x2), some (.inl x3)], [.inl (sm_I M a0 6)], M)) sm_a54_51 rfl rfl (st_getI h_2 rfl) ?_
        refine ru_go (t := (55, [some (.inr (some a0)), some (.inr r1), some (.inl x2), some (.inl x3)], [.inl 1, .inl (sm_I M a0 6)], M)) sm_a54_54 rfl rfl (st_iconst (by decide)) ?_
        refine ru_icmp (pc := 55) (p := 67) (p2 := 58) sm_a54_55 (by decide) rfl ⟨fun hc_8 => ?_, fun hc_8 => ?_⟩
        · have h := h.1 hc_8
          refine ru_go (t := (68, [some (.inr (some a0)), some (.inr r1), some (.inl x2), some (.inl x3)], [.inl 1], M)) sm_a54_67 rfl rfl (st_iconst (by decide)) ?_
          exact ru_ret sm_a54_68 rfl h
        · have h := h.2 hc_8
          refine ru_go (t := (59, [some (.inr (some a0)), some (.inr r1), some (.inl x2), some (.inl x3)], [.inr (some a0)], M)) sm_a54_58 rfl rfl rfl ?_
          refine ru_go (t := (62, [some (.inr (some a0)), some (.inr r1), some (.inl x2), some (.inl x3)], [.inl (sm_I M a0 6)], M)) sm_a54_59 rfl rfl (st_getI h_2 rfl) ?_
          refine ru_go (t := (64, [some (.inr (some a0)), some (.inr r1), some (.inl x2), some (.inl x3)], [.inl 127, .inl (sm_I M a0 6)], M)) sm_a54_62 rfl rfl (st_bipush (by decide)) ?_
          refine ru_icmp (pc := 64) (p := 69) (p2 := 67) sm_a54_64 (by decide) rfl ⟨fun hc_9 => ?_, fun hc_9 => ?_⟩
          · have h := h.1 hc_9
            refine ru_go (t := (70, [some (.inr (some a0)), some (.inr r1), some (.inl x2), some (.inl x3)], [.inr (some a0)], M)) sm_a54_69 rfl rfl rfl ?_
            refine ru_go (t := (71, [some (.inr (some a0)), some (.inr r1), some (.inl x2), some (.inl x3)], [.inr (some a0), .inr (some a0)], M)) sm_a54_70 rfl rfl rfl ?_
            refine ru_go (t := (74, [some (.inr (some a0)), some (.inr r1), some (.inl x2), some (.inl x3)], [.inl (sm_I M a0 6), .inr (some a0)], M)) sm_a54_71 rfl rfl (st_getI h_2 rfl) ?_
            refine ru_go (t := (77, [some (.inr (some a0)), some (.inr r1), some (.inl x2), some (.inl x3)], [], sm_putI M a0 7 (sm_I M a0 6))) sm_a54_74 rfl rfl (st_putI h_2 rfl) ?_
            refine ru_go (t := (78, [some (.inr (some a0)), some (.inr r1), some (.inl x2), some (.inl x3)], [.inl 5], sm_putI M a0 7 (sm_I M a0 6))) sm_a54_77 rfl rfl (st_iconst (by decide)) ?_
            exact ru_ret sm_a54_78 rfl h
          · have h := h.2 hc_9
            refine ru_go (t := (68, [some (.inr (some a0)), some (.inr r1), some (.inl x2), some (.inl x3)], [.inl 1], M)) sm_a54_67 rfl rfl (st_iconst (by decide)) ?_
            exact ru_ret sm_a54_68 rfl h
    · have h := h.2 hc_3
      refine ru_go (t := (44, [some (.inr (some a0)), some (.inr r1), some (.inl x2), some (.inl x3)], [.inl 1], M)) sm_a54_43 rfl rfl (st_iconst (by decide)) ?_
      exact ru_ret sm_a54_44 rfl h
  · have h := h.2 hc_1
    refine ru_go (t := (8, [some (.inr (some a0)), some (.inr r1), some (.inl x2), some (.inl x3)], [.inr (some a0)], M)) sm_a54_7 rfl rfl rfl ?_
    obtain ⟨h_10, h⟩ := h
    refine ru_go (t := (11, [some (.inr (some a0)), some (.inr r1), some (.inl x2), some (.inl x3)], [.inl (sm_I M a0 6)], M)) sm_a54_8 rfl rfl (st_getI h_10 rfl) ?_
    refine ru_go (t := (12, [some (.inr (some a0)), some (.inr r1), some (.inl x2), some (.inl x3)], [.inr (some a0), .inl (sm_I M a0 6)], M)) sm_a54_11 rfl rfl rfl ?_
    refine ru_go (t := (15, [some (.inr (some a0)), some (.inr r1), some (.inl x2), some (.inl x3)], [.inl (sm_I M a0 5), .inl (sm_I M a0 6)], M)) sm_a54_12 rfl rfl (st_getI h_10 rfl) ?_
    refine ru_go (t := (16, [some (.inr (some a0)), some (.inr r1), some (.inl x2), some (.inl x3)], [.inl ((sm_I M a0 6) + (sm_I M a0 5))], M)) sm_a54_15 rfl rfl rfl ?_
    refine ru_go (t := (18, [some (.inr (some a0)), some (.inr r1), some (.inl x2), some (.inl x3)], [.inl 64, .inl ((sm_I M a0 6) + (sm_I M a0 5))], M)) sm_a54_16 rfl rfl (st_bipush (by decide)) ?_
    refine ru_icmp (pc := 18) (p := 23) (p2 := 21) sm_a54_18 (by decide) rfl ⟨fun hc_11 => ?_, fun hc_11 => ?_⟩
    · have h := h.1 hc_11
      refine ru_go (t := (24, [some (.inr (some a0)), some (.inr r1), some (.inl x2), some (.inl x3)], [.inr (some a0)], M)) sm_a54_23 rfl rfl rfl ?_
      refine ru_go (t := (27, [some (.inr (some a0)), some (.inr r1), some (.inl x2), some (.inl x3)], [.inl (sm_I M a0 5)], M)) sm_a54_24 rfl rfl (st_getI h_10 rfl) ?_
      refine ru_if (pc := 27) (p := 34) (p2 := 30) sm_a54_27 (by decide) rfl ⟨fun hc_12 => ?_, fun hc_12 => ?_⟩
      · have h := h.1 hc_12
        refine ru_go (t := (35, [some (.inr (some a0)), some (.inr r1), some (.inl x2), some (.inl x3)], [.inl 4], M)) sm_a54_34 rfl rfl (st_iconst (by decide)) ?_
        exact ru_ret sm_a54_35 rfl h
      · have h := h.2 hc_12
        refine ru_go (t := (31, [some (.inr (some a0)), some (.inr r1), some (.inl x2), some (.inl x3)], [.inl 5], M)) sm_a54_30 rfl rfl (st_iconst (by decide)) ?_
        refine ru_go (t := (35, [some (.inr (some a0)), some (.inr r1), some (.inl x2), some (.inl x3)], [.inl 5], M)) sm_a54_31 rfl rfl (st_goto (pc := 31) (by decide)) ?_
        exact ru_ret sm_a54_35 rfl h
    · have h := h.2 hc_11
      refine ru_go (t := (22, [some (.inr (some a0)), some (.inr r1), some (.inl x2), some (.inl x3)], [.inl 1], M)) sm_a54_21 rfl rfl (st_iconst (by decide)) ?_
      exact ru_ret sm_a54_22 rfl h
theorem bb_54_89 {d : Nat} {M : sm_M} {Q : Option sm_V → sm_M → Prop} {a0 : Nat} {r1 : Option Nat} {x2 : Int32} {x3 : Int32} {y0 : Int32}
    (h : ((y0 = 0 → Q (some (.inl 1)) M) ∧ (¬ (y0 = 0) → Q (some (.inl 5)) M))) :
    sm_Run (d + 1) 54 89 [some (.inr (some a0)), some (.inr r1), some (.inl x2), some (.inl x3)] [.inl y0] M Q := by
  refine ru_if (pc := 89) (p := 96) (p2 := 92) sm_a54_89 (by decide) rfl ⟨fun hc_1 => ?_, fun hc_1 => ?_⟩
  · have h := h.1 hc_1
    refine ru_go (t := (97, [some (.inr (some a0)), some (.inr r1), some (.inl x2), some (.inl x3)], [.inl 1], M)) sm_a54_96 rfl rfl (st_iconst (by decide)) ?_
    exact ru_ret sm_a54_97 rfl h
  · have h := h.2 hc_1
    refine ru_go (t := (93, [some (.inr (some a0)), some (.inr r1), some (.inl x2), some (.inl x3)], [.inl 5], M)) sm_a54_92 rfl rfl (st_iconst (by decide)) ?_
    refine ru_go (t := (97, [some (.inr (some a0)), some (.inr r1), some (.inl x2), some (.inl x3)], [.inl 5], M)) sm_a54_93 rfl rfl (st_goto (pc := 93) (by decide)) ?_
    exact ru_ret sm_a54_97 rfl h

/-! WireBus$ControlPoint.hearIn:(LWireBus$Device;)V -/
theorem sm_a55_0 : sm_at 55 0 = some (.aload_n 0, 1, (0, 0, 0, 0)) := by decide +kernel
theorem sm_a55_1 : sm_at 55 1 = some (.getfield 49, 3, (3, 0, 0, 221)) := by decide +kernel
theorem sm_a55_4 : sm_at 55 4 = some (.iconst 2, 1, (0, 0, 0, 0)) := by decide +kernel
theorem sm_a55_5 : sm_at 55 5 = some (.if_icmp .ne 15, 3, (0, 0, 0, 0)) := by decide +kernel
theorem sm_a55_8 : sm_at 55 8 = some (.aload_n 0, 1, (0, 0, 0, 0)) := by decide +kernel
theorem sm_a55_9 : sm_at 55 9 = some (.getfield 40, 3, (3, 9, 0, 231)) := by decide +kernel
theorem sm_a55_12 : sm_at 55 12 = some (.ifCond .eq 8, 3, (0, 0, 0, 0)) := by decide +kernel
theorem sm_a55_15 : sm_at 55 15 = some (.aload_n 0, 1, (0, 0, 0, 0)) := by decide +kernel
theorem sm_a55_16 : sm_at 55 16 = some (.iconst 1, 1, (0, 0, 0, 0)) := by decide +kernel
theorem sm_a55_17 : sm_at 55 17 = some (.putfield 49, 3, (3, 0, 0, 221)) := by decide +kernel
theorem sm_a55_20 : sm_at 55 20 = some (.aload_n 0, 1, (0, 0, 0, 0)) := by decide +kernel
theorem sm_a55_21 : sm_at 55 21 = some (.getfield 49, 3, (3, 0, 0, 221)) := by decide +kernel
theorem sm_a55_24 : sm_at 55 24 = some (.tableswitch 132 1 5 #[36, 45, 132, 132, 123], 36, (0, 0, 0, 0)) := by decide +kernel
theorem sm_a55_60 : sm_at 55 60 = some (.aload_n 1, 1, (0, 0, 0, 0)) := by decide +kernel
theorem sm_a55_61 : sm_at 55 61 = some (.bipush 14, 2, (0, 0, 0, 0)) := by decide +kernel
theorem sm_a55_63 : sm_at 55 63 = some (.invokevirtual 71, 3, (10, 65, 4, 863)) := by decide +kernel
theorem sm_a55_66 : sm_at 55 66 = some (.goto 96, 3, (0, 0, 0, 0)) := by decide +kernel
theorem sm_a55_69 : sm_at 55 69 = some (.aload_n 0, 1, (0, 0, 0, 0)) := by decide +kernel
theorem sm_a55_70 : sm_at 55 70 = some (.aload_n 1, 1, (0, 0, 0, 0)) := by decide +kernel
theorem sm_a55_71 : sm_at 55 71 = some (.getfield 75, 3, (4, 0, 1, 256)) := by decide +kernel
theorem sm_a55_74 : sm_at 55 74 = some (.aload_n 0, 1, (0, 0, 0, 0)) := by decide +kernel
theorem sm_a55_75 : sm_at 55 75 = some (.getfield 64, 3, (3, 3, 0, 225)) := by decide +kernel
theorem sm_a55_78 : sm_at 55 78 = some (.aload_n 0, 1, (0, 0, 0, 0)) := by decide +kernel
theorem sm_a55_79 : sm_at 55 79 = some (.getfield 34, 3, (3, 4, 0, 226)) := by decide +kernel
theorem sm_a55_82 : sm_at 55 82 = some (.isub, 1, (0, 0, 0, 0)) := by decide +kernel
theorem sm_a55_83 : sm_at 55 83 = some (.invokestatic 58, 3, (3, 0, 0, 867)) := by decide +kernel
theorem sm_a55_86 : sm_at 55 86 = some (.putfield 78, 3, (3, 8, 0, 230)) := by decide +kernel
theorem sm_a55_89 : sm_at 55 89 = some (.aload_n 1, 1, (0, 0, 0, 0)) := by decide +kernel
theorem sm_a55_90 : sm_at 55 90 = some (.aload_n 0, 1, (0, 0, 0, 0)) := by decide +kernel
theorem sm_a55_91 : sm_at 55 91 = some (.getfield 31, 3, (3, 1, 0, 223)) := by decide +kernel
theorem sm_a55_94 : sm_at 55 94 = some (.iconst 0, 1, (0, 0, 0, 0)) := by decide +kernel
theorem sm_a55_95 : sm_at 55 95 = some (.invokevirtual 81, 3, (10, 66, 4, 868)) := by decide +kernel
theorem sm_a55_98 : sm_at 55 98 = some (.aload_n 0, 1, (0, 0, 0, 0)) := by decide +kernel
theorem sm_a55_99 : sm_at 55 99 = some (.getfield 34, 3, (3, 4, 0, 226)) := by decide +kernel
theorem sm_a55_102 : sm_at 55 102 = some (.istore_n 2, 1, (0, 0, 0, 0)) := by decide +kernel
theorem sm_a55_103 : sm_at 55 103 = some (.iload_n 2, 1, (0, 0, 0, 0)) := by decide +kernel
theorem sm_a55_104 : sm_at 55 104 = some (.aload_n 0, 1, (0, 0, 0, 0)) := by decide +kernel
theorem sm_a55_105 : sm_at 55 105 = some (.getfield 34, 3, (3, 4, 0, 226)) := by decide +kernel
theorem sm_a55_108 : sm_at 55 108 = some (.aload_n 0, 1, (0, 0, 0, 0)) := by decide +kernel
theorem sm_a55_109 : sm_at 55 109 = some (.getfield 78, 3, (3, 8, 0, 230)) := by decide +kernel
theorem sm_a55_112 : sm_at 55 112 = some (.iadd, 1, (0, 0, 0, 0)) := by decide +kernel
theorem sm_a55_113 : sm_at 55 113 = some (.if_icmp .ge 31, 3, (0, 0, 0, 0)) := by decide +kernel
theorem sm_a55_116 : sm_at 55 116 = some (.iload_n 2, 1, (0, 0, 0, 0)) := by decide +kernel
theorem sm_a55_117 : sm_at 55 117 = some (.aload_n 0, 1, (0, 0, 0, 0)) := by decide +kernel
theorem sm_a55_118 : sm_at 55 118 = some (.getfield 9, 3, (3, 2, 0, 224)) := by decide +kernel
theorem sm_a55_121 : sm_at 55 121 = some (.arraylength, 1, (0, 0, 0, 0)) := by decide +kernel
theorem sm_a55_122 : sm_at 55 122 = some (.if_icmp .ge 22, 3, (0, 0, 0, 0)) := by decide +kernel
theorem sm_a55_125 : sm_at 55 125 = some (.aload_n 1, 1, (0, 0, 0, 0)) := by decide +kernel
theorem sm_a55_126 : sm_at 55 126 = some (.getfield 85, 3, (4, 12, 1, 276)) := by decide +kernel
theorem sm_a55_129 : sm_at 55 129 = some (.aload_n 0, 1, (0, 0, 0, 0)) := by decide +kernel
theorem sm_a55_130 : sm_at 55 130 = some (.getfield 9, 3, (3, 2, 0, 224)) := by decide +kernel
theorem sm_a55_133 : sm_at 55 133 = some (.iload_n 2, 1, (0, 0, 0, 0)) := by decide +kernel
theorem sm_a55_134 : sm_at 55 134 = some (.iaload, 1, (0, 0, 0, 0)) := by decide +kernel
theorem sm_a55_135 : sm_at 55 135 = some (.invokevirtual 89, 3, (10, 106, 7, 876)) := by decide +kernel
theorem sm_a55_138 : sm_at 55 138 = some (.iinc 2 1, 3, (0, 0, 0, 0)) := by decide +kernel
theorem sm_a55_141 : sm_at 55 141 = some (.goto (-38), 3, (0, 0, 0, 0)) := by decide +kernel
theorem sm_a55_144 : sm_at 55 144 = some (.goto 18, 3, (0, 0, 0, 0)) := by decide +kernel
theorem sm_a55_147 : sm_at 55 147 = some (.aload_n 1, 1, (0, 0, 0, 0)) := by decide +kernel
theorem sm_a55_148 : sm_at 55 148 = some (.iconst 1, 1, (0, 0, 0, 0)) := by decide +kernel
theorem sm_a55_149 : sm_at 55 149 = some (.iconst 0, 1, (0, 0, 0, 0)) := by decide +kernel
theorem sm_a55_150 : sm_at 55 150 = some (.invokevirtual 81, 3, (10, 66, 4, 868)) := by decide +kernel
theorem sm_a55_153 : sm_at 55 153 = some (.goto 9, 3, (0, 0, 0, 0)) := by decide +kernel
theorem sm_a55_156 : sm_at 55 156 = some (.aload_n 1, 1, (0, 0, 0, 0)) := by decide +kernel
theorem sm_a55_157 : sm_at 55 157 = some (.bipush 10, 2, (0, 0, 0, 0)) := by decide +kernel
theorem sm_a55_159 : sm_at 55 159 = some (.invokevirtual 71, 3, (10, 65, 4, 863)) := by decide +kernel
theorem sm_a55_162 : sm_at 55 162 = some (.return_, 1, (0, 0, 0, 0)) := by decide +kernel
theorem bb_55_0 {d : Nat} {M : sm_M} {Q : Option sm_V → sm_M → Prop} {a0 : Nat} {r1 : Option Nat} {z2 : Option sm_V}
    (h : sm_K M a0 = 12 ∧ ((¬ (sm_I M a0 0) = 2 → sm_Run (d + 1) 55 20 [some (.inr (some a0)), some (.inr r1), z2] [] M Q) ∧ (¬ (¬ (sm_I M a0 0) = 2) → (((sm_I M a0 9) = 0 → sm_Run (d + 1) 55 20 [some (.inr (some a0)), some (.inr r1), z2] [] M Q) ∧ (¬ ((sm_I M a0 9) = 0) → sm_Run (d + 1) 55 20 [some (.inr (some a0)), some (.inr r1), z2] [] (sm_putI M a0 0 1) Q))))) :
    sm_Run (d + 1) 55 0 [some (.inr (some a0)), some (.inr r1), z2] [] M Q := by
  refine ru_go (t := (1, [some (.inr (some a0)), some (.inr r1), z2], [.inr (some a0)], M)) sm_a55_0 rfl rfl rfl ?_
  obtain ⟨h_1, h⟩ := h
  refine ru_go (t := (4, [some (.inr (some a0)), some (.inr r1), z2], [.inl (sm_I M a0 0)], M)) sm_a55_1 rfl rfl (st_getI h_1 rfl) ?_
  refine ru_go (t := (5, [some (.inr (some a0)), some (.inr r1), z2], [.inl 2, .inl (sm_I M a0 0)], M)) sm_a55_4 rfl rfl (st_iconst (by decide)) ?_
  refine ru_icmp (pc := 5) (p := 20) (p2 := 8) sm_a55_5 (by decide) rfl ⟨fun hc_2 => ?_, fun hc_2 => ?_⟩
  · have h := h.1 hc_2
    exact h
  · have h := h.2 hc_2
    refine ru_go (t := (9, [some (.inr (some a0)), some (.inr r1), z2], [.inr (some a0)], M)) sm_a55_8 rfl rfl rfl ?_
    refine ru_go (t := (12, [some (.inr (some a0)), some (.inr r1), z2], [.inl (sm_I M a0 9)], M)) sm_a55_9 rfl rfl (st_getI h_1 rfl) ?_
    refine ru_if (pc := 12) (p := 20) (p2 := 15) sm_a55_12 (by decide) rfl ⟨fun hc_3 => ?_, fun hc_3 => ?_⟩
    · have h := h.1 hc_3
      exact h
    · have h := h.2 hc_3
      refine ru_go (t := (16, [some (.inr (some a0)), some (.inr r1), z2], [.inr (some a0)], M)) sm_a55_15 rfl rfl rfl ?_
      refine ru_go (t := (17, [some (.inr (some a0)), some (.inr r1), z2], [.inl 1, .inr (some a0)], M)) sm_a55_16 rfl rfl (st_iconst (by decide)) ?_
      refine ru_go (t := (20, [some (.inr (some a0)), some (.inr r1), z2], [], sm_putI M a0 0 1)) sm_a55_17 rfl rfl (st_putI h_1 rfl) ?_
      exact h
theorem bb_55_20 {d : Nat} {M : sm_M} {Q : Option sm_V → sm_M → Prop} {a0 : Nat} {r1 : Option Nat} {z2 : Option sm_V}
    (h : sm_K M a0 = 12 ∧ (((sm_I M a0 0) = 1 → ∃ b_3, r1 = some b_3 ∧ sm_K M b_3 = 15 ∧ sm_Run d 65 0 (sm_ent 65 [.inr (some b_3), .inl 14]) [] M (fun v M1 => sm_Run (d + 1) 55 66 [some (.inr (some a0)), some (.inr (some b_3)), z2] (v.toList ++ []) M1 Q)) ∧ ((sm_I M a0 0) = 2 → ∃ b_7, r1 = some b_7 ∧ sm_K M b_7 = 15 ∧ sm_Run d 66 0 (sm_ent 66 [.inr (some b_7), .inl (sm_I (sm_putI M a0 8 (if (sm_I M a0 3) - (sm_I M a0 4) < sm_I M b_7 0 then (sm_I M a0 3) - (sm_I M a0 4) else sm_I M b_7 0)) a0 1), .inl 0]) [] (sm_putI M a0 8 (if (sm_I M a0 3) - (sm_I M a0 4) < sm_I M b_7 0 then (sm_I M a0 3) - (sm_I M a0 4) else sm_I M b_7 0)) (fun v M1 => sm_Run (d + 1) 55 98 [some (.inr (some a0)), some (.inr (some b_7)), z2] (v.toList ++ []) M1 Q)) ∧ ((sm_I M a0 0) = 3 → ∃ b_11, r1 = some b_11 ∧ sm_K M b_11 = 15 ∧ sm_Run d 65 0 (sm_ent 65 [.inr (some b_11), .inl 10]) [] M (fun v M1 => sm_Run (d + 1) 55 162 [some (.inr (some a0)), some (.inr (some b_11)), z2] (v.toList ++ []) M1 Q)) ∧ ((sm_I M a0 0) = 4 → ∃ b_15, r1 = some b_15 ∧ sm_K M b_15 = 15 ∧ sm_Run d 65 0 (sm_ent 65 [.inr (some b_15), .inl 10]) [] M (fun v M1 => sm_Run (d + 1) 55 162 [some (.inr (some a0)), some (.inr (some b_15)), z2] (v.toList ++ []) M1 Q)) ∧ ((sm_I M a0 0) = 5 → ∃ b_19, r1 = some b_19 ∧ sm_K M b_19 = 15 ∧ sm_Run d 66 0 (sm_ent 66 [.inr (some b_19), .inl 1, .inl 0]) [] M (fun v M1 => sm_Run (d + 1) 55 153 [some (.inr (some a0)), some (.inr (some b_19)), z2] (v.toList ++ []) M1 Q)) ∧ (¬ (sm_I M a0 0) = 1 → ¬ (sm_I M a0 0) = 2 → ¬ (sm_I M a0 0) = 3 → ¬ (sm_I M a0 0) = 4 → ¬ (sm_I M a0 0) = 5 → ∃ b_22, r1 = some b_22 ∧ sm_K M b_22 = 15 ∧ sm_Run d 65 0 (sm_ent 65 [.inr (some b_22), .inl 10]) [] M (fun v M1 => sm_Run (d + 1) 55 162 [some (.inr (some a0)), some (.inr (some b_22)), z2] (v.toList ++ []) M1 Q)))) :
    sm_Run (d + 1) 55 20 [some (.inr (some a0)), some (.inr r1), z2] [] M Q := by
  refine ru_go (t := (21, [some (.inr (some a0)), some (.inr r1), z2], [.inr (some a0)], M)) sm_a55_20 rfl rfl rfl ?_
  obtain ⟨h_1, h⟩ := h
  refine ru_go (t := (24, [some (.inr (some a0)), some (.inr r1), z2], [.inl (sm_I M a0 0)], M)) sm_a55_21 rfl rfl (st_getI h_1 rfl) ?_
  by_cases hc_2 : (sm_I M a0 0) = 1
  · have h := h.1 hc_2
    refine ru_tsw (pc := 24) (v := 1) (p := 60) sm_a55_24 hc_2 (by decide) ?_
    refine ru_go (t := (61, [some (.inr (some a0)), some (.inr r1), z2], [.inr r1], M)) sm_a55_60 rfl rfl rfl ?_
    refine ru_go (t := (63, [some (.inr (some a0)), some (.inr r1), z2], [.inl 14, .inr r1], M)) sm_a55_61 rfl rfl (st_bipush (by decide)) ?_
    obtain ⟨b_3, hb_4, h⟩ := h
    rw [hb_4]
    obtain ⟨h_5, h⟩ := h
    exact ru_call (p := 66) sm_a55_63 rfl (sc_virt (Or.inl rfl) rfl rfl h_5 (Nat.le_of_ble_eq_true rfl)) rfl h
  · by_cases hc_6 : (sm_I M a0 0) = 2
    · have h := h.2.1 hc_6
      refine ru_tsw (pc := 24) (v := 2) (p := 69) sm_a55_24 hc_6 (by decide) ?_
      refine ru_go (t := (70, [some (.inr (some a0)), some (.inr r1), z2], [.inr (some a0)], M)) sm_a55_69 rfl rfl rfl ?_
      refine ru_go (t := (71, [some (.inr (some a0)), some (.inr r1), z2], [.inr r1, .inr (some a0)], M)) sm_a55_70 rfl rfl rfl ?_
      obtain ⟨b_7, hb_8, h⟩ := h
      rw [hb_8]
      obtain ⟨h_9, h⟩ := h
      refine ru_go (t := (74, [some (.inr (some a0)), some (.inr (some b_7)), z2], [.inl (sm_I M b_7 0), .inr (some a0)], M)) sm_a55_71 rfl rfl (st_getI h_9 rfl) ?_
      refine ru_go (t := (75, [some (.inr (some a0)), some (.inr (some b_7)), z2], [.inr (some a0), .inl (sm_I M b_7 0), .inr (some a0)], M)) sm_a55_74 rfl rfl rfl ?_
      refine ru_go (t := (78, [some (.inr (some a0)), some (.inr (some b_7)), z2], [.inl (sm_I M a0 3), .inl (sm_I M b_7 0), .inr (some a0)], M)) sm_a55_75 rfl rfl (st_getI h_1 rfl) ?_
      refine ru_go (t := (79, [some (.inr (some a0)), some (.inr (some b_7)), z2], [.inr (some a0), .inl (sm_I M a0 3), .inl (sm_I M b_7 0), .inr (some a0)], M)) sm_a55_78 rfl rfl rfl ?_
      refine ru_go (t := (82, [some (.inr (some a0)), some (.inr (some b_7)), z2], [.inl (sm_I M a0 4), .inl (sm_I M a0 3), .inl (sm_I M b_7 0), .inr (some a0)], M)) sm_a55_79 rfl rfl (st_getI h_1 rfl) ?_
      refine ru_go (t := (83, [some (.inr (some a0)), some (.inr (some b_7)), z2], [.inl ((sm_I M a0 3) - (sm_I M a0 4)), .inl (sm_I M b_7 0), .inr (some a0)], M)) sm_a55_82 rfl rfl rfl ?_
      refine ru_go (t := (86, [some (.inr (some a0)), some (.inr (some b_7)), z2], [.inl (if (sm_I M a0 3) - (sm_I M a0 4) < sm_I M b_7 0 then (sm_I M a0 3) - (sm_I M a0 4) else sm_I M b_7 0), .inr (some a0)], M)) sm_a55_83 rfl rfl (st_min (Nat.le_of_ble_eq_true rfl)) ?_
      refine ru_go (t := (89, [some (.inr (some a0)), some (.inr (some b_7)), z2], [], sm_putI M a0 8 (if (sm_I M a0 3) - (sm_I M a0 4) < sm_I M b_7 0 then (sm_I M a0 3) - (sm_I M a0 4) else sm_I M b_7 0))) sm_a55_86 rfl rfl (st_putI h_1 rfl) ?_
      refine ru_go (t := (90, [some (.inr (some a0)), some (.inr (some b_7)), z2], [.inr (some b_7)], sm_putI M a0 8 (if (sm_I M a0 3) - (sm_I M a0 4) < sm_I M b_7 0 then (sm_I M a0 3) - (sm_I M a0 4) else sm_I M b_7 0))) sm_a55_89 rfl rfl rfl ?_
      refine ru_go (t := (91, [some (.inr (some a0)), some (.inr (some b_7)), z2], [.inr (some a0), .inr (some b_7)], sm_putI M a0 8 (if (sm_I M a0 3) - (sm_I M a0 4) < sm_I M b_7 0 then (sm_I M a0 3) - (sm_I M a0 4) else sm_I M b_7 0))) sm_a55_90 rfl rfl rfl ?_
      refine ru_go (t := (94, [some (.inr (some a0)), some (.inr (some b_7)), z2], [.inl (sm_I (sm_putI M a0 8 (if (sm_I M a0 3) - (sm_I M a0 4) < sm_I M b_7 0 then (sm_I M a0 3) - (sm_I M a0 4) else sm_I M b_7 0)) a0 1), .inr (some b_7)], sm_putI M a0 8 (if (sm_I M a0 3) - (sm_I M a0 4) < sm_I M b_7 0 then (sm_I M a0 3) - (sm_I M a0 4) else sm_I M b_7 0))) sm_a55_91 rfl rfl (st_getI h_1 rfl) ?_
      refine ru_go (t := (95, [some (.inr (some a0)), some (.inr (some b_7)), z2], [.inl 0, .inl (sm_I (sm_putI M a0 8 (if (sm_I M a0 3) - (sm_I M a0 4) < sm_I M b_7 0 then (sm_I M a0 3) - (sm_I M a0 4) else sm_I M b_7 0)) a0 1), .inr (some b_7)], sm_putI M a0 8 (if (sm_I M a0 3) - (sm_I M a0 4) < sm_I M b_7 0 then (sm_I M a0 3) - (sm_I M a0 4) else sm_I M b_7 0))) sm_a55_94 rfl rfl (st_iconst (by decide)) ?_
      exact ru_call (p := 98) sm_a55_95 rfl (sc_virt (Or.inl rfl) rfl rfl h_9 (Nat.le_of_ble_eq_true rfl)) rfl h
    · by_cases hc_10 : (sm_I M a0 0) = 3
      · have h := h.2.2.1 hc_10
        refine ru_tsw (pc := 24) (v := 3) (p := 156) sm_a55_24 hc_10 (by decide) ?_
        refine ru_go (t := (157, [some (.inr (some a0)), some (.inr r1), z2], [.inr r1], M)) sm_a55_156 rfl rfl rfl ?_
        refine ru_go (t := (159, [some (.inr (some a0)), some (.inr r1), z2], [.inl 10, .inr r1], M)) sm_a55_157 rfl rfl (st_bipush (by decide)) ?_
        obtain ⟨b_11, hb_12, h⟩ := h
        rw [hb_12]
        obtain ⟨h_13, h⟩ := h
        exact ru_call (p := 162) sm_a55_159 rfl (sc_virt (Or.inl rfl) rfl rfl h_13 (Nat.le_of_ble_eq_true rfl)) rfl h
      · by_cases hc_14 : (sm_I M a0 0) = 4
        · have h := h.2.2.2.1 hc_14
          refine ru_tsw (pc := 24) (v := 4) (p := 156) sm_a55_24 hc_14 (by decide) ?_
          refine ru_go (t := (157, [some (.inr (some a0)), some (.inr r1), z2], [.inr r1], M)) sm_a55_156 rfl rfl rfl ?_
          refine ru_go (t := (159, [some (.inr (some a0)), some (.inr r1), z2], [.inl 10, .inr r1], M)) sm_a55_157 rfl rfl (st_bipush (by decide)) ?_
          obtain ⟨b_15, hb_16, h⟩ := h
          rw [hb_16]
          obtain ⟨h_17, h⟩ := h
          exact ru_call (p := 162) sm_a55_159 rfl (sc_virt (Or.inl rfl) rfl rfl h_17 (Nat.le_of_ble_eq_true rfl)) rfl h
        · by_cases hc_18 : (sm_I M a0 0) = 5
          · have h := h.2.2.2.2.1 hc_18
            refine ru_tsw (pc := 24) (v := 5) (p := 147) sm_a55_24 hc_18 (by decide) ?_
            refine ru_go (t := (148, [some (.inr (some a0)), some (.inr r1), z2], [.inr r1], M)) sm_a55_147 rfl rfl rfl ?_
            refine ru_go (t := (149, [some (.inr (some a0)), some (.inr r1), z2], [.inl 1, .inr r1], M)) sm_a55_148 rfl rfl (st_iconst (by decide)) ?_
            refine ru_go (t := (150, [some (.inr (some a0)), some (.inr r1), z2], [.inl 0, .inl 1, .inr r1], M)) sm_a55_149 rfl rfl (st_iconst (by decide)) ?_
            obtain ⟨b_19, hb_20, h⟩ := h
            rw [hb_20]
            obtain ⟨h_21, h⟩ := h
            exact ru_call (p := 153) sm_a55_150 rfl (sc_virt (Or.inl rfl) rfl rfl h_21 (Nat.le_of_ble_eq_true rfl)) rfl h
          · have h := h.2.2.2.2.2 hc_2 hc_6 hc_10 hc_14 hc_18
            have zhc_2 := sm_ne_toInt hc_2; rw [show (1 : Int32).toInt = 1 by decide] at zhc_2
            have zhc_6 := sm_ne_toInt hc_6; rw [show (2 : Int32).toInt = 2 by decide] at zhc_6
            have zhc_10 := sm_ne_toInt hc_10; rw [show (3 : Int32).toInt = 3 by decide] at zhc_10
            have zhc_14 := sm_ne_toInt hc_14; rw [show (4 : Int32).toInt = 4 by decide] at zhc_14
            have zhc_18 := sm_ne_toInt hc_18; rw [show (5 : Int32).toInt = 5 by decide] at zhc_18
            refine ru_tswd (pc := 24) (p := 156) sm_a55_24 (by omega) (by decide) ?_
            refine ru_go (t := (157, [some (.inr (some a0)), some (.inr r1), z2], [.inr r1], M)) sm_a55_156 rfl rfl rfl ?_
            refine ru_go (t := (159, [some (.inr (some a0)), some (.inr r1), z2], [.inl 10, .inr r1], M)) sm_a55_157 rfl rfl (st_bipush (by decide)) ?_
            obtain ⟨b_22, hb_23, h⟩ := h
            rw [hb_23]
            obtain ⟨h_24, h⟩ := h
            exact ru_call (p := 162) sm_a55_159 rfl (sc_virt (Or.inl rfl) rfl rfl h_24 (Nat.le_of_ble_eq_true rfl)) rfl h
theorem bb_55_66 {d : Nat} {M : sm_M} {Q : Option sm_V → sm_M → Prop} {a0 : Nat} {r1 : Option Nat} {z2 : Option sm_V}
    (h : Q none M) :
    sm_Run (d + 1) 55 66 [some (.inr (some a0)), some (.inr r1), z2] [] M Q := by
  refine ru_go (t := (162, [some (.inr (some a0)), some (.inr r1), z2], [], M)) sm_a55_66 rfl rfl (st_goto (pc := 66) (by decide)) ?_
  exact ru_ret sm_a55_162 (sm_rvv rfl) h
theorem bb_55_98 {d : Nat} {M : sm_M} {Q : Option sm_V → sm_M → Prop} {a0 : Nat} {r1 : Option Nat} {z2 : Option sm_V}
    (h : sm_K M a0 = 12 ∧ sm_Run (d + 1) 55 103 [some (.inr (some a0)), some (.inr r1), some (.inl (sm_I M a0 4))] [] M Q) :
    sm_Run (d + 1) 55 98 [some (.inr (some a0)), some (.inr r1), z2] [] M Q := by
  refine ru_go (t := (99, [some (.inr (some a0)), some (.inr r1), z2], [.inr (some a0)], M)) sm_a55_98 rfl rfl rfl ?_
  obtain ⟨h_1, h⟩ := h
  refine ru_go (t := (102, [some (.inr (some a0)), some (.inr r1), z2], [.inl (sm_I M a0 4)], M)) sm_a55_99 rfl rfl (st_getI h_1 rfl) ?_
  refine ru_go (t := (103, [some (.inr (some a0)), some (.inr r1), some (.inl (sm_I M a0 4))], [], M)) sm_a55_102 rfl rfl rfl ?_
  exact h
theorem bb_55_103 {d : Nat} {M : sm_M} {Q : Option sm_V → sm_M → Prop} {a0 : Nat} {r1 : Option Nat} {x2 : Int32}
    (h : sm_K M a0 = 12 ∧ ((((sm_I M a0 4) + (sm_I M a0 8)) ≤ x2 → Q none M) ∧ (¬ (((sm_I M a0 4) + (sm_I M a0 8)) ≤ x2) → ∃ b_3, sm_R M a0 2 = some b_3 ∧ (1 ≤ sm_K M b_3 ∧ sm_K M b_3 % 3 ≠ 0) ∧ (((Int32.ofNat (sm_L M b_3)) ≤ x2 → Q none M) ∧ (¬ ((Int32.ofNat (sm_L M b_3)) ≤ x2) → ∃ b_7, r1 = some b_7 ∧ sm_K M b_7 = 15 ∧ ∃ b_10, sm_R M a0 2 = some b_10 ∧ sm_iA M b_10 ∧ sm_in_ M b_10 x2 ∧ ∃ b_14, sm_R M b_7 12 = some b_14 ∧ sm_K M b_14 = 24 ∧ sm_Run d 106 0 (sm_ent 106 [.inr (some b_14), .inl (sm_I M b_10 (x2).toNatClampNeg)]) [] M (fun v M1 => sm_Run (d + 1) 55 138 [some (.inr (some a0)), some (.inr (some b_7)), some (.inl x2)] (v.toList ++ []) M1 Q)))))) :
    sm_Run (d + 1) 55 103 [some (.inr (some a0)), some (.inr r1), some (.inl x2)] [] M Q := by
  refine ru_go (t := (104, [some (.inr (some a0)), some (.inr r1), some (.inl x2)], [.inl x2], M)) sm_a55_103 rfl rfl rfl ?_
  refine ru_go (t := (105, [some (.inr (some a0)), some (.inr r1), some (.inl x2)], [.inr (some a0), .inl x2], M)) sm_a55_104 rfl rfl rfl ?_
  obtain ⟨h_1, h⟩ := h
  refine ru_go (t := (108, [some (.inr (some a0)), some (.inr r1), some (.inl x2)], [.inl (sm_I M a0 4), .inl x2], M)) sm_a55_105 rfl rfl (st_getI h_1 rfl) ?_
  refine ru_go (t := (109, [some (.inr (some a0)), some (.inr r1), some (.inl x2)], [.inr (some a0), .inl (sm_I M a0 4), .inl x2], M)) sm_a55_108 rfl rfl rfl ?_
  refine ru_go (t := (112, [some (.inr (some a0)), some (.inr r1), some (.inl x2)], [.inl (sm_I M a0 8), .inl (sm_I M a0 4), .inl x2], M)) sm_a55_109 rfl rfl (st_getI h_1 rfl) ?_
  refine ru_go (t := (113, [some (.inr (some a0)), some (.inr r1), some (.inl x2)], [.inl ((sm_I M a0 4) + (sm_I M a0 8)), .inl x2], M)) sm_a55_112 rfl rfl rfl ?_
  refine ru_icmp (pc := 113) (p := 144) (p2 := 116) sm_a55_113 (by decide) rfl ⟨fun hc_2 => ?_, fun hc_2 => ?_⟩
  · have h := h.1 hc_2
    refine ru_go (t := (162, [some (.inr (some a0)), some (.inr r1), some (.inl x2)], [], M)) sm_a55_144 rfl rfl (st_goto (pc := 144) (by decide)) ?_
    exact ru_ret sm_a55_162 (sm_rvv rfl) h
  · have h := h.2 hc_2
    refine ru_go (t := (117, [some (.inr (some a0)), some (.inr r1), some (.inl x2)], [.inl x2], M)) sm_a55_116 rfl rfl rfl ?_
    refine ru_go (t := (118, [some (.inr (some a0)), some (.inr r1), some (.inl x2)], [.inr (some a0), .inl x2], M)) sm_a55_117 rfl rfl rfl ?_
    refine ru_go (t := (121, [some (.inr (some a0)), some (.inr r1), some (.inl x2)], [.inr (sm_R M a0 2), .inl x2], M)) sm_a55_118 rfl rfl (st_getR h_1 rfl rfl) ?_
    obtain ⟨b_3, hb_4, h⟩ := h
    rw [hb_4]
    obtain ⟨h_5, h⟩ := h
    refine ru_go (t := (122, [some (.inr (some a0)), some (.inr r1), some (.inl x2)], [.inl (Int32.ofNat (sm_L M b_3)), .inl x2], M)) sm_a55_121 rfl rfl (st_alen h_5) ?_
    refine ru_icmp (pc := 122) (p := 144) (p2 := 125) sm_a55_122 (by decide) rfl ⟨fun hc_6 => ?_, fun hc_6 => ?_⟩
    · have h := h.1 hc_6
      refine ru_go (t := (162, [some (.inr (some a0)), some (.inr r1), some (.inl x2)], [], M)) sm_a55_144 rfl rfl (st_goto (pc := 144) (by decide)) ?_
      exact ru_ret sm_a55_162 (sm_rvv rfl) h
    · have h := h.2 hc_6
      refine ru_go (t := (126, [some (.inr (some a0)), some (.inr r1), some (.inl x2)], [.inr r1], M)) sm_a55_125 rfl rfl rfl ?_
      obtain ⟨b_7, hb_8, h⟩ := h
      rw [hb_8]
      obtain ⟨h_9, h⟩ := h
      refine ru_go (t := (129, [some (.inr (some a0)), some (.inr (some b_7)), some (.inl x2)], [.inr (sm_R M b_7 12)], M)) sm_a55_126 rfl rfl (st_getR h_9 rfl rfl) ?_
      refine ru_go (t := (130, [some (.inr (some a0)), some (.inr (some b_7)), some (.inl x2)], [.inr (some a0), .inr (sm_R M b_7 12)], M)) sm_a55_129 rfl rfl rfl ?_
      refine ru_go (t := (133, [some (.inr (some a0)), some (.inr (some b_7)), some (.inl x2)], [.inr (sm_R M a0 2), .inr (sm_R M b_7 12)], M)) sm_a55_130 rfl rfl (st_getR h_1 rfl rfl) ?_
      refine ru_go (t := (134, [some (.inr (some a0)), some (.inr (some b_7)), some (.inl x2)], [.inl x2, .inr (sm_R M a0 2), .inr (sm_R M b_7 12)], M)) sm_a55_133 rfl rfl rfl ?_
      obtain ⟨b_10, hb_11, h⟩ := h
      rw [hb_11]
      obtain ⟨h_12, h⟩ := h
      obtain ⟨h_13, h⟩ := h
      refine ru_go (t := (135, [some (.inr (some a0)), some (.inr (some b_7)), some (.inl x2)], [.inl (sm_I M b_10 (x2).toNatClampNeg), .inr (sm_R M b_7 12)], M)) sm_a55_134 rfl rfl (st_iald h_12 h_13) ?_
      obtain ⟨b_14, hb_15, h⟩ := h
      rw [hb_15]
      obtain ⟨h_16, h⟩ := h
      exact ru_call (p := 138) sm_a55_135 rfl (sc_virt (Or.inl rfl) rfl rfl h_16 (Nat.le_of_ble_eq_true rfl)) rfl h
theorem bb_55_138 {d : Nat} {M : sm_M} {Q : Option sm_V → sm_M → Prop} {a0 : Nat} {r1 : Option Nat} {x2 : Int32}
    (h : sm_Run (d + 1) 55 103 [some (.inr (some a0)), some (.inr r1), some (.inl (x2 + 1))] [] M Q) :
    sm_Run (d + 1) 55 138 [some (.inr (some a0)), some (.inr r1), some (.inl x2)] [] M Q := by
  refine ru_go (t := (141, [some (.inr (some a0)), some (.inr r1), some (.inl (x2 + 1))], [], M)) sm_a55_138 rfl rfl (st_iinc rfl (by decide)) ?_
  refine ru_go (t := (103, [some (.inr (some a0)), some (.inr r1), some (.inl (x2 + 1))], [], M)) sm_a55_141 rfl rfl (st_goto (pc := 141) (by decide)) ?_
  exact h
theorem bb_55_153 {d : Nat} {M : sm_M} {Q : Option sm_V → sm_M → Prop} {a0 : Nat} {r1 : Option Nat} {z2 : Option sm_V}
    (h : Q none M) :
    sm_Run (d + 1) 55 153 [some (.inr (some a0)), some (.inr r1), z2] [] M Q := by
  refine ru_go (t := (162, [some (.inr (some a0)), some (.inr r1), z2], [], M)) sm_a55_153 rfl rfl (st_goto (pc := 153) (by decide)) ?_
  exact ru_ret sm_a55_162 (sm_rvv rfl) h
theorem bb_55_162 {d : Nat} {M : sm_M} {Q : Option sm_V → sm_M → Prop} {a0 : Nat} {r1 : Option Nat} {z2 : Option sm_V}
    (h : Q none M) :
    sm_Run (d + 1) 55 162 [some (.inr (some a0)), some (.inr r1), z2] [] M Q := by
  exact ru_ret sm_a55_162 (sm_rvv rfl) h

/-! WireBus$ControlPoint.hearAck:(LWireBus$Device;)V -/
theorem sm_a56_0 : sm_at 56 0 = some (.aload_n 0, 1, (0, 0, 0, 0)) := by decide +kernel
theorem sm_a56_1 : sm_at 56 1 = some (.getfield 49, 3, (3, 0, 0, 221)) := by decide +kernel
theorem sm_a56_4 : sm_at 56 4 = some (.iconst 2, 1, (0, 0, 0, 0)) := by decide +kernel
theorem sm_a56_5 : sm_at 56 5 = some (.if_icmp .ne 60, 3, (0, 0, 0, 0)) := by decide +kernel
theorem sm_a56_8 : sm_at 56 8 = some (.aload_n 0, 1, (0, 0, 0, 0)) := by decide +kernel
theorem sm_a56_9 : sm_at 56 9 = some (.dup, 1, (0, 0, 0, 0)) := by decide +kernel
theorem sm_a56_10 : sm_at 56 10 = some (.getfield 34, 3, (3, 4, 0, 226)) := by decide +kernel
theorem sm_a56_13 : sm_at 56 13 = some (.aload_n 0, 1, (0, 0, 0, 0)) := by decide +kernel
theorem sm_a56_14 : sm_at 56 14 = some (.getfield 78, 3, (3, 8, 0, 230)) := by decide +kernel
theorem sm_a56_17 : sm_at 56 17 = some (.iadd, 1, (0, 0, 0, 0)) := by decide +kernel
theorem sm_a56_18 : sm_at 56 18 = some (.putfield 34, 3, (3, 4, 0, 226)) := by decide +kernel
theorem sm_a56_21 : sm_at 56 21 = some (.aload_n 0, 1, (0, 0, 0, 0)) := by decide +kernel
theorem sm_a56_22 : sm_at 56 22 = some (.iconst 1, 1, (0, 0, 0, 0)) := by decide +kernel
theorem sm_a56_23 : sm_at 56 23 = some (.aload_n 0, 1, (0, 0, 0, 0)) := by decide +kernel
theorem sm_a56_24 : sm_at 56 24 = some (.getfield 31, 3, (3, 1, 0, 223)) := by decide +kernel
theorem sm_a56_27 : sm_at 56 27 = some (.isub, 1, (0, 0, 0, 0)) := by decide +kernel
theorem sm_a56_28 : sm_at 56 28 = some (.putfield 31, 3, (3, 1, 0, 223)) := by decide +kernel
theorem sm_a56_31 : sm_at 56 31 = some (.aload_n 0, 1, (0, 0, 0, 0)) := by decide +kernel
theorem sm_a56_32 : sm_at 56 32 = some (.aload_n 0, 1, (0, 0, 0, 0)) := by decide +kernel
theorem sm_a56_33 : sm_at 56 33 = some (.getfield 34, 3, (3, 4, 0, 226)) := by decide +kernel
theorem sm_a56_36 : sm_at 56 36 = some (.aload_n 0, 1, (0, 0, 0, 0)) := by decide +kernel
theorem sm_a56_37 : sm_at 56 37 = some (.getfield 28, 3, (3, 5, 0, 227)) := by decide +kernel
theorem sm_a56_40 : sm_at 56 40 = some (.if_icmp .eq 14, 3, (0, 0, 0, 0)) := by decide +kernel
theorem sm_a56_43 : sm_at 56 43 = some (.aload_n 0, 1, (0, 0, 0, 0)) := by decide +kernel
theorem sm_a56_44 : sm_at 56 44 = some (.getfield 78, 3, (3, 8, 0, 230)) := by decide +kernel
theorem sm_a56_47 : sm_at 56 47 = some (.aload_n 1, 1, (0, 0, 0, 0)) := by decide +kernel
theorem sm_a56_48 : sm_at 56 48 = some (.getfield 75, 3, (4, 0, 1, 256)) := by decide +kernel
theorem sm_a56_51 : sm_at 56 51 = some (.if_icmp .ge 7, 3, (0, 0, 0, 0)) := by decide +kernel
theorem sm_a56_54 : sm_at 56 54 = some (.iconst 1, 1, (0, 0, 0, 0)) := by decide +kernel
theorem sm_a56_55 : sm_at 56 55 = some (.goto 4, 3, (0, 0, 0, 0)) := by decide +kernel
theorem sm_a56_58 : sm_at 56 58 = some (.iconst 0, 1, (0, 0, 0, 0)) := by decide +kernel
theorem sm_a56_59 : sm_at 56 59 = some (.putfield 40, 3, (3, 9, 0, 231)) := by decide +kernel
theorem sm_a56_62 : sm_at 56 62 = some (.goto 37, 3, (0, 0, 0, 0)) := by decide +kernel
theorem sm_a56_65 : sm_at 56 65 = some (.aload_n 0, 1, (0, 0, 0, 0)) := by decide +kernel
theorem sm_a56_66 : sm_at 56 66 = some (.getfield 49, 3, (3, 0, 0, 221)) := by decide +kernel
theorem sm_a56_69 : sm_at 56 69 = some (.iconst 5, 1, (0, 0, 0, 0)) := by decide +kernel
theorem sm_a56_70 : sm_at 56 70 = some (.if_icmp .ne 29, 3, (0, 0, 0, 0)) := by decide +kernel
theorem sm_a56_73 : sm_at 56 73 = some (.aload_n 0, 1, (0, 0, 0, 0)) := by decide +kernel
theorem sm_a56_74 : sm_at 56 74 = some (.bipush 6, 2, (0, 0, 0, 0)) := by decide +kernel
theorem sm_a56_76 : sm_at 56 76 = some (.putfield 49, 3, (3, 0, 0, 221)) := by decide +kernel
theorem sm_a56_79 : sm_at 56 79 = some (.aload_n 0, 1, (0, 0, 0, 0)) := by decide +kernel
theorem sm_a56_80 : sm_at 56 80 = some (.getfield 37, 3, (3, 7, 0, 229)) := by decide +kernel
theorem sm_a56_83 : sm_at 56 83 = some (.ifCond .eq 16, 3, (0, 0, 0, 0)) := by decide +kernel
theorem sm_a56_86 : sm_at 56 86 = some (.aload_n 1, 1, (0, 0, 0, 0)) := by decide +kernel
theorem sm_a56_87 : sm_at 56 87 = some (.aload_n 0, 1, (0, 0, 0, 0)) := by decide +kernel
theorem sm_a56_88 : sm_at 56 88 = some (.getfield 37, 3, (3, 7, 0, 229)) := by decide +kernel
theorem sm_a56_91 : sm_at 56 91 = some (.putfield 92, 3, (4, 4, 1, 264)) := by decide +kernel
theorem sm_a56_94 : sm_at 56 94 = some (.aload_n 1, 1, (0, 0, 0, 0)) := by decide +kernel
theorem sm_a56_95 : sm_at 56 95 = some (.iconst 2, 1, (0, 0, 0, 0)) := by decide +kernel
theorem sm_a56_96 : sm_at 56 96 = some (.putfield 95, 3, (4, 3, 1, 262)) := by decide +kernel
theorem sm_a56_99 : sm_at 56 99 = some (.return_, 1, (0, 0, 0, 0)) := by decide +kernel
theorem bb_56_0 {d : Nat} {M : sm_M} {Q : Option sm_V → sm_M → Prop} {a0 : Nat} {r1 : Option Nat}
    (h : sm_K M a0 = 12 ∧ ((¬ (sm_I M a0 0) = 2 → ((¬ (sm_I M a0 0) = 5 → Q none M) ∧ (¬ (¬ (sm_I M a0 0) = 5) → (((sm_I (sm_putI M a0 0 6) a0 7) = 0 → Q none (sm_putI M a0 0 6)) ∧ (¬ ((sm_I (sm_putI M a0 0 6) a0 7) = 0) → ∃ b_5, r1 = some b_5 ∧ sm_K M b_5 = 15 ∧ Q none (sm_putI (sm_putI (sm_putI M a0 0 6) b_5 4 (sm_I (sm_putI M a0 0 6) a0 7)) b_5 3 2)))))) ∧ (¬ (¬ (sm_I M a0 0) = 2) → (((sm_I (sm_putI (sm_putI M a0 4 ((sm_I M a0 4) + (sm_I M a0 8))) a0 1 (1 - (sm_I (sm_putI M a0 4 ((sm_I M a0 4) + (sm_I M a0 8))) a0 1))) a0 4) = (sm_I (sm_putI (sm_putI M a0 4 ((sm_I M a0 4) + (sm_I M a0 8))) a0 1 (1 - (sm_I (sm_putI M a0 4 ((sm_I M a0 4) + (sm_I M a0 8))) a0 1))) a0 5) → Q none (sm_putI (sm_putI (sm_putI M a0 4 ((sm_I M a0 4) + (sm_I M a0 8))) a0 1 (1 - (sm_I (sm_putI M a0 4 ((sm_I M a0 4) + (sm_I M a0 8))) a0 1))) a0 9 1)) ∧ (¬ ((sm_I (sm_putI (sm_putI M a0 4 ((sm_I M a0 4) + (sm_I M a0 8))) a0 1 (1 - (sm_I (sm_putI M a0 4 ((sm_I M a0 4) + (sm_I M a0 8))) a0 1))) a0 4) = (sm_I (sm_putI (sm_putI M a0 4 ((sm_I M a0 4) + (sm_I M a0 8))) a0 1 (1 - (sm_I (sm_putI M a0 4 ((sm_I M a0 4) + (sm_I M a0 8))) a0 1))) a0 5)) → ∃ b_9, r1 = some b_9 ∧ sm_K M b_9 = 15 ∧ (((sm_I (sm_putI (sm_putI M a0 4 ((sm_I M a0 4) + (sm_I M a0 8))) a0 1 (1 - (sm_I (sm_putI M a0 4 ((sm_I M a0 4) + (sm_I M a0 8))) a0 1))) b_9 0) ≤ (sm_I (sm_putI (sm_putI M a0 4 ((sm_I M a0 4) + (sm_I M a0 8))) a0 1 (1 - (sm_I (sm_putI M a0 4 ((sm_I M a0 4) + (sm_I M a0 8))) a0 1))) a0 8) → Q none (sm_putI (sm_putI (sm_putI M a0 4 ((sm_I M a0 4) + (sm_I M a0 8))) a0 1 (1 - (sm_I (sm_putI M a0 4 ((sm_I M a0 4) + (sm_I M a0 8))) a0 1))) a0 9 0)) ∧ (¬ ((sm_I (sm_putI (sm_putI M a0 4 ((sm_I M a0 4) + (sm_I M a0 8))) a0 1 (1 - (sm_I (sm_putI M a0 4 ((sm_I M a0 4) + (sm_I M a0 8))) a0 1))) b_9 0) ≤ (sm_I (sm_putI (sm_putI M a0 4 ((sm_I M a0 4) + (sm_I M a0 8))) a0 1 (1 - (sm_I (sm_putI M a0 4 ((sm_I M a0 4) + (sm_I M a0 8))) a0 1))) a0 8)) → Q none (sm_putI (sm_putI (sm_putI M a0 4 ((sm_I M a0 4) + (sm_I M a0 8))) a0 1 (1 - (sm_I (sm_putI M a0 4 ((sm_I M a0 4) + (sm_I M a0 8))) a0 1))) a0 9 1)))))))) :
    sm_Run d 56 0 [some (.inr (some a0)), some (.inr r1)] [] M Q := by
  refine ru_go (t := (1, [some (.inr (some a0)), some (.inr r1)], [.inr (some a0)], M)) sm_a56_0 rfl rfl rfl ?_
  obtain ⟨h_1, h⟩ := h
  refine ru_go (t := (4, [some (.inr (some a0)), some (.inr r1)], [.inl (sm_I M a0 0)], M)) sm_a56_1 rfl rfl (st_getI h_1 rfl) ?_
  refine ru_go (t := (5, [some (.inr (some a0)), some (.inr r1)], [.inl 2, .inl (sm_I M a0 0)], M)) sm_a56_4 rfl rfl (st_iconst (by decide)) ?_
  refine ru_icmp (pc := 5) (p := 65) (p2 := 8) sm_a56_5 (by decide) rfl ⟨fun hc_2 => ?_, fun hc_2 => ?_⟩
  · have h := h.1 hc_2
    refine ru_go (t := (66, [some (.inr (some a0)), some (.inr r1)], [.inr (some a0)], M)) sm_a56_65 rfl rfl rfl ?_
    refine ru_go (t := (69, [some (.inr (some a0)), some (.inr r1)], [.inl (sm_I M a0 0)], M)) sm_a56_66 rfl rfl (st_getI h_1 rfl) ?_
    refine ru_go (t := (70, [some (.inr (some a0)), some (.inr r1)], [.inl 5, .inl (sm_I M a0 0)], M)) sm_a56_69 rfl rfl (st_iconst (by decide)) ?_
    refine ru_icmp (pc := 70) (p := 99) (p2 := 73) sm_a56_70 (by decide) rfl ⟨fun hc_3 => ?_, fun hc_3 => ?_⟩
    · have h := h.1 hc_3
      exact ru_ret sm_a56_99 (sm_rvv rfl) h
    · have h := h.2 hc_3
      refine ru_go (t := (74, [some (.inr (some a0)), some (.inr r1)], [.inr (some a0)], M)) sm_a56_73 rfl rfl rfl ?_
      refine ru_go (t := (76, [some (.inr (some a0)), some (.inr r1)], [.inl 6, .inr (some a0)], M)) sm_a56_74 rfl rfl (st_bipush (by decide)) ?_
      refine ru_go (t := (79, [some (.inr (some a0)), some (.inr r1)], [], sm_putI M a0 0 6)) sm_a56_76 rfl rfl (st_putI h_1 rfl) ?_
      refine ru_go (t := (80, [some (.inr (some a0)), some (.inr r1)], [.inr (some a0)], sm_putI M a0 0 6)) sm_a56_79 rfl rfl rfl ?_
      refine ru_go (t := (83, [some (.inr (some a0)), some (.inr r1)], [.inl (sm_I (sm_putI M a0 0 6) a0 7)], sm_putI M a0 0 6)) sm_a56_80 rfl rfl (st_getI h_1 rfl) ?_
      refine ru_if (pc := 83) (p := 99) (p2 := 86) sm_a56_83 (by decide) rfl ⟨fun hc_4 => ?_, fun hc_4 => ?_⟩
      · have h := h.1 hc_4
        exact ru_ret sm_a56_99 (sm_rvv rfl) h
      · have h := h.2 hc_4
        refine ru_go (t := (87, [some (.inr (some a0)), some (.inr r1)], [.inr r1], sm_putI M a0 0 6)) sm_a56_86 rfl rfl rfl ?_
        refine ru_go (t := (88, [some (.inr (some a0)), some (.inr r1)], [.inr (some a0), .inr r1], sm_putI M a0 0 6)) sm_a56_87 rfl rfl rfl ?_
        refine ru_go (t := (91, [some (.inr (some a0)), some (.inr r1)], [.inl (sm_I (sm_putI M a0 0 6) a0 7), .inr r1], sm_putI M a0 0 6)) sm_a56_88 rfl rfl (st_getI h_1 rfl) ?_
        obtain ⟨b_5, hb_6, h⟩ := h
        rw [hb_6]
        obtain ⟨h_7, h⟩ := h
        refine ru_go (t := (94, [some (.inr (some a0)), some (.inr (some b_5))], [], sm_putI (sm_putI M a0 0 6) b_5 4 (sm_I (sm_putI M a0 0 6) a0 7))) sm_a56_91 rfl rfl (st_putI h_7 rfl) ?_
        refine ru_go (t := (95, [some (.inr (some a0)), some (.inr (some b_5))], [.inr (some b_5)], sm_putI (sm_putI M a0 0 6) b_5 4 (sm_I (sm_putI M a0 0 6) a0 7))) sm_a56_94 rfl rfl rfl ?_
        refine ru_go (t := (96, [some (.inr (some a0)), some (.inr (some b_5))], [.inl 2, .inr (some b_5)], sm_putI (sm_putI M a0 0 6) b_5 4 (sm_I (sm_putI M a0 0 6) a0 7))) sm_a56_95 rfl rfl (st_iconst (by decide)) ?_
        refine ru_go (t := (99, [some (.inr (some a0)), some (.inr (some b_5))], [], sm_putI (sm_putI (sm_putI M a0 0 6) b_5 4 (sm_I (sm_putI M a0 0 6) a0 7)) b_5 3 2)) sm_a56_96 rfl rfl (st_putI h_7 rfl) ?_
        exact ru_ret sm_a56_99 (sm_rvv rfl) h
  · have h := h.2 hc_2
    refine ru_go (t := (9, [some (.inr (some a0)), some (.inr r1)], [.inr (some a0)], M)) sm_a56_8 rfl rfl rfl ?_
    refine ru_go (t := (10, [some (.inr (some a0)), some (.inr r1)], [.inr (some a0), .inr (some a0)], M)) sm_a56_9 rfl rfl rfl ?_
    refine ru_go (t := (13, [some (.inr (some a0)), some (.inr r1)], [.inl (sm_I M a0 4), .inr (some a0)], M)) sm_a56_10 rfl rfl (st_getI h_1 rfl) ?_
    refine ru_go (t := (14, [some (.inr (some a0)), some (.inr r1)], [.inr (some a0), .inl (sm_I M a0 4), .inr (some a0)], M)) sm_a56_13 rfl rfl rfl ?_
    refine ru_go (t := (17, [some (.inr (some a0)), some (.inr r1)], [.inl (sm_I M a0 8), .inl (sm_I M a0 4), .inr (some a0)], M)) sm_a56_14 rfl rfl (st_getI h_1 rfl) ?_
    refine ru_go (t := (18, [some (.inr (some a0)), some (.inr r1)], [.inl ((sm_I M a0 4) + (sm_I M a0 8)), .inr (some a0)], M)) sm_a56_17 rfl rfl rfl ?_
    refine ru_go (t := (21, [some (.inr (some a0)), some (.inr r1)], [], sm_putI M a0 4 ((sm_I M a0 4) + (sm_I M a0 8)))) sm_a56_18 rfl rfl (st_putI h_1 rfl) ?_
    refine ru_go (t := (22, [some (.inr (some a0)), some (.inr r1)], [.inr (some a0)], sm_putI M a0 4 ((sm_I M a0 4) + (sm_I M a0 8)))) sm_a56_21 rfl rfl rfl ?_
    refine ru_go (t := (23, [some (.inr (some a0)), some (.inr r1)], [.inl 1, .inr (some a0)], sm_putI M a0 4 ((sm_I M a0 4) + (sm_I M a0 8)))) sm_a56_22 rfl rfl (st_iconst (by decide)) ?_
    refine ru_go (t := (24, [some (.inr (some a0)), some (.inr r1)], [.inr (some a0), .inl 1, .inr (some a0)], sm_putI M a0 4 ((sm_I M a0 4) + (sm_I M a0 8)))) sm_a56_23 rfl rfl rfl ?_
    refine ru_go (t := (27, [some (.inr (some a0)), some (.inr r1)], [.inl (sm_I (sm_putI M a0 4 ((sm_I M a0 4) + (sm_I M a0 8))) a0 1), .inl 1, .inr (some a0)], sm_putI M a0 4 ((sm_I M a0 4) + (sm_I M a0 8)))) sm_a56_24 rfl rfl (st_getI h_1 rfl) ?_
    refine ru_go (t := (28, [some (.inr (some a0)), some (.inr r1)], [.inl (1 - (sm_I (sm_putI M a0 4 ((sm_I M a0 4) + (sm_I M a0 8))) a0 1)), .inr (some a0)], sm_putI M a0 4 ((sm_I M a0 4) + (sm_I M a0 8)))) sm_a56_27 rfl rfl rfl ?_
    refine ru_go (t := (31, [some (.inr (some a0)), some (.inr r1)], [], sm_putI (sm_putI M a0 4 ((sm_I M a0 4) + (sm_I M a0 8))) a0 1 (1 - (sm_I (sm_putI M a0 4 ((sm_I M a0 4) + (sm_I M a0 8))) a0 1)))) sm_a56_28 rfl rfl (st_putI h_1 rfl) ?_
    refine ru_go (t := (32, [some (.inr (some a0)), some (.inr r1)], [.inr (some a0)], sm_putI (sm_putI M a0 4 ((sm_I M a0 4) + (sm_I M a0 8))) a0 1 (1 - (sm_I (sm_putI M a0 4 ((sm_I M a0 4) + (sm_I M a0 8))) a0 1)))) sm_a56_31 rfl rfl rfl ?_
    refine ru_go (t := (33, [some (.inr (some a0)), some (.inr r1)], [.inr (some a0), .inr (some a0)], sm_putI (sm_putI M a0 4 ((sm_I M a0 4) + (sm_I M a0 8))) a0 1 (1 - (sm_I (sm_putI M a0 4 ((sm_I M a0 4) + (sm_I M a0 8))) a0 1)))) sm_a56_32 rfl rfl rfl ?_
    refine ru_go (t := (36, [some (.inr (some a0)), some (.inr r1)], [.inl (sm_I (sm_putI (sm_putI M a0 4 ((sm_I M a0 4) + (sm_I M a0 8))) a0 1 (1 - (sm_I (sm_putI M a0 4 ((sm_I M a0 4) + (sm_I M a0 8))) a0 1))) a0 4), .inr (some a0)], sm_putI (sm_putI M a0 4 ((sm_I M a0 4) + (sm_I M a0 8))) a0 1 (1 - (sm_I (sm_putI M a0 4 ((sm_I M a0 4) + (sm_I M a0 8))) a0 1)))) sm_a56_33 rfl rfl (st_getI h_1 rfl) ?_
    refine ru_go (t := (37, [some (.inr (some a0)), some (.inr r1)], [.inr (some a0), .inl (sm_I (sm_putI (sm_putI M a0 4 ((sm_I M a0 4) + (sm_I M a0 8))) a0 1 (1 - (sm_I (sm_putI M a0 4 ((sm_I M a0 4) + (sm_I M a0 8))) a0 1))) a0 4), .inr (some a0)], sm_putI (sm_putI M a0 4 ((sm_I M a0 4) + (sm_I M a0 8))) a0 1 (1 - (sm_I (sm_putI M a0 4 ((sm_I M a0 4) + (sm_I M a0 8))) a0 1)))) sm_a56_36 rfl rfl rfl ?_
    refine ru_go (t := (40, [some (.inr (some a0)), some (.inr r1)], [.inl (sm_I (sm_putI (sm_putI M a0 4 ((sm_I M a0 4) + (sm_I M a0 8))) a0 1 (1 - (sm_I (sm_putI M a0 4 ((sm_I M a0 4) + (sm_I M a0 8))) a0 1))) a0 5), .inl (sm_I (sm_putI (sm_putI M a0 4 ((sm_I M a0 4) + (sm_I M a0 8))) a0 1 (1 - (sm_I (sm_putI M a0 4 ((sm_I M a0 4) + (sm_I M a0 8))) a0 1))) a0 4), .inr (some a0)], sm_putI (sm_putI M a0 4 ((sm_I M a0 4) + (sm_I M a0 8))) a0 1 (1 - (sm_I (sm_putI M a0 4 ((sm_I M a0 4) + (sm_I M a0 8))) a0 1)))) sm_a56_37 rfl rfl (st_getI h_1 rfl) ?_
    refine ru_icmp (pc := 40) (p := 54) (p2 := 43) sm_a56_40 (by decide) rfl ⟨fun hc_8 => ?_, fun hc_8 => ?_⟩
    · have h := h.1 hc_8
      refine ru_go (t := (55, [some (.inr (some a0)), some (.inr r1)], [.inl 1, .inr (some a0)], sm_putI (sm_putI M a0 4 ((sm_I M a0 4) + (sm_I M a0 8))) a0 1 (1 - (sm_I (sm_putI M a0 4 ((sm_I M a0 4) + (sm_I M a0 8))) a0 1)))) sm_a56_54 rfl rfl (st_iconst (by decide)) ?_
      refine ru_go (t := (59, [some (.inr (some a0)), some (.inr r1)], [.inl 1, .inr (some a0)], sm_putI (sm_putI M a0 4 ((sm_I M a0 4) + (sm_I M a0 8))) a0 1 (1 - (sm_I (sm_putI M a0 4 ((sm_I M a0 4) + (sm_I M a0 8))) a0 1)))) sm_a56_55 rfl rfl (st_goto (pc := 55) (by decide)) ?_
      refine ru_go (t := (62, [some (.inr (some a0)), some (.inr r1)], [], sm_putI (sm_putI (sm_putI M a0 4 ((sm_I M a0 4) + (sm_I M a0 8))) a0 1 (1 - (sm_I (sm_putI M a0 4 ((sm_I M a0 4) + (sm_I M a0 8))) a0 1))) a0 9 1)) sm_a56_59 rfl rfl (st_putI h_1 (by decide)) ?_
      refine ru_go (t := (99, [some (.inr (some a0)), some (.inr r1)], [], sm_putI (sm_putI (sm_putI M a0 4 ((sm_I M a0 4) + (sm_I M a0 8))) a0 1 (1 - (sm_I (sm_putI M a0 4 ((sm_I M a0 4) + (sm_I M a0 8))) a0 1))) a0 9 1)) sm_a56_62 rfl rfl (st_goto (pc := 62) (by decide)) ?_
      exact ru_ret sm_a56_99 (sm_rvv rfl) h
    · have h := h.2 hc_8
      refine ru_go (t := (44, [some (.inr (some a0)), some (.inr r1)], [.inr (some a0), .inr (some a0)], sm_putI (sm_putI M a0 4 ((sm_I M a0 4) + (sm_I M a0 8))) a0 1 (1 - (sm_I (sm_putI M a0 4 ((sm_I M a0 4) + (sm_I M a0 8))) a0 1)))) sm_a56_43 rfl rfl rfl ?_
      refine ru_go (t := (47, [some (.inr (some a0)), some (.inr r1)], [.inl (sm_I (sm_putI (sm_putI M a0 4 ((sm_I M a0 4) + (sm_I M a0 8))) a0 1 (1 - (sm_I (sm_putI M a0 4 ((sm_I M a0 4) + (sm_I M a0 8))) a0 1))) a0 8), .inr (some a0)], sm_putI (sm_putI M a0 4 ((sm_I M a0 4) + (sm_I M a0 8))) a0 1 (1 - (sm_I (sm_putI M a0 4 ((sm_I M a0 4) + (sm_I M a0 8))) a0 1)))) sm_a56_44 rfl rfl (st_getI h_1 rfl) ?_
      refine ru_go (t := (48, [some (.inr (some a0)), some (.inr r1)], [.inr r1, .inl (sm_I (sm_putI (sm_putI M a0 4 ((sm_I M a0 4) + (sm_I M a0 8))) a0 1 (1 - (sm_I (sm_putI M a0 4 ((sm_I M a0 4) + (sm_I M a0 8))) a0 1))) a0 8), .inr (some a0)], sm_putI (sm_putI M a0 4 ((sm_I M a0 4) + (sm_I M a0 8))) a0 1 (1 - (sm_I (sm_putI M a0 4 ((sm_I M a0 4) + (sm_I M a0 8))) a0 1)))) sm_a56_47 rfl rfl rfl ?_
      obtain ⟨b_9, hb_10, h⟩ := h
      rw [hb_10]
      obtain ⟨h_11, h⟩ := h
      refine ru_go (t := (51, [some (.inr (some a0)), some (.inr (some b_9))], [.inl (sm_I (sm_putI (sm_putI M a0 4 ((sm_I M a0 4) + (sm_I M a0 8))) a0 1 (1 - (sm_I (sm_putI M a0 4 ((sm_I M a0 4) + (sm_I M a0 8))) a0 1))) b_9 0), .inl (sm_I (sm_putI (sm_putI M a0 4 ((sm_I M a0 4) + (sm_I M a0 8))) a0 1 (1 - (sm_I (sm_putI M a0 4 ((sm_I M a0 4) + (sm_I M a0 8))) a0 1))) a0 8), .inr (some a0)], sm_putI (sm_putI M a0 4 ((sm_I M a0 4) + (sm_I M a0 8))) a0 1 (1 - (sm_I (sm_putI M a0 4 ((sm_I M a0 4) + (sm_I M a0 8))) a0 1)))) sm_a56_48 rfl rfl (st_getI h_11 rfl) ?_
      refine ru_icmp (pc := 51) (p := 58) (p2 := 54) sm_a56_51 (by decide) rfl ⟨fun hc_12 => ?_, fun hc_12 => ?_⟩
      · have h := h.1 hc_12
        refine ru_go (t := (59, [some (.inr (some a0)), some (.inr (some b_9))], [.inl 0, .inr (some a0)], sm_putI (sm_putI M a0 4 ((sm_I M a0 4) + (sm_I M a0 8))) a0 1 (1 - (sm_I (sm_putI M a0 4 ((sm_I M a0 4) + (sm_I M a0 8))) a0 1)))) sm_a56_58 rfl rfl (st_iconst (by decide)) ?_
        refine ru_go (t := (62, [some (.inr (some a0)), some (.inr (some b_9))], [], sm_putI (sm_putI (sm_putI M a0 4 ((sm_I M a0 4) + (sm_I M a0 8))) a0 1 (1 - (sm_I (sm_putI M a0 4 ((sm_I M a0 4) + (sm_I M a0 8))) a0 1))) a0 9 0)) sm_a56_59 rfl rfl (st_putI h_1 (by decide)) ?_
        refine ru_go (t := (99, [some (.inr (some a0)), some (.inr (some b_9))], [], sm_putI (sm_putI (sm_putI M a0 4 ((sm_I M a0 4) + (sm_I M a0 8))) a0 1 (1 - (sm_I (sm_putI M a0 4 ((sm_I M a0 4) + (sm_I M a0 8))) a0 1))) a0 9 0)) sm_a56_62 rfl rfl (st_goto (pc := 62) (by decide)) ?_
        exact ru_ret sm_a56_99 (sm_rvv rfl) h
      · have h := h.2 hc_12
        refine ru_go (t := (55, [some (.inr (some a0)), some (.inr (some b_9))], [.inl 1, .inr (some a0)], sm_putI (sm_putI M a0 4 ((sm_I M a0 4) + (sm_I M a0 8))) a0 1 (1 - (sm_I (sm_putI M a0 4 ((sm_I M a0 4) + (sm_I M a0 8))) a0 1)))) sm_a56_54 rfl rfl (st_iconst (by decide)) ?_
        refine ru_go (t := (59, [some (.inr (some a0)), some (.inr (some b_9))], [.inl 1, .inr (some a0)], sm_putI (sm_putI M a0 4 ((sm_I M a0 4) + (sm_I M a0 8))) a0 1 (1 - (sm_I (sm_putI M a0 4 ((sm_I M a0 4) + (sm_I M a0 8))) a0 1)))) sm_a56_55 rfl rfl (st_goto (pc := 55) (by decide)) ?_
        refine ru_go (t := (62, [some (.inr (some a0)), some (.inr (some b_9))], [], sm_putI (sm_putI (sm_putI M a0 4 ((sm_I M a0 4) + (sm_I M a0 8))) a0 1 (1 - (sm_I (sm_putI M a0 4 ((sm_I M a0 4) + (sm_I M a0 8))) a0 1))) a0 9 1)) sm_a56_59 rfl rfl (st_putI h_1 (by decide)) ?_
        refine ru_go (t := (99, [some (.inr (some a0)), some (.inr (some b_9))], [], sm_putI (sm_putI (sm_putI M a0 4 ((sm_I M a0 4) + (sm_I M a0 8))) a0 1 (1 - (sm_I (sm_putI M a0 4 ((sm_I M a0 4) + (sm_I M a0 8))) a0 1))) a0 9 1)) sm_a56_62 rfl rfl (st_goto (pc := 62) (by decide)) ?_
        exact ru_ret sm_a56_99 (sm_rvv rfl) h

/-! WireBus$ControlPoint.hearOut:(LWireBus$Device;LWireBus$Packet;)V -/
theorem sm_a57_0 : sm_at 57 0 = some (.aload_n 0, 1, (0, 0, 0, 0)) := by decide +kernel
theorem sm_a57_1 : sm_at 57 1 = some (.getfield 49, 3, (3, 0, 0, 221)) := by decide +kernel
theorem sm_a57_4 : sm_at 57 4 = some (.tableswitch 137 1 6 #[40, 58, 58, 49, 101, 101], 40, (0, 0, 0, 0)) := by decide +kernel
theorem sm_a57_44 : sm_at 57 44 = some (.aload_n 1, 1, (0, 0, 0, 0)) := by decide +kernel
theorem sm_a57_45 : sm_at 57 45 = some (.bipush 14, 2, (0, 0, 0, 0)) := by decide +kernel
theorem sm_a57_47 : sm_at 57 47 = some (.invokevirtual 71, 3, (10, 65, 4, 863)) := by decide +kernel
theorem sm_a57_50 : sm_at 57 50 = some (.goto 97, 3, (0, 0, 0, 0)) := by decide +kernel
theorem sm_a57_53 : sm_at 57 53 = some (.aload_n 0, 1, (0, 0, 0, 0)) := by decide +kernel
theorem sm_a57_54 : sm_at 57 54 = some (.aload_n 1, 1, (0, 0, 0, 0)) := by decide +kernel
theorem sm_a57_55 : sm_at 57 55 = some (.aload_n 2, 1, (0, 0, 0, 0)) := by decide +kernel
theorem sm_a57_56 : sm_at 57 56 = some (.invokevirtual 98, 3, (10, 58, 3, 943)) := by decide +kernel
theorem sm_a57_59 : sm_at 57 59 = some (.goto 88, 3, (0, 0, 0, 0)) := by decide +kernel
theorem sm_a57_62 : sm_at 57 62 = some (.aload_n 2, 1, (0, 0, 0, 0)) := by decide +kernel
theorem sm_a57_63 : sm_at 57 63 = some (.getfield 102, 3, (7, 1, 1, 146)) := by decide +kernel
theorem sm_a57_66 : sm_at 57 66 = some (.bipush 11, 2, (0, 0, 0, 0)) := by decide +kernel
theorem sm_a57_68 : sm_at 57 68 = some (.if_icmp .ne 23, 3, (0, 0, 0, 0)) := by decide +kernel
theorem sm_a57_71 : sm_at 57 71 = some (.aload_n 2, 1, (0, 0, 0, 0)) := by decide +kernel
theorem sm_a57_72 : sm_at 57 72 = some (.getfield 105, 3, (7, 4, 1, 160)) := by decide +kernel
theorem sm_a57_75 : sm_at 57 75 = some (.ifCond .ne 16, 3, (0, 0, 0, 0)) := by decide +kernel
theorem sm_a57_78 : sm_at 57 78 = some (.aload_n 0, 1, (0, 0, 0, 0)) := by decide +kernel
theorem sm_a57_79 : sm_at 57 79 = some (.iconst 3, 1, (0, 0, 0, 0)) := by decide +kernel
theorem sm_a57_80 : sm_at 57 80 = some (.putfield 49, 3, (3, 0, 0, 221)) := by decide +kernel
theorem sm_a57_83 : sm_at 57 83 = some (.aload_n 1, 1, (0, 0, 0, 0)) := by decide +kernel
theorem sm_a57_84 : sm_at 57 84 = some (.iconst 2, 1, (0, 0, 0, 0)) := by decide +kernel
theorem sm_a57_85 : sm_at 57 85 = some (.invokevirtual 71, 3, (10, 65, 4, 863)) := by decide +kernel
theorem sm_a57_88 : sm_at 57 88 = some (.goto 59, 3, (0, 0, 0, 0)) := by decide +kernel
theorem sm_a57_91 : sm_at 57 91 = some (.aload_n 0, 1, (0, 0, 0, 0)) := by decide +kernel
theorem sm_a57_92 : sm_at 57 92 = some (.iconst 1, 1, (0, 0, 0, 0)) := by decide +kernel
theorem sm_a57_93 : sm_at 57 93 = some (.putfield 49, 3, (3, 0, 0, 221)) := by decide +kernel
theorem sm_a57_96 : sm_at 57 96 = some (.aload_n 1, 1, (0, 0, 0, 0)) := by decide +kernel
theorem sm_a57_97 : sm_at 57 97 = some (.bipush 14, 2, (0, 0, 0, 0)) := by decide +kernel
theorem sm_a57_99 : sm_at 57 99 = some (.invokevirtual 71, 3, (10, 65, 4, 863)) := by decide +kernel
theorem sm_a57_102 : sm_at 57 102 = some (.goto 45, 3, (0, 0, 0, 0)) := by decide +kernel
theorem sm_a57_105 : sm_at 57 105 = some (.aload_n 2, 1, (0, 0, 0, 0)) := by decide +kernel
theorem sm_a57_106 : sm_at 57 106 = some (.getfield 102, 3, (7, 1, 1, 146)) := by decide +kernel
theorem sm_a57_109 : sm_at 57 109 = some (.invokestatic 108, 3, (13, 28, 0, 947)) := by decide +kernel
theorem sm_a57_112 : sm_at 57 112 = some (.aload_n 0, 1, (0, 0, 0, 0)) := by decide +kernel
theorem sm_a57_113 : sm_at 57 113 = some (.getfield 31, 3, (3, 1, 0, 223)) := by decide +kernel
theorem sm_a57_116 : sm_at 57 116 = some (.if_icmp .eq 11, 3, (0, 0, 0, 0)) := by decide +kernel
theorem sm_a57_119 : sm_at 57 119 = some (.aload_n 1, 1, (0, 0, 0, 0)) := by decide +kernel
theorem sm_a57_120 : sm_at 57 120 = some (.iconst 2, 1, (0, 0, 0, 0)) := by decide +kernel
theorem sm_a57_121 : sm_at 57 121 = some (.invokevirtual 71, 3, (10, 65, 4, 863)) := by decide +kernel
theorem sm_a57_124 : sm_at 57 124 = some (.goto 23, 3, (0, 0, 0, 0)) := by decide +kernel
theorem sm_a57_127 : sm_at 57 127 = some (.aload_n 0, 1, (0, 0, 0, 0)) := by decide +kernel
theorem sm_a57_128 : sm_at 57 128 = some (.iconst 1, 1, (0, 0, 0, 0)) := by decide +kernel
theorem sm_a57_129 : sm_at 57 129 = some (.putfield 49, 3, (3, 0, 0, 221)) := by decide +kernel
theorem sm_a57_132 : sm_at 57 132 = some (.aload_n 1, 1, (0, 0, 0, 0)) := by decide +kernel
theorem sm_a57_133 : sm_at 57 133 = some (.bipush 14, 2, (0, 0, 0, 0)) := by decide +kernel
theorem sm_a57_135 : sm_at 57 135 = some (.invokevirtual 71, 3, (10, 65, 4, 863)) := by decide +kernel
theorem sm_a57_138 : sm_at 57 138 = some (.goto 9, 3, (0, 0, 0, 0)) := by decide +kernel
theorem sm_a57_141 : sm_at 57 141 = some (.aload_n 1, 1, (0, 0, 0, 0)) := by decide +kernel
theorem sm_a57_142 : sm_at 57 142 = some (.bipush 10, 2, (0, 0, 0, 0)) := by decide +kernel
theorem sm_a57_144 : sm_at 57 144 = some (.invokevirtual 71, 3, (10, 65, 4, 863)) := by decide +kernel
theorem sm_a57_147 : sm_at 57 147 = some (.return_, 1, (0, 0, 0, 0)) := by decide +kernel
theorem bb_57_0 {d : Nat} {M : sm_M} {Q : Option sm_V → sm_M → Prop} {a0 : Nat} {r1 : Option Nat} {r2 : Option Nat}
    (h : sm_K M a0 = 12 ∧ (((sm_I M a0 0) = 1 → ∃ b_3, r1 = some b_3 ∧ sm_K M b_3 = 15 ∧ sm_Run d 65 0 (sm_ent 65 [.inr (some b_3), .inl 14]) [] M (fun v M1 => sm_Run (d + 1) 57 50 [some (.inr (some a0)), some (.inr (some b_3)), some (.inr r2)] (v.toList ++ []) M1 Q)) ∧ ((sm_I M a0 0) = 2 → ∃ b_7, r2 = some b_7 ∧ sm_K M b_7 = 24 ∧ ((¬ (sm_I M b_7 1) = 11 → ∃ b_11, r1 = some b_11 ∧ sm_K M b_11 = 15 ∧ sm_Run d 65 0 (sm_ent 65 [.inr (some b_11), .inl 14]) [] (sm_putI M a0 0 1) (fun v M1 => sm_Run (d + 1) 57 102 [some (.inr (some a0)), some (.inr (some b_11)), some (.inr (some b_7))] (v.toList ++ []) M1 Q)) ∧ (¬ (¬ (sm_I M b_7 1) = 11) → ((¬ (sm_I M b_7 4) = 0 → ∃ b_15, r1 = some b_15 ∧ sm_K M b_15 = 15 ∧ sm_Run d 65 0 (sm_ent 65 [.inr (some b_15), .inl 14]) [] (sm_putI M a0 0 1) (fun v M1 => sm_Run (d + 1) 57 102 [some (.inr (some a0)), some (.inr (some b_15)), some (.inr (some b_7))] (v.toList ++ []) M1 Q)) ∧ (¬ (¬ (sm_I M b_7 4) = 0) → ∃ b_18, r1 = some b_18 ∧ sm_K M b_18 = 15 ∧ sm_Run d 65 0 (sm_ent 65 [.inr (some b_18), .inl 2]) [] (sm_putI M a0 0 3) (fun v M1 => sm_Run (d + 1) 57 88 [some (.inr (some a0)), some (.inr (some b_18)), some (.inr (some b_7))] (v.toList ++ []) M1 Q)))))) ∧ ((sm_I M a0 0) = 3 → ∃ b_22, r2 = some b_22 ∧ sm_K M b_22 = 24 ∧ ((¬ (sm_I M b_22 1) = 11 → ∃ b_26, r1 = some b_26 ∧ sm_K M b_26 = 15 ∧ sm_Run d 65 0 (sm_ent 65 [.inr (some b_26), .inl 14]) [] (sm_putI M a0 0 1) (fun v M1 => sm_Run (d + 1) 57 102 [some (.inr (some a0)), some (.inr (some b_26)), some (.inr (some b_22))] (v.toList ++ []) M1 Q)) ∧ (¬ (¬ (sm_I M b_22 1) = 11) → ((¬ (sm_I M b_22 4) = 0 → ∃ b_30, r1 = some b_30 ∧ sm_K M b_30 = 15 ∧ sm_Run d 65 0 (sm_ent 65 [.inr (some b_30), .inl 14]) [] (sm_putI M a0 0 1) (fun v M1 => sm_Run (d + 1) 57 102 [some (.inr (some a0)), some (.inr (some b_30)), some (.inr (some b_22))] (v.toList ++ []) M1 Q)) ∧ (¬ (¬ (sm_I M b_22 4) = 0) → ∃ b_33, r1 = some b_33 ∧ sm_K M b_33 = 15 ∧ sm_Run d 65 0 (sm_ent 65 [.inr (some b_33), .inl 2]) [] (sm_putI M a0 0 3) (fun v M1 => sm_Run (d + 1) 57 88 [some (.inr (some a0)), some (.inr (some b_33)), some (.inr (some b_22))] (v.toList ++ []) M1 Q)))))) ∧ ((sm_I M a0 0) = 4 → sm_Run d 58 0 (sm_ent 58 [.inr (some a0), .inr r1, .inr r2]) [] M (fun v M1 => sm_Run (d + 1) 57 59 [some (.inr (some a0)), some (.inr r1), some (.inr r2)] (v.toList ++ []) M1 Q)) ∧ ((sm_I M a0 0) = 5 → ∃ b_38, r2 = some b_38 ∧ sm_K M b_38 = 24 ∧ sm_Run d 28 0 (sm_ent 28 [.inl (sm_I M b_38 1)]) [] M (fun v M1 => sm_Run (d + 1) 57 112 [some (.inr (some a0)), some (.inr r1), some (.inr (some b_38))] (v.toList ++ []) M1 Q)) ∧ ((sm_I M a0 0) = 6 → ∃ b_42, r2 = some b_42 ∧ sm_K M b_42 = 24 ∧ sm_Run d 28 0 (sm_ent 28 [.inl (sm_I M b_42 1)]) [] M (fun v M1 => sm_Run (d + 1) 57 112 [some (.inr (some a0)), some (.inr r1), some (.inr (some b_42))] (v.toList ++ []) M1 Q)) ∧ (¬ (sm_I M a0 0) = 1 → ¬ (sm_I M a0 0) = 2 → ¬ (sm_I M a0 0) = 3 → ¬ (sm_I M a0 0) = 4 → ¬ (sm_I M a0 0) = 5 → ¬ (sm_I M a0 0) = 6 → ∃ b_45, r1 = some b_45 ∧ sm_K M b_45 = 15 ∧ sm_Run d 65 0 (sm_ent 65 [.inr (some b_45), .inl 10]) [] M (fun v M1 => sm_Run (d + 1) 57 147 [some (.inr (some a0)), some (.inr (some b_45)), some (.inr r2)] (v.toList ++ []) M1 Q)))) :
    sm_Run (d + 1) 57 0 [some (.inr (some a0)), some (.inr r1), some (.inr r2)] [] M Q := by
  refine ru_go (t := (1, [some (.inr (some a0)), some (.inr r1), some (.inr r2)], [.inr (some a0)], M)) sm_a57_0 rfl rfl rfl ?_
  obtain ⟨h_1, h⟩ := h
  refine ru_go (t := (4, [some (.inr (some a0)), some (.inr r1), some (.inr r2)], [.inl (sm_I M a0 0)], M)) sm_a57_1 rfl rfl (st_getI h_1 rfl) ?_
  by_cases hc_2 : (sm_I M a0 0) = 1
  · have h := h.1 hc_2
    refine ru_tsw (pc := 4) (v := 1) (p := 44) sm_a57_4 hc_2 (by decide) ?_
    refine ru_go (t := (45, [some (.inr (some a0)), some (.inr r1), some (.inr r2)], [.inr r1], M)) sm_a57_44 rfl rfl rfl ?_
    refine ru_go (t := (47, [some (.inr (some a0)), some (.inr r1), some (.inr r2)], [.inl 14, .inr r1], M)) sm_a57_45 rfl rfl (st_bipush (by decide)) ?_
    obtain ⟨b_3, hb_4, h⟩ := h
    rw [hb_4]
    obtain ⟨h_5, h⟩ := h
    exact ru_call (p := 50) sm_a57_47 rfl (sc_virt (Or.inl rfl) rfl rfl h_5 (Nat.le_of_ble_eq_true rfl)) rfl h
  · by_cases hc_6 : (sm_I M a0 0) = 2
    · have h := h.2.1 hc_6
      refine ru_tsw (pc := 4) (v := 2) (p := 62) sm_a57_4 hc_6 (by decide) ?_
      refine ru_go (t := (63, [some (.inr (some a0)), some (.inr r1), some (.inr r2)], [.inr r2], M)) sm_a57_62 rfl rfl rfl ?_
      obtain ⟨b_7, hb_8, h⟩ := h
      rw [hb_8]
      obtain ⟨h_9, h⟩ := h
      refine ru_go (t := (66, [some (.inr (some a0)), some (.inr r1), some (.inr (some b_7))], [.inl (sm_I M b_7 1)], M)) sm_a57_63 rfl rfl (st_getI h_9 rfl) ?_
      refine ru_go (t := (68, [some (.inr (some a0)), some (.inr r1), some (.inr (some b_7))], [.inl 11, .inl (sm_I M b_7 1)], M)) sm_a57_66 rfl rfl (st_bipush (by decide)) ?_
      refine ru_icmp (pc := 68) (p := 91) (p2 := 71) sm_a57_68 (by decide) rfl ⟨fun hc_10 => ?_, fun hc_10 => ?_⟩
      · have h := h.1 hc_10
        refine ru_go (t := (92, [some (.inr (some a0)), some (.inr r1), some (.inr (some b_7))], [.inr (some a0)], M)) sm_a57_91 rfl rfl rfl ?_
        refine ru_go (t := (93, [some (.inr (some a0)), some (.inr r1), some (.inr (some b_7))], [.inl 1, .inr (some a0)], M)) sm_a57_92 rfl rfl (st_iconst (by decide)) ?_
        refine ru_go (t := (96, [some (.inr (some a0)), some (.inr r1), some (.inr (some b_7))], [], sm_putI M a0 0 1)) sm_a57_93 rfl rfl (st_putI h_1 rfl) ?_
        refine ru_go (t := (97, [some (.inr (some a0)), some (.inr r1), some (.inr (some b_7))], [.inr r1], sm_putI M a0 0 1)) sm_a57_96 rfl rfl rfl ?_
        refine ru_go (t := (99, [some (.inr (some a0)), some (.inr r1), some (.inr (some b_7))], [.inl 14, .inr r1], sm_putI M a0 0 1)) sm_a57_97 rfl rfl (st_bipush (by decide)) ?_
        obtain ⟨b_11, hb_12, h⟩ := h
        rw [hb_12]
        obtain ⟨h_13, h⟩ := h
        exact ru_call (p := 102) sm_a57_99 rfl (sc_virt (Or.inl rfl) rfl rfl h_13 (Nat.le_of_ble_eq_true rfl)) rfl h
      · have h := h.2 hc_10
        refine ru_go (t := (72, [some (.inr (some a0)), some (.inr r1), some (.inr (some b_7))], [.inr (some b_7)], M)) sm_a57_71 rfl rfl rfl ?_
        refine ru_go (t := (75, [some (.inr (some a0)), some (.inr r1), some (.inr (some b_7))], [.inl (sm_I M b_7 4)], M)) sm_a57_72 rfl rfl (st_getI h_9 rfl) ?_
        refine ru_if (pc := 75) (p := 91) (p2 := 78) sm_a57_75 (by decide) rfl ⟨fun hc_14 => ?_, fun hc_14 => ?_⟩
        · have h := h.1 hc_14
          refine ru_go (t := (92, [some (.inr (some a0)), some (.inr r1), some (.inr (some b_7))], [.inr (some a0)], M)) sm_a57_91 rfl rfl rfl ?_
          refine ru_go (t := (93, [some (.inr (some a0)), some (.inr r1), some (.inr (some b_7))], [.inl 1, .inr (some a0)], M)) sm_a57_92 rfl rfl (st_iconst (by decide)) ?_
          refine ru_go (t := (96, [some (.inr (some a0)), some (.inr r1), some (.inr (some b_7))], [], sm_putI M a0 0 1)) sm_a57_93 rfl rfl (st_putI h_1 rfl) ?_
          refine ru_go (t := (97, [some (.inr (some a0)), some (.inr r1), some (.inr (some b_7))], [.inr r1], sm_putI M a0 0 1)) sm_a57_96 rfl rfl rfl ?_
          refine ru_go (t := (99, [some (.inr (some a0)), some (.inr r1), some (.inr (some b_7))], [.inl 14, .inr r1], sm_putI M a0 0 1)) sm_a57_97 rfl rfl (st_bipush (by decide)) ?_
          obtain ⟨b_15, hb_16, h⟩ := h
          rw [hb_16]
          obtain ⟨h_17, h⟩ := h
          exact ru_call (p := 102) sm_a57_99 rfl (sc_virt (Or.inl rfl) rfl rfl h_17 (Nat.le_of_ble_eq_true rfl)) rfl h
        · have h := h.2 hc_14
          refine ru_go (t := (79, [some (.inr (some a0)), some (.inr r1), some (.inr (some b_7))], [.inr (some a0)], M)) sm_a57_78 rfl rfl rfl ?_
          refine ru_go (t := (80, [some (.inr (some a0)), some (.inr r1), some (.inr (some b_7))], [.inl 3, .inr (some a0)], M)) sm_a57_79 rfl rfl (st_iconst (by decide)) ?_
          refine ru_go (t := (83, [some (.inr (some a0)), some (.inr r1), some (.inr (some b_7))], [], sm_putI M a0 0 3)) sm_a57_80 rfl rfl (st_putI h_1 rfl) ?_
          refine ru_go (t := (84, [some (.inr (some a0)), some (.inr r1), some (.inr (some b_7))], [.inr r1], sm_putI M a0 0 3)) sm_a57_83 rfl rfl rfl ?_
          refine ru_go (t := (85, [some (.inr (some a0)), some (.inr r1), some (.inr (some b_7))], [.inl 2, .inr r1], sm_putI M a0 0 3)) sm_a57_84 rfl rfl (st_iconst (by decide)) ?_
          obtain ⟨b_18, hb_19, h⟩ := h
          rw [hb_19]
          obtain ⟨h_20, h⟩ := h
          exact ru_call (p := 88) sm_a57_85 rfl (sc_virt (Or.inl rfl) rfl rfl h_20 (Nat.le_of_ble_eq_true rfl)) rfl h
    · by_cases hc_21 : (sm_I M a0 0) = 3
      · have h := h.2.2.1 hc_21
        refine ru_tsw (pc := 4) (v := 3) (p := 62) sm_a57_4 hc_21 (by decide) ?_
        refine ru_go (t := (63, [some (.inr (some a0)), some (.inr r1), some (.inr r2)], [.inr r2], M)) sm_a57_62 rfl rfl rfl ?_
        obtain ⟨b_22, hb_23, h⟩ := h
        rw [hb_23]
        obtain ⟨h_24, h⟩ := h
        refine ru_go (t := (66, [some (.inr (some a0)), some (.inr r1), some (.inr (some b_22))], [.inl (sm_I M b_22 1)], M)) sm_a57_63 rfl rfl (st_getI h_24 rfl) ?_
        refine ru_go (t := (68, [some (.inr (some a0)), some (.inr r1), some (.inr (some b_22))], [.inl 11, .inl (sm_I M b_22 1)], M)) sm_a57_66 rfl rfl (st_bipush (by decide)) ?_
        refine ru_icmp (pc := 68) (p := 91) (p2 := 71) sm_a57_68 (by decide) rfl ⟨fun hc_25 => ?_, fun hc_25 => ?_⟩
        · have h := h.1 hc_25
          refine ru_go (t := (92, [some (.inr (some a0)), some (.inr r1), some (.inr (some b_22))], [.inr (some a0)], M)) sm_a57_91 rfl rfl rfl ?_
          refine ru_go (t := (93, [some (.inr (some a0)), some (.inr r1), some (.inr (some b_22))], [.inl 1, .inr (some a0)], M)) sm_a57_92 rfl rfl (st_iconst (by decide)) ?_
          refine ru_go (t := (96, [some (.inr (some a0)), some (.inr r1), some (.inr (some b_22))], [], sm_putI M a0 0 1)) sm_a57_93 rfl rfl (st_putI h_1 rfl) ?_
          refine ru_go (t := (97, [some (.inr (some a0)), some (.inr r1), some (.inr (some b_22))], [.inr r1], sm_putI M a0 0 1)) sm_a57_96 rfl rfl rfl ?_
          refine ru_go (t := (99, [some (.inr (some a0)), some (.inr r1), some (.inr (some b_22))], [.inl 14, .inr r1], sm_putI M a0 0 1)) sm_a57_97 rfl rfl (st_bipush (by decide)) ?_
          obtain ⟨b_26, hb_27, h⟩ := h
          rw [hb_27]
          obtain ⟨h_28, h⟩ := h
          exact ru_call (p := 102) sm_a57_99 rfl (sc_virt (Or.inl rfl) rfl rfl h_28 (Nat.le_of_ble_eq_true rfl)) rfl h
        · have h := h.2 hc_25
          refine ru_go (t := (72, [some (.inr (some a0)), some (.inr r1), some (.inr (some b_22))], [.inr (some b_22)], M)) sm_a57_71 rfl rfl rfl ?_
          refine ru_go (t := (75, [some (.inr (some a0)), some (.inr r1), some (.inr (some b_22))], [.inl (sm_I M b_22 4)], M)) sm_a57_72 rfl rfl (st_getI h_24 rfl) ?_
          refine ru_if (pc := 75) (p := 91) (p2 := 78) sm_a57_75 (by decide) rfl ⟨fun hc_29 => ?_, fun hc_29 => ?_⟩
          · have h := h.1 hc_29
            refine ru_go (t := (92, [some (.inr (some a0)), some (.inr r1), some (.inr (some b_22))], [.inr (some a0)], M)) sm_a57_91 rfl rfl rfl ?_
            refine ru_go (t := (93, [some (.inr (some a0)), some (.inr r1), some (.inr (some b_22))], [.inl 1, .inr (some a0)], M)) sm_a57_92 rfl rfl (st_iconst (by decide)) ?_
            refine ru_go (t := (96, [some (.inr (some a0)), some (.inr r1), some (.inr (some b_22))], [], sm_putI M a0 0 1)) sm_a57_93 rfl rfl (st_putI h_1 rfl) ?_
            refine ru_go (t := (97, [some (.inr (some a0)), some (.inr r1), some (.inr (some b_22))], [.inr r1], sm_putI M a0 0 1)) sm_a57_96 rfl rfl rfl ?_
            refine ru_go (t := (99, [some (.inr (some a0)), some (.inr r1), some (.inr (some b_22))], [.inl 14, .inr r1], sm_putI M a0 0 1)) sm_a57_97 rfl rfl (st_bipush (by decide)) ?_
            obtain ⟨b_30, hb_31, h⟩ := h
            rw [hb_31]
            obtain ⟨h_32, h⟩ := h
            exact ru_call (p := 102) sm_a57_99 rfl (sc_virt (Or.inl rfl) rfl rfl h_32 (Nat.le_of_ble_eq_true rfl)) rfl h
          · have h := h.2 hc_29
            refine ru_go (t := (79, [some (.inr (some a0)), some (.inr r1), some (.inr (some b_22))], [.inr (some a0)], M)) sm_a57_78 rfl rfl rfl ?_
            refine ru_go (t := (80, [some (.inr (some a0)), some (.inr r1), some (.inr (some b_22))], [.inl 3, .inr (some a0)], M)) sm_a57_79 rfl rfl (st_iconst (by decide)) ?_
            refine ru_go (t := (83, [some (.inr (some a0)), some (.inr r1), some (.inr (some b_22))], [], sm_putI M a0 0 3)) sm_a57_80 rfl rfl (st_putI h_1 rfl) ?_
            refine ru_go (t := (84, [some (.inr (some a0)), some (.inr r1), some (.inr (some b_22))], [.inr r1], sm_putI M a0 0 3)) sm_a57_83 rfl rfl rfl ?_
            refine ru_go (t := (85, [some (.inr (some a0)), some (.inr r1), some (.inr (some b_22))], [.inl 2, .inr r1], sm_putI M a0 0 3)) sm_a57_84 rfl rfl (st_iconst (by decide)) ?_
            obtain ⟨b_33, hb_34, h⟩ := h
            rw [hb_34]
            obtain ⟨h_35, h⟩ := h
            exact ru_call (p := 88) sm_a57_85 rfl (sc_virt (Or.inl rfl) rfl rfl h_35 (Nat.le_of_ble_eq_true rfl)) rfl h
      · by_cases hc_36 : (sm_I M a0 0) = 4
        · have h := h.2.2.2.1 hc_36
          refine ru_tsw (pc := 4) (v := 4) (p := 53) sm_a57_4 hc_36 (by decide) ?_
          refine ru_go (t := (54, [some (.inr (some a0)), some (.inr r1), some (.inr r2)], [.inr (some a0)], M)) sm_a57_53 rfl rfl rfl ?_
          refine ru_go (t := (55, [some (.inr (some a0)), some (.inr r1), some (.inr r2)], [.inr r1, .inr (some a0)], M)) sm_a57_54 rfl rfl rfl ?_
          refine ru_go (t := (56, [some (.inr (some a0)), some (.inr r1), some (.inr r2)], [.inr r2, .inr r1, .inr (some a0)], M)) sm_a57_55 rfl rfl rfl ?_
          exact ru_call (p := 59) sm_a57_56 rfl (sc_virt (Or.inl rfl) rfl rfl h_1 (Nat.le_of_ble_eq_true rfl)) rfl h
        · by_cases hc_37 : (sm_I M a0 0) = 5
          · have h := h.2.2.2.2.1 hc_37
            refine ru_tsw (pc := 4) (v := 5) (p := 105) sm_a57_4 hc_37 (by decide) ?_
            refine ru_go (t := (106, [some (.inr (some a0)), some (.inr r1), some (.inr r2)], [.inr r2], M)) sm_a57_105 rfl rfl rfl ?_
            obtain ⟨b_38, hb_39, h⟩ := h
            rw [hb_39]
            obtain ⟨h_40, h⟩ := h
            refine ru_go (t := (109, [some (.inr (some a0)), some (.inr r1), some (.inr (some b_38))], [.inl (sm_I M b_38 1)], M)) sm_a57_106 rfl rfl (st_getI h_40 rfl) ?_
            exact ru_call (p := 112) sm_a57_109 rfl (sc_stat (Or.inr rfl) (Nat.le_of_ble_eq_true rfl) rfl rfl (Nat.le_of_ble_eq_true rfl)) rfl h
          · by_cases hc_41 : (sm_I M a0 0) = 6
            · have h := h.2.2.2.2.2.1 hc_41
              refine ru_tsw (pc := 4) (v := 6) (p := 105) sm_a57_4 hc_41 (by decide) ?_
              refine ru_go (t := (106, [some (.inr (some a0)), some (.inr r1), some (.inr r2)], [.inr r2], M)) sm_a57_105 rfl rfl rfl ?_
              obtain ⟨b_42, hb_43, h⟩ := h
              rw [hb_43]
              obtain ⟨h_44, h⟩ := h
              refine ru_go (t := (109, [some (.inr (some a0)), some (.inr r1), some (.inr (some b_42))], [.inl (sm_I M b_42 1)], M)) sm_a57_106 rfl rfl (st_getI h_44 rfl) ?_
              exact ru_call (p := 112) sm_a57_109 rfl (sc_stat (Or.inr rfl) (Nat.le_of_ble_eq_true rfl) rfl rfl (Nat.le_of_ble_eq_true rfl)) rfl h
            · have h := h.2.2.2.2.2.2 hc_2 hc_6 hc_21 hc_36 hc_37 hc_41
              have zhc_2 := sm_ne_toInt hc_2; rw [show (1 : Int32).toInt = 1 by decide] at zhc_2
              have zhc_6 := sm_ne_toInt hc_6; rw [show (2 : Int32).toInt = 2 by decide] at zhc_6
              have zhc_21 := sm_ne_toInt hc_21; rw [show (3 : Int32).toInt = 3 by decide] at zhc_21
              have zhc_36 := sm_ne_toInt hc_36; rw [show (4 : Int32).toInt = 4 by decide] at zhc_36
              have zhc_37 := sm_ne_toInt hc_37; rw [show (5 : Int32).toInt = 5 by decide] at zhc_37
              have zhc_41 := sm_ne_toInt hc_41; rw [show (6 : Int32).toInt = 6 by decide] at zhc_41
              refine ru_tswd (pc := 4) (p := 141) sm_a57_4 (by omega) (by decide) ?_
              refine ru_go (t := (142, [some (.inr (some a0)), some (.inr r1), some (.inr r2)], [.inr r1], M)) sm_a57_141 rfl rfl rfl ?_
              refine ru_go (t := (144, [some (.inr (some a0)), some (.inr r1), some (.inr r2)], [.inl 10, .inr r1], M)) sm_a57_142 rfl rfl (st_bipush (by decide)) ?_
              obtain ⟨b_45, hb_46, h⟩ := h
              rw [hb_46]
              obtain ⟨h_47, h⟩ := h
              exact ru_call (p := 147) sm_a57_144 rfl (sc_virt (Or.inl rfl) rfl rfl h_47 (Nat.le_of_ble_eq_true rfl)) rfl h
theorem bb_57_50 {d : Nat} {M : sm_M} {Q : Option sm_V → sm_M → Prop} {a0 : Nat} {r1 : Option Nat} {r2 : Option Nat}
    (h : Q none M) :
    sm_Run (d + 1) 57 50 [some (.inr (some a0)), some (.inr r1), some (.inr r2)] [] M Q := by
  refine ru_go (t := (147, [some (.inr (some a0)), some (.inr r1), some (.inr r2)], [], M)) sm_a57_50 rfl rfl (st_goto (pc := 50) (by decide)) ?_
  exact ru_ret sm_a57_147 (sm_rvv rfl) h
theorem bb_57_59 {d : Nat} {M : sm_M} {Q : Option sm_V → sm_M → Prop} {a0 : Nat} {r1 : Option Nat} {r2 : Option Nat}
    (h : Q none M) :
    sm_Run (d + 1) 57 59 [some (.inr (some a0)), some (.inr r1), some (.inr r2)] [] M Q := by
  refine ru_go (t := (147, [some (.inr (some a0)), some (.inr r1), some (.inr r2)], [], M)) sm_a57_59 rfl rfl (st_goto (pc := 59) (by decide)) ?_
  exact ru_ret sm_a57_147 (sm_rvv rfl) h
theorem bb_57_88 {d : Nat} {M : sm_M} {Q : Option sm_V → sm_M → Prop} {a0 : Nat} {r1 : Option Nat} {r2 : Option Nat}
    (h : Q none M) :
    sm_Run (d + 1) 57 88 [some (.inr (some a0)), some (.inr r1), some (.inr r2)] [] M Q := by
  refine ru_go (t := (147, [some (.inr (some a0)), some (.inr r1), some (.inr r2)], [], M)) sm_a57_88 rfl rfl (st_goto (pc := 88) (by decide)) ?_
  exact ru_ret sm_a57_147 (sm_rvv rfl) h
theorem bb_57_102 {d : Nat} {M : sm_M} {Q : Option sm_V → sm_M → Prop} {a0 : Nat} {r1 : Option Nat} {r2 : Option Nat}
    (h : Q none M) :
    sm_Run (d + 1) 57 102 [some (.inr (some a0)), some (.inr r1), some (.inr r2)] [] M Q := by
  refine ru_go (t := (147, [some (.inr (some a0)), some (.inr r1), some (.inr r2)], [], M)) sm_a57_102 rfl rfl (st_goto (pc := 102) (by decide)) ?_
  exact ru_ret sm_a57_147 (sm_rvv rfl) h
theorem bb_57_112 {d : Nat} {M : sm_M} {Q : Option sm_V → sm_M → Prop} {a0 : Nat} {r1 : Option Nat} {r2 : Option Nat} {y0 : Int32}
    (h : sm_K M a0 = 12 ∧ ((y0 = (sm_I M a0 1) → ∃ b_3, r1 = some b_3 ∧ sm_K M b_3 = 15 ∧ sm_Run d 65 0 (sm_ent 65 [.inr (some b_3), .inl 14]) [] (sm_putI M a0 0 1) (fun v M1 => sm_Run (d + 1) 57 138 [some (.inr (some a0)), some (.inr (some b_3)), some (.inr r2)] (v.toList ++ []) M1 Q)) ∧ (¬ (y0 = (sm_I M a0 1)) → ∃ b_6, r1 = some b_6 ∧ sm_K M b_6 = 15 ∧ sm_Run d 65 0 (sm_ent 65 [.inr (some b_6), .inl 2]) [] M (fun v M1 => sm_Run (d + 1) 57 124 [some (.inr (some a0)), some (.inr (some b_6)), some (.inr r2)] (v.toList ++ []) M1 Q)))) :
    sm_Run (d + 1) 57 112 [some (.inr (some a0)), some (.inr r1), some (.inr r2)] [.inl y0] M Q := by
  refine ru_go (t := (113, [some (.inr (some a0)), some (.inr r1), some (.inr r2)], [.inr (some a0), .inl y0], M)) sm_a57_112 rfl rfl rfl ?_
  obtain ⟨h_1, h⟩ := h
  refine ru_go (t := (116, [some (.inr (some a0)), some (.inr r1), some (.inr r2)], [.inl (sm_I M a0 1), .inl y0], M)) sm_a57_113 rfl rfl (st_getI h_1 rfl) ?_
  refine ru_icmp (pc := 116) (p := 127) (p2 := 119) sm_a57_116 (by decide) rfl ⟨fun hc_2 => ?_, fun hc_2 => ?_⟩
  · have h := h.1 hc_2
    refine ru_go (t := (128, [some (.inr (some a0)), some (.inr r1), some (.inr r2)], [.inr (some a0)], M)) sm_a57_127 rfl rfl rfl ?_
    refine ru_go (t := (129, [some (.inr (some a0)), some (.inr r1), some (.inr r2)], [.inl 1, .inr (some a0)], M)) sm_a57_128 rfl rfl (st_iconst (by decide)) ?_
    refine ru_go (t := (132, [some (.inr (some a0)), some (.inr r1), some (.inr r2)], [], sm_putI M a0 0 1)) sm_a57_129 rfl rfl (st_putI h_1 rfl) ?_
    refine ru_go (t := (133, [some (.inr (some a0)), some (.inr r1), some (.inr r2)], [.inr r1], sm_putI M a0 0 1)) sm_a57_132 rfl rfl rfl ?_
    refine ru_go (t := (135, [some (.inr (some a0)), some (.inr r1), some (.inr r2)], [.inl 14, .inr r1], sm_putI M a0 0 1)) sm_a57_133 rfl rfl (st_bipush (by decide)) ?_
    obtain ⟨b_3, hb_4, h⟩ := h
    rw [hb_4]
    obtain ⟨h_5, h⟩ := h
    exact ru_call (p := 138) sm_a57_135 rfl (sc_virt (Or.inl rfl) rfl rfl h_5 (Nat.le_of_ble_eq_true rfl)) rfl h
  · have h := h.2 hc_2
    refine ru_go (t := (120, [some (.inr (some a0)), some (.inr r1), some (.inr r2)], [.inr r1], M)) sm_a57_119 rfl rfl rfl ?_
    refine ru_go (t := (121, [some (.inr (some a0)), some (.inr r1), some (.inr r2)], [.inl 2, .inr r1], M)) sm_a57_120 rfl rfl (st_iconst (by decide)) ?_
    obtain ⟨b_6, hb_7, h⟩ := h
    rw [hb_7]
    obtain ⟨h_8, h⟩ := h
    exact ru_call (p := 124) sm_a57_121 rfl (sc_virt (Or.inl rfl) rfl rfl h_8 (Nat.le_of_ble_eq_true rfl)) rfl h
theorem bb_57_124 {d : Nat} {M : sm_M} {Q : Option sm_V → sm_M → Prop} {a0 : Nat} {r1 : Option Nat} {r2 : Option Nat}
    (h : Q none M) :
    sm_Run (d + 1) 57 124 [some (.inr (some a0)), some (.inr r1), some (.inr r2)] [] M Q := by
  refine ru_go (t := (147, [some (.inr (some a0)), some (.inr r1), some (.inr r2)], [], M)) sm_a57_124 rfl rfl (st_goto (pc := 124) (by decide)) ?_
  exact ru_ret sm_a57_147 (sm_rvv rfl) h
theorem bb_57_138 {d : Nat} {M : sm_M} {Q : Option sm_V → sm_M → Prop} {a0 : Nat} {r1 : Option Nat} {r2 : Option Nat}
    (h : Q none M) :
    sm_Run (d + 1) 57 138 [some (.inr (some a0)), some (.inr r1), some (.inr r2)] [] M Q := by
  refine ru_go (t := (147, [some (.inr (some a0)), some (.inr r1), some (.inr r2)], [], M)) sm_a57_138 rfl rfl (st_goto (pc := 138) (by decide)) ?_
  exact ru_ret sm_a57_147 (sm_rvv rfl) h
theorem bb_57_147 {d : Nat} {M : sm_M} {Q : Option sm_V → sm_M → Prop} {a0 : Nat} {r1 : Option Nat} {r2 : Option Nat}
    (h : Q none M) :
    sm_Run (d + 1) 57 147 [some (.inr (some a0)), some (.inr r1), some (.inr r2)] [] M Q := by
  exact ru_ret sm_a57_147 (sm_rvv rfl) h

/-! WireBus$ControlPoint.takeBytes:(LWireBus$Device;LWireBus$Packet;)V -/
theorem sm_a58_0 : sm_at 58 0 = some (.aload_n 2, 1, (0, 0, 0, 0)) := by decide +kernel
theorem sm_a58_1 : sm_at 58 1 = some (.getfield 102, 3, (7, 1, 1, 146)) := by decide +kernel
theorem sm_a58_4 : sm_at 58 4 = some (.invokestatic 108, 3, (13, 28, 0, 947)) := by decide +kernel
theorem sm_a58_7 : sm_at 58 7 = some (.aload_n 0, 1, (0, 0, 0, 0)) := by decide +kernel
theorem sm_a58_8 : sm_at 58 8 = some (.getfield 31, 3, (3, 1, 0, 223)) := by decide +kernel
theorem sm_a58_11 : sm_at 58 11 = some (.if_icmp .eq 9, 3, (0, 0, 0, 0)) := by decide +kernel
theorem sm_a58_14 : sm_at 58 14 = some (.aload_n 1, 1, (0, 0, 0, 0)) := by decide +kernel
theorem sm_a58_15 : sm_at 58 15 = some (.iconst 2, 1, (0, 0, 0, 0)) := by decide +kernel
theorem sm_a58_16 : sm_at 58 16 = some (.invokevirtual 71, 3, (10, 65, 4, 863)) := by decide +kernel
theorem sm_a58_19 : sm_at 58 19 = some (.return_, 1, (0, 0, 0, 0)) := by decide +kernel
theorem sm_a58_20 : sm_at 58 20 = some (.aload_n 2, 1, (0, 0, 0, 0)) := by decide +kernel
theorem sm_a58_21 : sm_at 58 21 = some (.getfield 105, 3, (7, 4, 1, 160)) := by decide +kernel
theorem sm_a58_24 : sm_at 58 24 = some (.aload_n 0, 1, (0, 0, 0, 0)) := by decide +kernel
theorem sm_a58_25 : sm_at 58 25 = some (.getfield 28, 3, (3, 5, 0, 227)) := by decide +kernel
theorem sm_a58_28 : sm_at 58 28 = some (.aload_n 0, 1, (0, 0, 0, 0)) := by decide +kernel
theorem sm_a58_29 : sm_at 58 29 = some (.getfield 34, 3, (3, 4, 0, 226)) := by decide +kernel
theorem sm_a58_32 : sm_at 58 32 = some (.isub, 1, (0, 0, 0, 0)) := by decide +kernel
theorem sm_a58_33 : sm_at 58 33 = some (.if_icmp .le 15, 3, (0, 0, 0, 0)) := by decide +kernel
theorem sm_a58_36 : sm_at 58 36 = some (.aload_n 0, 1, (0, 0, 0, 0)) := by decide +kernel
theorem sm_a58_37 : sm_at 58 37 = some (.iconst 1, 1, (0, 0, 0, 0)) := by decide +kernel
theorem sm_a58_38 : sm_at 58 38 = some (.putfield 49, 3, (3, 0, 0, 221)) := by decide +kernel
theorem sm_a58_41 : sm_at 58 41 = some (.aload_n 1, 1, (0, 0, 0, 0)) := by decide +kernel
theorem sm_a58_42 : sm_at 58 42 = some (.bipush 14, 2, (0, 0, 0, 0)) := by decide +kernel
theorem sm_a58_44 : sm_at 58 44 = some (.invokevirtual 71, 3, (10, 65, 4, 863)) := by decide +kernel
theorem sm_a58_47 : sm_at 58 47 = some (.return_, 1, (0, 0, 0, 0)) := by decide +kernel
theorem sm_a58_48 : sm_at 58 48 = some (.iconst 0, 1, (0, 0, 0, 0)) := by decide +kernel
theorem sm_a58_49 : sm_at 58 49 = some (.istore_n 3, 1, (0, 0, 0, 0)) := by decide +kernel
theorem sm_a58_50 : sm_at 58 50 = some (.iload_n 3, 1, (0, 0, 0, 0)) := by decide +kernel
theorem sm_a58_51 : sm_at 58 51 = some (.aload_n 2, 1, (0, 0, 0, 0)) := by decide +kernel
theorem sm_a58_52 : sm_at 58 52 = some (.getfield 105, 3, (7, 4, 1, 160)) := by decide +kernel
theorem sm_a58_55 : sm_at 58 55 = some (.if_icmp .ge 45, 3, (0, 0, 0, 0)) := by decide +kernel
theorem sm_a58_58 : sm_at 58 58 = some (.aload_n 0, 1, (0, 0, 0, 0)) := by decide +kernel
theorem sm_a58_59 : sm_at 58 59 = some (.getfield 34, 3, (3, 4, 0, 226)) := by decide +kernel
theorem sm_a58_62 : sm_at 58 62 = some (.aload_n 0, 1, (0, 0, 0, 0)) := by decide +kernel
theorem sm_a58_63 : sm_at 58 63 = some (.getfield 9, 3, (3, 2, 0, 224)) := by decide +kernel
theorem sm_a58_66 : sm_at 58 66 = some (.arraylength, 1, (0, 0, 0, 0)) := by decide +kernel
theorem sm_a58_67 : sm_at 58 67 = some (.if_icmp .ge 33, 3, (0, 0, 0, 0)) := by decide +kernel
theorem sm_a58_70 : sm_at 58 70 = some (.aload_n 0, 1, (0, 0, 0, 0)) := by decide +kernel
theorem sm_a58_71 : sm_at 58 71 = some (.getfield 9, 3, (3, 2, 0, 224)) := by decide +kernel
theorem sm_a58_74 : sm_at 58 74 = some (.aload_n 0, 1, (0, 0, 0, 0)) := by decide +kernel
theorem sm_a58_75 : sm_at 58 75 = some (.getfield 34, 3, (3, 4, 0, 226)) := by decide +kernel
theorem sm_a58_78 : sm_at 58 78 = some (.aload_n 2, 1, (0, 0, 0, 0)) := by decide +kernel
theorem sm_a58_79 : sm_at 58 79 = some (.iload_n 3, 1, (0, 0, 0, 0)) := by decide +kernel
theorem sm_a58_80 : sm_at 58 80 = some (.invokevirtual 15, 3, (10, 107, 7, 890)) := by decide +kernel
theorem sm_a58_83 : sm_at 58 83 = some (.iastore, 1, (0, 0, 0, 0)) := by decide +kernel
theorem sm_a58_84 : sm_at 58 84 = some (.aload_n 0, 1, (0, 0, 0, 0)) := by decide +kernel
theorem sm_a58_85 : sm_at 58 85 = some (.dup, 1, (0, 0, 0, 0)) := by decide +kernel
theorem sm_a58_86 : sm_at 58 86 = some (.getfield 34, 3, (3, 4, 0, 226)) := by decide +kernel
theorem sm_a58_89 : sm_at 58 89 = some (.iconst 1, 1, (0, 0, 0, 0)) := by decide +kernel
theorem sm_a58_90 : sm_at 58 90 = some (.iadd, 1, (0, 0, 0, 0)) := by decide +kernel
theorem sm_a58_91 : sm_at 58 91 = some (.putfield 34, 3, (3, 4, 0, 226)) := by decide +kernel
theorem sm_a58_94 : sm_at 58 94 = some (.iinc 3 1, 3, (0, 0, 0, 0)) := by decide +kernel
theorem sm_a58_97 : sm_at 58 97 = some (.goto (-47), 3, (0, 0, 0, 0)) := by decide +kernel
theorem sm_a58_100 : sm_at 58 100 = some (.aload_n 0, 1, (0, 0, 0, 0)) := by decide +kernel
theorem sm_a58_101 : sm_at 58 101 = some (.iconst 1, 1, (0, 0, 0, 0)) := by decide +kernel
theorem sm_a58_102 : sm_at 58 102 = some (.aload_n 0, 1, (0, 0, 0, 0)) := by decide +kernel
theorem sm_a58_103 : sm_at 58 103 = some (.getfield 31, 3, (3, 1, 0, 223)) := by decide +kernel
theorem sm_a58_106 : sm_at 58 106 = some (.isub, 1, (0, 0, 0, 0)) := by decide +kernel
theorem sm_a58_107 : sm_at 58 107 = some (.putfield 31, 3, (3, 1, 0, 223)) := by decide +kernel
theorem sm_a58_110 : sm_at 58 110 = some (.aload_n 1, 1, (0, 0, 0, 0)) := by decide +kernel
theorem sm_a58_111 : sm_at 58 111 = some (.iconst 2, 1, (0, 0, 0, 0)) := by decide +kernel
theorem sm_a58_112 : sm_at 58 112 = some (.invokevirtual 71, 3, (10, 65, 4, 863)) := by decide +kernel
theorem sm_a58_115 : sm_at 58 115 = some (.aload_n 0, 1, (0, 0, 0, 0)) := by decide +kernel
theorem sm_a58_116 : sm_at 58 116 = some (.getfield 34, 3, (3, 4, 0, 226)) := by decide +kernel
theorem sm_a58_119 : sm_at 58 119 = some (.aload_n 0, 1, (0, 0, 0, 0)) := by decide +kernel
theorem sm_a58_120 : sm_at 58 120 = some (.getfield 28, 3, (3, 5, 0, 227)) := by decide +kernel
theorem sm_a58_123 : sm_at 58 123 = some (.if_icmp .ne 24, 3, (0, 0, 0, 0)) := by decide +kernel
theorem sm_a58_126 : sm_at 58 126 = some (.aload_n 1, 1, (0, 0, 0, 0)) := by decide +kernel
theorem sm_a58_127 : sm_at 58 127 = some (.aload_n 0, 1, (0, 0, 0, 0)) := by decide +kernel
theorem sm_a58_128 : sm_at 58 128 = some (.getfield 9, 3, (3, 2, 0, 224)) := by decide +kernel
theorem sm_a58_131 : sm_at 58 131 = some (.aload_n 0, 1, (0, 0, 0, 0)) := by decide +kernel
theorem sm_a58_132 : sm_at 58 132 = some (.getfield 24, 3, (3, 6, 0, 228)) := by decide +kernel
theorem sm_a58_135 : sm_at 58 135 = some (.aload_n 0, 1, (0, 0, 0, 0)) := by decide +kernel
theorem sm_a58_136 : sm_at 58 136 = some (.getfield 28, 3, (3, 5, 0, 227)) := by decide +kernel
theorem sm_a58_139 : sm_at 58 139 = some (.invokevirtual 111, 3, (10, 77, 4, 950)) := by decide +kernel
theorem sm_a58_142 : sm_at 58 142 = some (.aload_n 0, 1, (0, 0, 0, 0)) := by decide +kernel
theorem sm_a58_143 : sm_at 58 143 = some (.iconst 5, 1, (0, 0, 0, 0)) := by decide +kernel
theorem sm_a58_144 : sm_at 58 144 = some (.putfield 49, 3, (3, 0, 0, 221)) := by decide +kernel
theorem sm_a58_147 : sm_at 58 147 = some (.return_, 1, (0, 0, 0, 0)) := by decide +kernel
theorem bb_58_0 {d : Nat} {M : sm_M} {Q : Option sm_V → sm_M → Prop} {a0 : Nat} {r1 : Option Nat} {r2 : Option Nat} {z3 : Option sm_V}
    (h : ∃ b_1, r2 = some b_1 ∧ sm_K M b_1 = 24 ∧ sm_Run d 28 0 (sm_ent 28 [.inl (sm_I M b_1 1)]) [] M (fun v M1 => sm_Run (d + 1) 58 7 [some (.inr (some a0)), some (.inr r1), some (.inr (some b_1)), z3] (v.toList ++ []) M1 Q)) :
    sm_Run (d + 1) 58 0 [some (.inr (some a0)), some (.inr r1), some (.inr r2), z3] [] M Q := by
  refine ru_go (t := (1, [some (.inr (some a0)), some (.inr r1), some (.inr r2), z3], [.inr r2], M)) sm_a58_0 rfl rfl rfl ?_
  obtain ⟨b_1, hb_2, h⟩ := h
  rw [hb_2]
  obtain ⟨h_3, h⟩ := h
  refine ru_go (t := (4, [some (.inr (some a0)), some (.inr r1), some (.inr (some b_1)), z3], [.inl (sm_I M b_1 1)], M)) sm_a58_1 rfl rfl (st_getI h_3 rfl) ?_
  exact ru_call (p := 7) sm_a58_4 rfl (sc_stat (Or.inr rfl) (Nat.le_of_ble_eq_true rfl) rfl rfl (Nat.le_of_ble_eq_true rfl)) rfl h
theorem bb_58_7 {d : Nat} {M : sm_M} {Q : Option sm_V → sm_M → Prop} {a0 : Nat} {r1 : Option Nat} {r2 : Option Nat} {z3 : Option sm_V} {y0 : Int32}
    (h : sm_K M a0 = 12 ∧ ((y0 = (sm_I M a0 1) → ∃ b_3, r2 = some b_3 ∧ sm_K M b_3 = 24 ∧ (((sm_I M b_3 4) ≤ ((sm_I M a0 5) - (sm_I M a0 4)) → sm_Run (d + 1) 58 50 [some (.inr (some a0)), some (.inr r1), some (.inr (some b_3)), some (.inl 0)] [] M Q) ∧ (¬ ((sm_I M b_3 4) ≤ ((sm_I M a0 5) - (sm_I M a0 4))) → ∃ b_7, r1 = some b_7 ∧ sm_K M b_7 = 15 ∧ sm_Run d 65 0 (sm_ent 65 [.inr (some b_7), .inl 14]) [] (sm_putI M a0 0 1) (fun v M1 => sm_Run (d + 1) 58 47 [some (.inr (some a0)), some (.inr (some b_7)), some (.inr (some b_3)), z3] (v.toList ++ []) M1 Q)))) ∧ (¬ (y0 = (sm_I M a0 1)) → ∃ b_10, r1 = some b_10 ∧ sm_K M b_10 = 15 ∧ sm_Run d 65 0 (sm_ent 65 [.inr (some b_10), .inl 2]) [] M (fun v M1 => sm_Run (d + 1) 58 19 [some (.inr (some a0)), some (.inr (some b_10)), some (.inr r2), z3] (v.toList ++ []) M1 Q)))) :
    sm_Run (d + 1) 58 7 [some (.inr (some a0)), some (.inr r1), some (.inr r2), z3] [.inl y0] M Q := by
  refine ru_go (t := (8, [some (.inr (some a0)), some (.inr r1), some (.inr r2), z3], [.inr (some a0), .inl y0], M)) sm_a58_7 rfl rfl rfl ?_
  obtain ⟨h_1, h⟩ := h
  refine ru_go (t := (11, [some (.inr (some a0)), some (.inr r1), some (.inr r2), z3], [.inl (sm_I M a0 1), .inl y0], M)) sm_a58_8 rfl rfl (st_getI h_1 rfl) ?_
  refine ru_icmp (pc := 11) (p := 20) (p2 := 14) sm_a58_11 (by decide) rfl ⟨fun hc_2 => ?_, fun hc_2 => ?_⟩
  · have h := h.1 hc_2
    refine ru_go (t := (21, [some (.inr (some a0)), some (.inr r1), some (.inr r2), z3], [.inr r2], M)) sm_a58_20 rfl rfl rfl ?_
    obtain ⟨b_3, hb_4, h⟩ := h
    rw [hb_4]
    obtain ⟨h_5, h⟩ := h
    refine ru_go (t := (24, [some (.inr (some a0)), some (.inr r1), some (.inr (some b_3)), z3], [.inl (sm_I M b_3 4)], M)) sm_a58_21 rfl rfl (st_getI h_5 rfl) ?_
    refine ru_go (t := (25, [some (.inr (some a0)), some (.inr r1), some (.inr (some b_3)), z3], [.inr (some a0), .inl (sm_I M b_3 4)], M)) sm_a58_24 rfl rfl rfl ?_
    refine ru_go (t := (28, [some (.inr (some a0)), some (.inr r1), some (.inr (some b_3)), z3], [.inl (sm_I M a0 5), .inl (sm_I M b_3 4)], M)) sm_a58_25 rfl rfl (st_getI h_1 rfl) ?_
    refine ru_go (t := (29, [some (.inr (some a0)), some (.inr r1), some (.inr (some b_3)), z3], [.inr (some a0), .inl (sm_I M a0 5), .inl (sm_I M b_3 4)], M)) sm_a58_28 rfl rfl rfl ?_
    refine ru_go (t := (32, [some (.inr (some a0)), some (.inr r1), some (.inr (some b_3)), z3], [.inl (sm_I M a0 4), .inl (sm_I M a0 5), .inl (sm_I M b_3 4)], M)) sm_a58_29 rfl rfl (st_getI h_1 rfl) ?_
    refine ru_go (t := (33, [some (.inr (some a0)), some (.inr r1), some (.inr (some b_3)), z3], [.inl ((sm_I M a0 5) - (sm_I M a0 4)), .inl (sm_I M b_3 4)], M)) sm_a58_32 rfl rfl rfl ?_
    refine ru_icmp (pc := 33) (p := 48) (p2 := 36) sm_a58_33 (by decide) rfl ⟨fun hc_6 => ?_, fun hc_6 => ?_⟩
    · have h := h.1 hc_6
      refine ru_go (t := (49, [some (.inr (some a0)), some (.inr r1), some (.inr (some b_3)), z3], [.inl 0], M)) sm_a58_48 rfl rfl (st_iconst (by decide)) ?_
      refine ru_go (t := (50, [some (.inr (some a0)), some (.inr r1), some (.inr (some b_3)), some (.inl 0)], [], M)) sm_a58_49 rfl rfl rfl ?_
      exact h
    · have h := h.2 hc_6
      refine ru_go (t := (37, [some (.inr (some a0)), some (.inr r1), some (.inr (some b_3)), z3], [.inr (some a0)], M)) sm_a58_36 rfl rfl rfl ?_
      refine ru_go (t := (38, [some (.inr (some a0)), some (.inr r1), some (.inr (some b_3)), z3], [.inl 1, .inr (some a0)], M)) sm_a58_37 rfl rfl (st_iconst (by decide)) ?_
      refine ru_go (t := (41, [some (.inr (some a0)), some (.inr r1), some (.inr (some b_3)), z3], [], sm_putI M a0 0 1)) sm_a58_38 rfl rfl (st_putI h_1 rfl) ?_
      refine ru_go (t := (42, [some (.inr (some a0)), some (.inr r1), some (.inr (some b_3)), z3], [.inr r1], sm_putI M a0 0 1)) sm_a58_41 rfl rfl rfl ?_
      refine ru_go (t := (44, [some (.inr (some a0)), some (.inr r1), some (.inr (some b_3)), z3], [.inl 14, .inr r1], sm_putI M a0 0 1)) sm_a58_42 rfl rfl (st_bipush (by decide)) ?_
      obtain ⟨b_7, hb_8, h⟩ := h
      rw [hb_8]
      obtain ⟨h_9, h⟩ := h
      exact ru_call (p := 47) sm_a58_44 rfl (sc_virt (Or.inl rfl) rfl rfl h_9 (Nat.le_of_ble_eq_true rfl)) rfl h
  · have h := h.2 hc_2
    refine ru_go (t := (15, [some (.inr (some a0)), some (.inr r1), some (.inr r2), z3], [.inr r1], M)) sm_a58_14 rfl rfl rfl ?_
    refine ru_go (t := (16, [some (.inr (some a0)), some (.inr r1), some (.inr r2), z3], [.inl 2, .inr r1], M)) sm_a58_15 rfl rfl (st_iconst (by decide)) ?_
    obtain ⟨b_10, hb_11, h⟩ := h
    rw [hb_11]
    obtain ⟨h_12, h⟩ := h
    exact ru_call (p := 19) sm_a58_16 rfl (sc_virt (Or.inl rfl) rfl rfl h_12 (Nat.le_of_ble_eq_true rfl)) rfl h
theorem bb_58_19 {d : Nat} {M : sm_M} {Q : Option sm_V → sm_M → Prop} {a0 : Nat} {r1 : Option Nat} {r2 : Option Nat} {z3 : Option sm_V}
    (h : Q none M) :
    sm_Run (d + 1) 58 19 [some (.inr (some a0)), some (.inr r1), some (.inr r2), z3] [] M Q := by
  exact ru_ret sm_a58_19 (sm_rvv rfl) h
theorem bb_58_47 {d : Nat} {M : sm_M} {Q : Option sm_V → sm_M → Prop} {a0 : Nat} {r1 : Option Nat} {r2 : Option Nat} {z3 : Option sm_V}
    (h : Q none M) :
    sm_Run (d + 1) 58 47 [some (.inr (some a0)), some (.inr r1), some (.inr r2), z3] [] M Q := by
  exact ru_ret sm_a58_47 (sm_rvv rfl) h
theorem bb_58_50 {d : Nat} {M : sm_M} {Q : Option sm_V → sm_M → Prop} {a0 : Nat} {r1 : Option Nat} {r2 : Option Nat} {x3 : Int32}
    (h : ∃ b_1, r2 = some b_1 ∧ sm_K M b_1 = 24 ∧ (((sm_I M b_1 4) ≤ x3 → sm_Run (d + 1) 58 100 [some (.inr (some a0)), some (.inr r1), some (.inr (some b_1)), some (.inl x3)] [] M Q) ∧ (¬ ((sm_I M b_1 4) ≤ x3) → sm_K M a0 = 12 ∧ ∃ b_6, sm_R M a0 2 = some b_6 ∧ (1 ≤ sm_K M b_6 ∧ sm_K M b_6 % 3 ≠ 0) ∧ (((Int32.ofNat (sm_L M b_6)) ≤ (sm_I M a0 4) → sm_Run (d + 1) 58 100 [some (.inr (some a0)), some (.inr r1), some (.inr (some b_1)), some (.inl x3)] [] M Q) ∧ (¬ ((Int32.ofNat (sm_L M b_6)) ≤ (sm_I M a0 4)) → sm_Run d 107 0 (sm_ent 107 [.inr (some b_1), .inl x3]) [] M (fun v M1 => sm_Run (d + 1) 58 83 [some (.inr (some a0)), some (.inr r1), some (.inr (some b_1)), some (.inl x3)] (v.toList ++ [.inl (sm_I M a0 4), .inr (sm_R M a0 2)]) M1 Q)))))) :
    sm_Run (d + 1) 58 50 [some (.inr (some a0)), some (.inr r1), some (.inr r2), some (.inl x3)] [] M Q := by
  refine ru_go (t := (51, [some (.inr (some a0)), some (.inr r1), some (.inr r2), some (.inl x3)], [.inl x3], M)) sm_a58_50 rfl rfl rfl ?_
  refine ru_go (t := (52, [some (.inr (some a0)), some (.inr r1), some (.inr r2), some (.inl x3)], [.inr r2, .inl x3], M)) sm_a58_51 rfl rfl rfl ?_
  obtain ⟨b_1, hb_2, h⟩ := h
  rw [hb_2]
  obtain ⟨h_3, h⟩ := h
  refine ru_go (t := (55, [some (.inr (some a0)), some (.inr r1), some (.inr (some b_1)), some (.inl x3)], [.inl (sm_I M b_1 4), .inl x3], M)) sm_a58_52 rfl rfl (st_getI h_3 rfl) ?_
  refine ru_icmp (pc := 55) (p := 100) (p2 := 58) sm_a58_55 (by decide) rfl ⟨fun hc_4 => ?_, fun hc_4 => ?_⟩
  · have h := h.1 hc_4
    exact h
  · have h := h.2 hc_4
    refine ru_go (t := (59, [some (.inr (some a0)), some (.inr r1), some (.inr (some b_1)), some (.inl x3)], [.inr (some a0)], M)) sm_a58_58 rfl rfl rfl ?_
    obtain ⟨h_5, h⟩ := h
    refine ru_go (t := (62, [some (.inr (some a0)), some (.inr r1), some (.inr (some b_1)), some (.inl x3)], [.inl (sm_I M a0 4)], M)) sm_a58_59 rfl rfl (st_getI h_5 rfl) ?_
    refine ru_go (t := (63, [some (.inr (some a0)), some (.inr r1), some (.inr (some b_1)), some (.inl x3)], [.inr (some a0), .inl (sm_I M a0 4)], M)) sm_a58_62 rfl rfl rfl ?_
    refine ru_go (t := (66, [some (.inr (some a0)), some (.inr r1), some (.inr (some b_1)), some (.inl x3)], [.inr (sm_R M a0 2), .inl (sm_I M a0 4)], M)) sm_a58_63 rfl rfl (st_getR h_5 rfl rfl) ?_
    obtain ⟨b_6, hb_7, h⟩ := h
    rw [hb_7]
    obtain ⟨h_8, h⟩ := h
    refine ru_go (t := (67, [some (.inr (some a0)), some (.inr r1), some (.inr (some b_1)), some (.inl x3)], [.inl (Int32.ofNat (sm_L M b_6)), .inl (sm_I M a0 4)], M)) sm_a58_66 rfl rfl (st_alen h_8) ?_
    refine ru_icmp (pc := 67) (p := 100) (p2 := 70) sm_a58_67 (by decide) rfl ⟨fun hc_9 => ?_, fun hc_9 => ?_⟩
    · have h := h.1 hc_9
      exact h
    · have h := h.2 hc_9
      refine ru_go (t := (71, [some (.inr (some a0)), some (.inr r1), some (.inr (some b_1)), some (.inl x3)], [.inr (some a0)], M)) sm_a58_70 rfl rfl rfl ?_
      refine ru_go (t := (74, [some (.inr (some a0)), some (.inr r1), some (.inr (some b_1)), some (.inl x3)], [.inr (sm_R M a0 2)], M)) sm_a58_71 rfl rfl (st_getR h_5 rfl rfl) ?_
      refine ru_go (t := (75, [some (.inr (some a0)), some (.inr r1), some (.inr (some b_1)), some (.inl x3)], [.inr (some a0), .inr (sm_R M a0 2)], M)) sm_a58_74 rfl rfl rfl ?_
      refine ru_go (t := (78, [some (.inr (some a0)), some (.inr r1), some (.inr (some b_1)), some (.inl x3)], [.inl (sm_I M a0 4), .inr (sm_R M a0 2)], M)) sm_a58_75 rfl rfl (st_getI h_5 rfl) ?_
      refine ru_go (t := (79, [some (.inr (some a0)), some (.inr r1), some (.inr (some b_1)), some (.inl x3)], [.inr (some b_1), .inl (sm_I M a0 4), .inr (sm_R M a0 2)], M)) sm_a58_78 rfl rfl rfl ?_
      refine ru_go (t := (80, [some (.inr (some a0)), some (.inr r1), some (.inr (some b_1)), some (.inl x3)], [.inl x3, .inr (some b_1), .inl (sm_I M a0 4), .inr (sm_R M a0 2)], M)) sm_a58_79 rfl rfl rfl ?_
      exact ru_call (p := 83) sm_a58_80 rfl (sc_virt (Or.inl rfl) rfl rfl h_3 (Nat.le_of_ble_eq_true rfl)) rfl h
theorem bb_58_83 {d : Nat} {M : sm_M} {Q : Option sm_V → sm_M → Prop} {a0 : Nat} {r1 : Option Nat} {r2 : Option Nat} {x3 : Int32} {y0 : Int32} {y1 : Int32} {t2 : Option Nat}
    (h : ∃ b_1, t2 = some b_1 ∧ sm_wA 0 M b_1 ∧ sm_in_ M b_1 y1 ∧ sm_K M a0 = 12 ∧ sm_Run (d + 1) 58 50 [some (.inr (some a0)), some (.inr r1), some (.inr r2), some (.inl (x3 + 1))] [] (sm_putI (sm_putI M b_1 (y1).toNatClampNeg y0) a0 4 ((sm_I (sm_putI M b_1 (y1).toNatClampNeg y0) a0 4) + 1)) Q) :
    sm_Run (d + 1) 58 83 [some (.inr (some a0)), some (.inr r1), some (.inr r2), some (.inl x3)] [.inl y0, .inl y1, .inr t2] M Q := by
  obtain ⟨b_1, hb_2, h⟩ := h
  rw [hb_2]
  obtain ⟨h_3, h⟩ := h
  obtain ⟨h_4, h⟩ := h
  refine ru_go (t := (84, [some (.inr (some a0)), some (.inr r1), some (.inr r2), some (.inl x3)], [], sm_putI M b_1 (y1).toNatClampNeg y0)) sm_a58_83 rfl rfl (st_iast h_3 h_4) ?_
  refine ru_go (t := (85, [some (.inr (some a0)), some (.inr r1), some (.inr r2), some (.inl x3)], [.inr (some a0)], sm_putI M b_1 (y1).toNatClampNeg y0)) sm_a58_84 rfl rfl rfl ?_
  refine ru_go (t := (86, [some (.inr (some a0)), some (.inr r1), some (.inr r2), some (.inl x3)], [.inr (some a0), .inr (some a0)], sm_putI M b_1 (y1).toNatClampNeg y0)) sm_a58_85 rfl rfl rfl ?_
  obtain ⟨h_5, h⟩ := h
  refine ru_go (t := (89, [some (.inr (some a0)), some (.inr r1), some (.inr r2), some (.inl x3)], [.inl (sm_I (sm_putI M b_1 (y1).toNatClampNeg y0) a0 4), .inr (some a0)], sm_putI M b_1 (y1).toNatClampNeg y0)) sm_a58_86 rfl rfl (st_getI h_5 rfl) ?_
  refine ru_go (t := (90, [some (.inr (some a0)), some (.inr r1), some (.inr r2), some (.inl x3)], [.inl 1, .inl (sm_I (sm_putI M b_1 (y1).toNatClampNeg y0) a0 4), .inr (some a0)], sm_putI M b_1 (y1).toNatClampNeg y0)) sm_a58_89 rfl rfl (st_iconst (by decide)) ?_
  refine ru_go (t := (91, [some (.inr (some a0)), some (.inr r1), some (.inr r2), some (.inl x3)], [.inl ((sm_I (sm_putI M b_1 (y1).toNatClampNeg y0) a0 4) + 1), .inr (some a0)], sm_putI M b_1 (y1).toNatClampNeg y0)) sm_a58_90 rfl rfl rfl ?_
  refine ru_go (t := (94, [some (.inr (some a0)), some (.inr r1), some (.inr r2), some (.inl x3)], [], sm_putI (sm_putI M b_1 (y1).toNatClampNeg y0) a0 4 ((sm_I (sm_putI M b_1 (y1).toNatClampNeg y0) a0 4) + 1))) sm_a58_91 rfl rfl (st_putI h_5 rfl) ?_
  refine ru_go (t := (97, [some (.inr (some a0)), some (.inr r1), some (.inr r2), some (.inl (x3 + 1))], [], sm_putI (sm_putI M b_1 (y1).toNatClampNeg y0) a0 4 ((sm_I (sm_putI M b_1 (y1).toNatClampNeg y0) a0 4) + 1))) sm_a58_94 rfl rfl (st_iinc rfl (by decide)) ?_
  refine ru_go (t := (50, [some (.inr (some a0)), some (.inr r1), some (.inr r2), some (.inl (x3 + 1))], [], sm_putI (sm_putI M b_1 (y1).toNatClampNeg y0) a0 4 ((sm_I (sm_putI M b_1 (y1).toNatClampNeg y0) a0 4) + 1))) sm_a58_97 rfl rfl (st_goto (pc := 97) (by decide)) ?_
  exact h
theorem bb_58_100 {d : Nat} {M : sm_M} {Q : Option sm_V → sm_M → Prop} {a0 : Nat} {r1 : Option Nat} {r2 : Option Nat} {x3 : Int32}
    (h : sm_K M a0 = 12 ∧ ∃ b_2, r1 = some b_2 ∧ sm_K M b_2 = 15 ∧ sm_Run d 65 0 (sm_ent 65 [.inr (some b_2), .inl 2]) [] (sm_putI M a0 1 (1 - (sm_I M a0 1))) (fun v M1 => sm_Run (d + 1) 58 115 [some (.inr (some a0)), some (.inr (some b_2)), some (.inr r2), some (.inl x3)] (v.toList ++ []) M1 Q)) :
    sm_Run (d + 1) 58 100 [some (.inr (some a0)), some (.inr r1), some (.inr r2), some (.inl x3)] [] M Q := by
  refine ru_go (t := (101, [some (.inr (some a0)), some (.inr r1), some (.inr r2), some (.inl x3)], [.inr (some a0)], M)) sm_a58_100 rfl rfl rfl ?_
  refine ru_go (t := (102, [some (.inr (some a0)), some (.inr r1), some (.inr r2), some (.inl x3)], [.inl 1, .inr (some a0)], M)) sm_a58_101 rfl rfl (st_iconst (by decide)) ?_
  refine ru_go (t := (103, [some (.inr (some a0)), some (.inr r1), some (.inr r2), some (.inl x3)], [.inr (some a0), .inl 1, .inr (some a0)], M)) sm_a58_102 rfl rfl rfl ?_
  obtain ⟨h_1, h⟩ := h
  refine ru_go (t := (106, [some (.inr (some a0)), some (.inr r1), some (.inr r2), some (.inl x3)], [.inl (sm_I M a0 1), .inl 1, .inr (some a0)], M)) sm_a58_103 rfl rfl (st_getI h_1 rfl) ?_
  refine ru_go (t := (107, [some (.inr (some a0)), some (.inr r1), some (.inr r2), some (.inl x3)], [.inl (1 - (sm_I M a0 1)), .inr (some a0)], M)) sm_a58_106 rfl rfl rfl ?_
  refine ru_go (t := (110, [some (.inr (some a0)), some (.inr r1), some (.inr r2), some (.inl x3)], [], sm_putI M a0 1 (1 - (sm_I M a0 1)))) sm_a58_107 rfl rfl (st_putI h_1 rfl) ?_
  refine ru_go (t := (111, [some (.inr (some a0)), some (.inr r1), some (.inr r2), some (.inl x3)], [.inr r1], sm_putI M a0 1 (1 - (sm_I M a0 1)))) sm_a58_110 rfl rfl rfl ?_
  refine ru_go (t := (112, [some (.inr (some a0)), some (.inr r1), some (.inr r2), some (.inl x3)], [.inl 2, .inr r1], sm_putI M a0 1 (1 - (sm_I M a0 1)))) sm_a58_111 rfl rfl (st_iconst (by decide)) ?_
  obtain ⟨b_2, hb_3, h⟩ := h
  rw [hb_3]
  obtain ⟨h_4, h⟩ := h
  exact ru_call (p := 115) sm_a58_112 rfl (sc_virt (Or.inl rfl) rfl rfl h_4 (Nat.le_of_ble_eq_true rfl)) rfl h
theorem bb_58_115 {d : Nat} {M : sm_M} {Q : Option sm_V → sm_M → Prop} {a0 : Nat} {r1 : Option Nat} {r2 : Option Nat} {x3 : Int32}
    (h : sm_K M a0 = 12 ∧ ((¬ (sm_I M a0 4) = (sm_I M a0 5) → Q none M) ∧ (¬ (¬ (sm_I M a0 4) = (sm_I M a0 5)) → ∃ b_3, r1 = some b_3 ∧ sm_K M b_3 = 15 ∧ sm_Run d 77 0 (sm_ent 77 [.inr (some b_3), .inr (sm_R M a0 2), .inl (sm_I M a0 6), .inl (sm_I M a0 5)]) [] M (fun v M1 => sm_Run (d + 1) 58 142 [some (.inr (some a0)), some (.inr (some b_3)), some (.inr r2), some (.inl x3)] (v.toList ++ []) M1 Q)))) :
    sm_Run (d + 1) 58 115 [some (.inr (some a0)), some (.inr r1), some (.inr r2), some (.inl x3)] [] M Q := by
  refine ru_go (t := (116, [some (.inr (some a0)), some (.inr r1), some (.inr r2), some (.inl x3)], [.inr (some a0)], M)) sm_a58_115 rfl rfl rfl ?_
  obtain ⟨h_1, h⟩ := h
  refine ru_go (t := (119, [some (.inr (some a0)), some (.inr r1), some (.inr r2), some (.inl x3)], [.inl (sm_I M a0 4)], M)) sm_a58_116 rfl rfl (st_getI h_1 rfl) ?_
  refine ru_go (t := (120, [some (.inr (some a0)), some (.inr r1), some (.inr r2), some (.inl x3)], [.inr (some a0), .inl (sm_I M a0 4)], M)) sm_a58_119 rfl rfl rfl ?_
  refine ru_go (t := (123, [some (.inr (some a0)), some (.inr r1), some (.inr r2), some (.inl x3)], [.inl (sm_I M a0 5), .inl (sm_I M a0 4)], M)) sm_a58_120 rfl rfl (st_getI h_1 rfl) ?_
  refine ru_icmp (pc := 123) (p := 147) (p2 := 126) sm_a58_123 (by decide) rfl ⟨fun hc_2 => ?_, fun hc_2 => ?_⟩
  · have h := h.1 hc_2
    exact ru_ret sm_a58_147 (sm_rvv rfl) h
  · have h := h.2 hc_2
    refine ru_go (t := (127, [some (.inr (some a0)), some (.inr r1), some (.inr r2), some (.inl x3)], [.inr r1], M)) sm_a58_126 rfl rfl rfl ?_
    refine ru_go (t := (128, [some (.inr (some a0)), some (.inr r1), some (.inr r2), some (.inl x3)], [.inr (some a0), .inr r1], M)) sm_a58_127 rfl rfl rfl ?_
    refine ru_go (t := (131, [some (.inr (some a0)), some (.inr r1), some (.inr r2), some (.inl x3)], [.inr (sm_R M a0 2), .inr r1], M)) sm_a58_128 rfl rfl (st_getR h_1 rfl rfl) ?_
    refine ru_go (t := (132, [some (.inr (some a0)), some (.inr r1), some (.inr r2), some (.inl x3)], [.inr (some a0), .inr (sm_R M a0 2), .inr r1], M)) sm_a58_131 rfl rfl rfl ?_
    refine ru_go (t := (135, [some (.inr (some a0)), some (.inr r1), some (.inr r2), some (.inl x3)], [.inl (sm_I M a0 6), .inr (sm_R M a0 2), .inr r1], M)) sm_a58_132 rfl rfl (st_getI h_1 rfl) ?_
    refine ru_go (t := (136, [some (.inr (some a0)), some (.inr r1), some (.inr r2), some (.inl x3)], [.inr (some a0), .inl (sm_I M a0 6), .inr (sm_R M a0 2), .inr r1], M)) sm_a58_135 rfl rfl rfl ?_
    refine ru_go (t := (139, [some (.inr (some a0)), some (.inr r1), some (.inr r2), some (.inl x3)], [.inl (sm_I M a0 5), .inl (sm_I M a0 6), .inr (sm_R M a0 2), .inr r1], M)) sm_a58_136 rfl rfl (st_getI h_1 rfl) ?_
    obtain ⟨b_3, hb_4, h⟩ := h
    rw [hb_4]
    obtain ⟨h_5, h⟩ := h
    exact ru_call (p := 142) sm_a58_139 rfl (sc_virt (Or.inl rfl) rfl rfl h_5 (Nat.le_of_ble_eq_true rfl)) rfl h
theorem bb_58_142 {d : Nat} {M : sm_M} {Q : Option sm_V → sm_M → Prop} {a0 : Nat} {r1 : Option Nat} {r2 : Option Nat} {x3 : Int32}
    (h : sm_K M a0 = 12 ∧ Q none (sm_putI M a0 0 5)) :
    sm_Run (d + 1) 58 142 [some (.inr (some a0)), some (.inr r1), some (.inr r2), some (.inl x3)] [] M Q := by
  refine ru_go (t := (143, [some (.inr (some a0)), some (.inr r1), some (.inr r2), some (.inl x3)], [.inr (some a0)], M)) sm_a58_142 rfl rfl rfl ?_
  refine ru_go (t := (144, [some (.inr (some a0)), some (.inr r1), some (.inr r2), some (.inl x3)], [.inl 5, .inr (some a0)], M)) sm_a58_143 rfl rfl (st_iconst (by decide)) ?_
  obtain ⟨h_1, h⟩ := h
  refine ru_go (t := (147, [some (.inr (some a0)), some (.inr r1), some (.inr r2), some (.inl x3)], [], sm_putI M a0 0 5)) sm_a58_144 rfl rfl (st_putI h_1 rfl) ?_
  exact ru_ret sm_a58_147 (sm_rvv rfl) h
