/-! WireBus$Coder.<init>:()V -/
theorem sm_a37_0 : sm_at 37 0 = some (.aload_n 0, 1, (0, 0, 0, 0)) := by decide +kernel
theorem sm_a37_1 : sm_at 37 1 = some (.invokespecial 3, 3, (1, 0, 0, 190)) := by decide +kernel
theorem sm_a37_4 : sm_at 37 4 = some (.aload_n 0, 1, (0, 0, 0, 0)) := by decide +kernel
theorem sm_a37_5 : sm_at 37 5 = some (.sipush 560, 3, (0, 0, 0, 0)) := by decide +kernel
theorem sm_a37_8 : sm_at 37 8 = some (.newarray .int, 2, (2, 0, 0, 0)) := by decide +kernel
theorem sm_a37_10 : sm_at 37 10 = some (.putfield 9, 3, (2, 0, 0, 191)) := by decide +kernel
theorem sm_a37_13 : sm_at 37 13 = some (.aload_n 0, 1, (0, 0, 0, 0)) := by decide +kernel
theorem sm_a37_14 : sm_at 37 14 = some (.sipush 660, 3, (0, 0, 0, 0)) := by decide +kernel
theorem sm_a37_17 : sm_at 37 17 = some (.newarray .int, 2, (3, 0, 0, 0)) := by decide +kernel
theorem sm_a37_19 : sm_at 37 19 = some (.putfield 15, 3, (2, 2, 0, 193)) := by decide +kernel
theorem sm_a37_22 : sm_at 37 22 = some (.return_, 1, (0, 0, 0, 0)) := by decide +kernel
theorem bb_37_0 {d : Nat} {M : sm_M} {Q : Option sm_V → sm_M → Prop} {a0 : Nat}
    (h : sm_K (sm_new M 8 (560 : Int32).toNatClampNeg (560 : Int32).toNatClampNeg) a0 = 9 ∧ sm_K (sm_new (sm_putR (sm_new M 8 (560 : Int32).toNatClampNeg (560 : Int32).toNatClampNeg) a0 0 (some (sm_N M))) 11 (660 : Int32).toNatClampNeg (660 : Int32).toNatClampNeg) a0 = 9 ∧ Q none (sm_putR (sm_new (sm_putR (sm_new M 8 (560 : Int32).toNatClampNeg (560 : Int32).toNatClampNeg) a0 0 (some (sm_N M))) 11 (660 : Int32).toNatClampNeg (660 : Int32).toNatClampNeg) a0 2 (some (sm_N (sm_putR (sm_new M 8 (560 : Int32).toNatClampNeg (560 : Int32).toNatClampNeg) a0 0 (some (sm_N M))))))) :
    sm_Run (d + 1) 37 0 [some (.inr (some a0))] [] M Q := by
  refine ru_go (t := (1, [some (.inr (some a0))], [.inr (some a0)], M)) sm_a37_0 rfl rfl rfl ?_
  refine ru_go (t := (4, [some (.inr (some a0))], [], M)) sm_a37_1 rfl rfl (st_oi (Nat.le_of_ble_eq_true rfl)) ?_
  refine ru_go (t := (5, [some (.inr (some a0))], [.inr (some a0)], M)) sm_a37_4 rfl rfl rfl ?_
  refine ru_go (t := (8, [some (.inr (some a0))], [.inl 560, .inr (some a0)], M)) sm_a37_5 rfl rfl (st_sipush (by decide)) ?_
  refine ru_go (t := (10, [some (.inr (some a0))], [.inr (some (sm_N M)), .inr (some a0)], sm_new M 8 (560 : Int32).toNatClampNeg (560 : Int32).toNatClampNeg)) sm_a37_8 rfl rfl (st_newa (by decide)) ?_
  obtain ⟨h_1, h⟩ := h
  refine ru_go (t := (13, [some (.inr (some a0))], [], sm_putR (sm_new M 8 (560 : Int32).toNatClampNeg (560 : Int32).toNatClampNeg) a0 0 (some (sm_N M)))) sm_a37_10 rfl rfl (st_putR h_1 rfl) ?_
  refine ru_go (t := (14, [some (.inr (some a0))], [.inr (some a0)], sm_putR (sm_new M 8 (560 : Int32).toNatClampNeg (560 : Int32).toNatClampNeg) a0 0 (some (sm_N M)))) sm_a37_13 rfl rfl rfl ?_
  refine ru_go (t := (17, [some (.inr (some a0))], [.inl 660, .inr (some a0)], sm_putR (sm_new M 8 (560 : Int32).toNatClampNeg (560 : Int32).toNatClampNeg) a0 0 (some (sm_N M)))) sm_a37_14 rfl rfl (st_sipush (by decide)) ?_
  refine ru_go (t := (19, [some (.inr (some a0))], [.inr (some (sm_N (sm_putR (sm_new M 8 (560 : Int32).toNatClampNeg (560 : Int32).toNatClampNeg) a0 0 (some (sm_N M))))), .inr (some a0)], sm_new (sm_putR (sm_new M 8 (560 : Int32).toNatClampNeg (560 : Int32).toNatClampNeg) a0 0 (some (sm_N M))) 11 (660 : Int32).toNatClampNeg (660 : Int32).toNatClampNeg)) sm_a37_17 rfl rfl (st_newa (by decide)) ?_
  obtain ⟨h_2, h⟩ := h
  refine ru_go (t := (22, [some (.inr (some a0))], [], sm_putR (sm_new (sm_putR (sm_new M 8 (560 : Int32).toNatClampNeg (560 : Int32).toNatClampNeg) a0 0 (some (sm_N M))) 11 (660 : Int32).toNatClampNeg (660 : Int32).toNatClampNeg) a0 2 (some (sm_N (sm_putR (sm_new M 8 (560 : Int32).toNatClampNeg (560 : Int32).toNatClampNeg) a0 0 (some (sm_N M))))))) sm_a37_19 rfl rfl (st_putR h_2 rfl) ?_
  exact ru_ret sm_a37_22 (sm_rvv rfl) h

/-! WireBus$Coder.encode:(LWireBus$Packet;)V -/
theorem sm_a38_0 : sm_at 38 0 = some (.aload_n 0, 1, (0, 0, 0, 0)) := by decide +kernel
theorem sm_a38_1 : sm_at 38 1 = some (.iconst 0, 1, (0, 0, 0, 0)) := by decide +kernel
theorem sm_a38_2 : sm_at 38 2 = some (.putfield 18, 3, (2, 1, 0, 192)) := by decide +kernel
theorem sm_a38_5 : sm_at 38 5 = some (.aload_n 0, 1, (0, 0, 0, 0)) := by decide +kernel
theorem sm_a38_6 : sm_at 38 6 = some (.iconst 0, 1, (0, 0, 0, 0)) := by decide +kernel
theorem sm_a38_7 : sm_at 38 7 = some (.putfield 22, 3, (2, 3, 0, 195)) := by decide +kernel
theorem sm_a38_10 : sm_at 38 10 = some (.aload_n 0, 1, (0, 0, 0, 0)) := by decide +kernel
theorem sm_a38_11 : sm_at 38 11 = some (.sipush 128, 3, (0, 0, 0, 0)) := by decide +kernel
theorem sm_a38_14 : sm_at 38 14 = some (.bipush 8, 2, (0, 0, 0, 0)) := by decide +kernel
theorem sm_a38_16 : sm_at 38 16 = some (.invokevirtual 25, 3, (10, 40, 2, 780)) := by decide +kernel
theorem sm_a38_19 : sm_at 38 19 = some (.aload_n 0, 1, (0, 0, 0, 0)) := by decide +kernel
theorem sm_a38_20 : sm_at 38 20 = some (.aload_n 1, 1, (0, 0, 0, 0)) := by decide +kernel
theorem sm_a38_21 : sm_at 38 21 = some (.getfield 29, 3, (7, 1, 1, 144)) := by decide +kernel
theorem sm_a38_24 : sm_at 38 24 = some (.bipush 16, 2, (0, 0, 0, 0)) := by decide +kernel
theorem sm_a38_26 : sm_at 38 26 = some (.bipush 15, 2, (0, 0, 0, 0)) := by decide +kernel
theorem sm_a38_28 : sm_at 38 28 = some (.aload_n 1, 1, (0, 0, 0, 0)) := by decide +kernel
theorem sm_a38_29 : sm_at 38 29 = some (.getfield 29, 3, (7, 1, 1, 144)) := by decide +kernel
theorem sm_a38_32 : sm_at 38 32 = some (.isub, 1, (0, 0, 0, 0)) := by decide +kernel
theorem sm_a38_33 : sm_at 38 33 = some (.imul, 1, (0, 0, 0, 0)) := by decide +kernel
theorem sm_a38_34 : sm_at 38 34 = some (.iadd, 1, (0, 0, 0, 0)) := by decide +kernel
theorem sm_a38_35 : sm_at 38 35 = some (.bipush 8, 2, (0, 0, 0, 0)) := by decide +kernel
theorem sm_a38_37 : sm_at 38 37 = some (.invokevirtual 25, 3, (10, 40, 2, 780)) := by decide +kernel
theorem sm_a38_40 : sm_at 38 40 = some (.aload_n 1, 1, (0, 0, 0, 0)) := by decide +kernel
theorem sm_a38_41 : sm_at 38 41 = some (.getfield 29, 3, (7, 1, 1, 144)) := by decide +kernel
theorem sm_a38_44 : sm_at 38 44 = some (.invokestatic 34, 3, (13, 24, 0, 788)) := by decide +kernel
theorem sm_a38_47 : sm_at 38 47 = some (.ifCond .eq 39, 3, (0, 0, 0, 0)) := by decide +kernel
theorem sm_a38_50 : sm_at 38 50 = some (.iconst 0, 1, (0, 0, 0, 0)) := by decide +kernel
theorem sm_a38_51 : sm_at 38 51 = some (.istore_n 2, 1, (0, 0, 0, 0)) := by decide +kernel
theorem sm_a38_52 : sm_at 38 52 = some (.iload_n 2, 1, (0, 0, 0, 0)) := by decide +kernel
theorem sm_a38_53 : sm_at 38 53 = some (.aload_n 1, 1, (0, 0, 0, 0)) := by decide +kernel
theorem sm_a38_54 : sm_at 38 54 = some (.getfield 38, 3, (7, 4, 1, 158)) := by decide +kernel
theorem sm_a38_57 : sm_at 38 57 = some (.if_icmp .ge 20, 3, (0, 0, 0, 0)) := by decide +kernel
theorem sm_a38_60 : sm_at 38 60 = some (.aload_n 0, 1, (0, 0, 0, 0)) := by decide +kernel
theorem sm_a38_61 : sm_at 38 61 = some (.aload_n 1, 1, (0, 0, 0, 0)) := by decide +kernel
theorem sm_a38_62 : sm_at 38 62 = some (.iload_n 2, 1, (0, 0, 0, 0)) := by decide +kernel
theorem sm_a38_63 : sm_at 38 63 = some (.invokevirtual 39, 3, (10, 107, 7, 791)) := by decide +kernel
theorem sm_a38_66 : sm_at 38 66 = some (.bipush 8, 2, (0, 0, 0, 0)) := by decide +kernel
theorem sm_a38_68 : sm_at 38 68 = some (.invokevirtual 25, 3, (10, 40, 2, 780)) := by decide +kernel
theorem sm_a38_71 : sm_at 38 71 = some (.iinc 2 1, 3, (0, 0, 0, 0)) := by decide +kernel
theorem sm_a38_74 : sm_at 38 74 = some (.goto (-22), 3, (0, 0, 0, 0)) := by decide +kernel
theorem sm_a38_77 : sm_at 38 77 = some (.aload_n 0, 1, (0, 0, 0, 0)) := by decide +kernel
theorem sm_a38_78 : sm_at 38 78 = some (.bipush 16, 2, (0, 0, 0, 0)) := by decide +kernel
theorem sm_a38_80 : sm_at 38 80 = some (.invokevirtual 43, 3, (10, 41, 2, 795)) := by decide +kernel
theorem sm_a38_83 : sm_at 38 83 = some (.goto 28, 3, (0, 0, 0, 0)) := by decide +kernel
theorem sm_a38_86 : sm_at 38 86 = some (.aload_n 1, 1, (0, 0, 0, 0)) := by decide +kernel
theorem sm_a38_87 : sm_at 38 87 = some (.getfield 29, 3, (7, 1, 1, 144)) := by decide +kernel
theorem sm_a38_90 : sm_at 38 90 = some (.invokestatic 47, 3, (13, 26, 0, 804)) := by decide +kernel
theorem sm_a38_93 : sm_at 38 93 = some (.ifCond .ne 18, 3, (0, 0, 0, 0)) := by decide +kernel
theorem sm_a38_96 : sm_at 38 96 = some (.aload_n 0, 1, (0, 0, 0, 0)) := by decide +kernel
theorem sm_a38_97 : sm_at 38 97 = some (.aload_n 1, 1, (0, 0, 0, 0)) := by decide +kernel
theorem sm_a38_98 : sm_at 38 98 = some (.getfield 50, 3, (7, 2, 1, 153)) := by decide +kernel
theorem sm_a38_101 : sm_at 38 101 = some (.bipush 11, 2, (0, 0, 0, 0)) := by decide +kernel
theorem sm_a38_103 : sm_at 38 103 = some (.invokevirtual 25, 3, (10, 40, 2, 780)) := by decide +kernel
theorem sm_a38_106 : sm_at 38 106 = some (.aload_n 0, 1, (0, 0, 0, 0)) := by decide +kernel
theorem sm_a38_107 : sm_at 38 107 = some (.iconst 5, 1, (0, 0, 0, 0)) := by decide +kernel
theorem sm_a38_108 : sm_at 38 108 = some (.invokevirtual 43, 3, (10, 41, 2, 795)) := by decide +kernel
theorem sm_a38_111 : sm_at 38 111 = some (.aload_n 0, 1, (0, 0, 0, 0)) := by decide +kernel
theorem sm_a38_112 : sm_at 38 112 = some (.invokevirtual 53, 3, (10, 44, 2, 807)) := by decide +kernel
theorem sm_a38_115 : sm_at 38 115 = some (.return_, 1, (0, 0, 0, 0)) := by decide +kernel
theorem bb_38_0 {d : Nat} {M : sm_M} {Q : Option sm_V → sm_M → Prop} {a0 : Nat} {r1 : Option Nat} {z2 : Option sm_V}
    (h : sm_K M a0 = 9 ∧ sm_Run d 40 0 (sm_ent 40 [.inr (some a0), .inl 128, .inl 8]) [] (sm_putI (sm_putI M a0 1 0) a0 3 0) (fun v M1 => sm_Run (d + 1) 38 19 [some (.inr (some a0)), some (.inr r1), z2] (v.toList ++ []) M1 Q)) :
    sm_Run (d + 1) 38 0 [some (.inr (some a0)), some (.inr r1), z2] [] M Q := by
  refine ru_go (t := (1, [some (.inr (some a0)), some (.inr r1), z2], [.inr (some a0)], M)) sm_a38_0 rfl rfl rfl ?_
  refine ru_go (t := (2, [some (.inr (some a0)), some (.inr r1), z2], [.inl 0, .inr (some a0)], M)) sm_a38_1 rfl rfl (st_iconst (by decide)) ?_
  obtain ⟨h_1, h⟩ := h
  refine ru_go (t := (5, [some (.inr (some a0)), some (.inr r1), z2], [], sm_putI M a0 1 0)) sm_a38_2 rfl rfl (st_putI h_1 rfl) ?_
  refine ru_go (t := (6, [some (.inr (some a0)), some (.inr r1), z2], [.inr (some a0)], sm_putI M a0 1 0)) sm_a38_5 rfl rfl rfl ?_
  refine ru_go (t := (7, [some (.inr (some a0)), some (.inr r1), z2], [.inl 0, .inr (some a0)], sm_putI M a0 1 0)) sm_a38_6 rfl rfl (st_iconst (by decide)) ?_
  refine ru_go (t := (10, [some (.inr (some a0)), some (.inr r1), z2], [], sm_putI (sm_putI M a0 1 0) a0 3 0)) sm_a38_7 rfl rfl (st_putI h_1 rfl) ?_
  refine ru_go (t := (11, [some (.inr (some a0)), some (.inr r1), z2], [.inr (some a0)], sm_putI (sm_putI M a0 1 0) a0 3 0)) sm_a38_10 rfl rfl rfl ?_
  refine ru_go (t := (14, [some (.inr (some a0)), some (.inr r1), z2], [.inl 128, .inr (some a0)], sm_putI (sm_putI M a0 1 0) a0 3 0)) sm_a38_11 rfl rfl (st_sipush (by decide)) ?_
  refine ru_go (t := (16, [some (.inr (some a0)), some (.inr r1), z2], [.inl 8, .inl 128, .inr (some a0)], sm_putI (sm_putI M a0 1 0) a0 3 0)) sm_a38_14 rfl rfl (st_bipush (by decide)) ?_
  exact ru_call (p := 19) sm_a38_16 rfl (sc_virt (Or.inl rfl) rfl rfl h_1 (Nat.le_of_ble_eq_true rfl)) rfl h
theorem bb_38_19 {d : Nat} {M : sm_M} {Q : Option sm_V → sm_M → Prop} {a0 : Nat} {r1 : Option Nat} {z2 : Option sm_V}
    (h : ∃ b_1, r1 = some b_1 ∧ sm_K M b_1 = 24 ∧ sm_K M a0 = 9 ∧ sm_Run d 40 0 (sm_ent 40 [.inr (some a0), .inl ((sm_I M b_1 1) + (16 * (15 - (sm_I M b_1 1)))), .inl 8]) [] M (fun v M1 => sm_Run (d + 1) 38 40 [some (.inr (some a0)), some (.inr (some b_1)), z2] (v.toList ++ []) M1 Q)) :
    sm_Run (d + 1) 38 19 [some (.inr (some a0)), some (.inr r1), z2] [] M Q := by
  refine ru_go (t := (20, [some (.inr (some a0)), some (.inr r1), z2], [.inr (some a0)], M)) sm_a38_19 rfl rfl rfl ?_
  refine ru_go (t := (21, [some (.inr (some a0)), some (.inr r1), z2], [.inr r1, .inr (some a0)], M)) sm_a38_20 rfl rfl rfl ?_
  obtain ⟨b_1, hb_2, h⟩ := h
  rw [hb_2]
  obtain ⟨h_3, h⟩ := h
  refine ru_go (t := (24, [some (.inr (some a0)), some (.inr (some b_1)), z2], [.inl (sm_I M b_1 1), .inr (some a0)], M)) sm_a38_21 rfl rfl (st_getI h_3 rfl) ?_
  refine ru_go (t := (26, [some (.inr (some a0)), some (.inr (some b_1)), z2], [.inl 16, .inl (sm_I M b_1 1), .inr (some a0)], M)) sm_a38_24 rfl rfl (st_bipush (by decide)) ?_
  refine ru_go (t := (28, [some (.inr (some a0)), some (.inr (some b_1)), z2], [.inl 15, .inl 16, .inl (sm_I M b_1 1), .inr (some a0)], M)) sm_a38_26 rfl rfl (st_bipush (by decide)) ?_
  refine ru_go (t := (29, [some (.inr (some a0)), some (.inr (some b_1)), z2], [.inr (some b_1), .inl 15, .inl 16, .inl (sm_I M b_1 1), .inr (some a0)], M)) sm_a38_28 rfl rfl rfl ?_
  refine ru_go (t := (32, [some (.inr (some a0)), some (.inr (some b_1)), z2], [.inl (sm_I M b_1 1), .inl 15, .inl 16, .inl (sm_I M b_1 1), .inr (some a0)], M)) sm_a38_29 rfl rfl (st_getI h_3 rfl) ?_
  refine ru_go (t := (33, [some (.inr (some a0)), some (.inr (some b_1)), z2], [.inl (15 - (sm_I M b_1 1)), .inl 16, .inl (sm_I M b_1 1), .inr (some a0)], M)) sm_a38_32 rfl rfl rfl ?_
  refine ru_go (t := (34, [some (.inr (some a0)), some (.inr (some b_1)), z2], [.inl (16 * (15 - (sm_I M b_1 1))), .inl (sm_I M b_1 1), .inr (some a0)], M)) sm_a38_33 rfl rfl rfl ?_
  refine ru_go (t := (35, [some (.inr (some a0)), some (.inr (some b_1)), z2], [.inl ((sm_I M b_1 1) + (16 * (15 - (sm_I M b_1 1)))), .inr (some a0)], M)) sm_a38_34 rfl rfl rfl ?_
  refine ru_go (t := (37, [some (.inr (some a0)), some (.inr (some b_1)), z2], [.inl 8, .inl ((sm_I M b_1 1) + (16 * (15 - (sm_I M b_1 1)))), .inr (some a0)], M)) sm_a38_35 rfl rfl (st_bipush (by decide)) ?_
  obtain ⟨h_4, h⟩ := h
  exact ru_call (p := 40) sm_a38_37 rfl (sc_virt (Or.inl rfl) rfl rfl h_4 (Nat.le_of_ble_eq_true rfl)) rfl h
theorem bb_38_40 {d : Nat} {M : sm_M} {Q : Option sm_V → sm_M → Prop} {a0 : Nat} {r1 : Option Nat} {z2 : Option sm_V}
    (h : ∃ b_1, r1 = some b_1 ∧ sm_K M b_1 = 24 ∧ sm_Run d 24 0 (sm_ent 24 [.inl (sm_I M b_1 1)]) [] M (fun v M1 => sm_Run (d + 1) 38 47 [some (.inr (some a0)), some (.inr (some b_1)), z2] (v.toList ++ []) M1 Q)) :
    sm_Run (d + 1) 38 40 [some (.inr (some a0)), some (.inr r1), z2] [] M Q := by
  refine ru_go (t := (41, [some (.inr (some a0)), some (.inr r1), z2], [.inr r1], M)) sm_a38_40 rfl rfl rfl ?_
  obtain ⟨b_1, hb_2, h⟩ := h
  rw [hb_2]
  obtain ⟨h_3, h⟩ := h
  refine ru_go (t := (44, [some (.inr (some a0)), some (.inr (some b_1)), z2], [.inl (sm_I M b_1 1)], M)) sm_a38_41 rfl rfl (st_getI h_3 rfl) ?_
  exact ru_call (p := 47) sm_a38_44 rfl (sc_stat (Or.inr rfl) (Nat.le_of_ble_eq_true rfl) rfl rfl (Nat.le_of_ble_eq_true rfl)) rfl h
theorem bb_38_47 {d : Nat} {M : sm_M} {Q : Option sm_V → sm_M → Prop} {a0 : Nat} {r1 : Option Nat} {z2 : Option sm_V} {y0 : Int32}
    (h : ((y0 = 0 → ∃ b_2, r1 = some b_2 ∧ sm_K M b_2 = 24 ∧ sm_Run d 26 0 (sm_ent 26 [.inl (sm_I M b_2 1)]) [] M (fun v M1 => sm_Run (d + 1) 38 93 [some (.inr (some a0)), some (.inr (some b_2)), z2] (v.toList ++ []) M1 Q)) ∧ (¬ (y0 = 0) → sm_Run (d + 1) 38 52 [some (.inr (some a0)), some (.inr r1), some (.inl 0)] [] M Q))) :
    sm_Run (d + 1) 38 47 [some (.inr (some a0)), some (.inr r1), z2] [.inl y0] M Q := by
  refine ru_if (pc := 47) (p := 86) (p2 := 50) sm_a38_47 (by decide) rfl ⟨fun hc_1 => ?_, fun hc_1 => ?_⟩
  · have h := h.1 hc_1
    refine ru_go (t := (87, [some (.inr (some a0)), some (.inr r1), z2], [.inr r1], M)) sm_a38_86 rfl rfl rfl ?_
    obtain ⟨b_2, hb_3, h⟩ := h
    rw [hb_3]
    obtain ⟨h_4, h⟩ := h
    refine ru_go (t := (90, [some (.inr (some a0)), some (.inr (some b_2)), z2], [.inl (sm_I M b_2 1)], M)) sm_a38_87 rfl rfl (st_getI h_4 rfl) ?_
    exact ru_call (p := 93) sm_a38_90 rfl (sc_stat (Or.inr rfl) (Nat.le_of_ble_eq_true rfl) rfl rfl (Nat.le_of_ble_eq_true rfl)) rfl h
  · have h := h.2 hc_1
    refine ru_go (t := (51, [some (.inr (some a0)), some (.inr r1), z2], [.inl 0], M)) sm_a38_50 rfl rfl (st_iconst (by decide)) ?_
    refine ru_go (t := (52, [some (.inr (some a0)), some (.inr r1), some (.inl 0)], [], M)) sm_a38_51 rfl rfl rfl ?_
    exact h
theorem bb_38_52 {d : Nat} {M : sm_M} {Q : Option sm_V → sm_M → Prop} {a0 : Nat} {r1 : Option Nat} {x2 : Int32}
    (h : ∃ b_1, r1 = some b_1 ∧ sm_K M b_1 = 24 ∧ (((sm_I M b_1 4) ≤ x2 → sm_K M a0 = 9 ∧ sm_Run d 41 0 (sm_ent 41 [.inr (some a0), .inl 16]) [] M (fun v M1 => sm_Run (d + 1) 38 83 [some (.inr (some a0)), some (.inr (some b_1)), some (.inl x2)] (v.toList ++ []) M1 Q)) ∧ (¬ ((sm_I M b_1 4) ≤ x2) → sm_Run d 107 0 (sm_ent 107 [.inr (some b_1), .inl x2]) [] M (fun v M1 => sm_Run (d + 1) 38 66 [some (.inr (some a0)), some (.inr (some b_1)), some (.inl x2)] (v.toList ++ [.inr (some a0)]) M1 Q)))) :
    sm_Run (d + 1) 38 52 [some (.inr (some a0)), some (.inr r1), some (.inl x2)] [] M Q := by
  refine ru_go (t := (53, [some (.inr (some a0)), some (.inr r1), some (.inl x2)], [.inl x2], M)) sm_a38_52 rfl rfl rfl ?_
  refine ru_go (t := (54, [some (.inr (some a0)), some (.inr r1), some (.inl x2)], [.inr r1, .inl x2], M)) sm_a38_53 rfl rfl rfl ?_
  obtain ⟨b_1, hb_2, h⟩ := h
  rw [hb_2]
  obtain ⟨h_3, h⟩ := h
  refine ru_go (t := (57, [some (.inr (some a0)), some (.inr (some b_1)), some (.inl x2)], [.inl (sm_I M b_1 4), .inl x2], M)) sm_a38_54 rfl rfl (st_getI h_3 rfl) ?_
  refine ru_icmp (pc := 57) (p := 77) (p2 := 60) sm_a38_57 (by decide) rfl ⟨fun hc_4 => ?_, fun hc_4 => ?_⟩
  · have h := h.1 hc_4
    refine ru_go (t := (78, [some (.inr (some a0)), some (.inr (some b_1)), some (.inl x2)], [.inr (some a0)], M)) sm_a38_77 rfl rfl rfl ?_
    refine ru_go (t := (80, [some (.inr (some a0)), some (.inr (some b_1)), some (.inl x2)], [.inl 16, .inr (some a0)], M)) sm_a38_78 rfl rfl (st_bipush (by decide)) ?_
    obtain ⟨h_5, h⟩ := h
    exact ru_call (p := 83) sm_a38_80 rfl (sc_virt (Or.inl rfl) rfl rfl h_5 (Nat.le_of_ble_eq_true rfl)) rfl h
  · have h := h.2 hc_4
    refine ru_go (t := (61, [some (.inr (some a0)), some (.inr (some b_1)), some (.inl x2)], [.inr (some a0)], M)) sm_a38_60 rfl rfl rfl ?_
    refine ru_go (t := (62, [some (.inr (some a0)), some (.inr (some b_1)), some (.inl x2)], [.inr (some b_1), .inr (some a0)], M)) sm_a38_61 rfl rfl rfl ?_
    refine ru_go (t := (63, [some (.inr (some a0)), some (.inr (some b_1)), some (.inl x2)], [.inl x2, .inr (some b_1), .inr (some a0)], M)) sm_a38_62 rfl rfl rfl ?_
    exact ru_call (p := 66) sm_a38_63 rfl (sc_virt (Or.inl rfl) rfl rfl h_3 (Nat.le_of_ble_eq_true rfl)) rfl h
theorem bb_38_66 {d : Nat} {M : sm_M} {Q : Option sm_V → sm_M → Prop} {a0 : Nat} {r1 : Option Nat} {x2 : Int32} {y0 : Int32} {b1 : Nat}
    (h : sm_K M b1 = 9 ∧ sm_Run d 40 0 (sm_ent 40 [.inr (some b1), .inl y0, .inl 8]) [] M (fun v M1 => sm_Run (d + 1) 38 71 [some (.inr (some a0)), some (.inr r1), some (.inl x2)] (v.toList ++ []) M1 Q)) :
    sm_Run (d + 1) 38 66 [some (.inr (some a0)), some (.inr r1), some (.inl x2)] [.inl y0, .inr (some b1)] M Q := by
  refine ru_go (t := (68, [some (.inr (some a0)), some (.inr r1), some (.inl x2)], [.inl 8, .inl y0, .inr (some b1)], M)) sm_a38_66 rfl rfl (st_bipush (by decide)) ?_
  obtain ⟨h_1, h⟩ := h
  exact ru_call (p := 71) sm_a38_68 rfl (sc_virt (Or.inl rfl) rfl rfl h_1 (Nat.le_of_ble_eq_true rfl)) rfl h
theorem bb_38_71 {d : Nat} {M : sm_M} {Q : Option sm_V → sm_M → Prop} {a0 : Nat} {r1 : Option Nat} {x2 : Int32}
    (h : sm_Run (d + 1) 38 52 [some (.inr (some a0)), some (.inr r1), some (.inl (x2 + 1))] [] M Q) :
    sm_Run (d + 1) 38 71 [some (.inr (some a0)), some (.inr r1), some (.inl x2)] [] M Q := by
  refine ru_go (t := (74, [some (.inr (some a0)), some (.inr r1), some (.inl (x2 + 1))], [], M)) sm_a38_71 rfl rfl (st_iinc rfl (by decide)) ?_
  refine ru_go (t := (52, [some (.inr (some a0)), some (.inr r1), some (.inl (x2 + 1))], [], M)) sm_a38_74 rfl rfl (st_goto (pc := 74) (by decide)) ?_
  exact h
theorem bb_38_83 {d : Nat} {M : sm_M} {Q : Option sm_V → sm_M → Prop} {a0 : Nat} {r1 : Option Nat} {x2 : Int32}
    (h : sm_K M a0 = 9 ∧ sm_Run d 44 0 (sm_ent 44 [.inr (some a0)]) [] M (fun v M1 => sm_Run (d + 1) 38 115 [some (.inr (some a0)), some (.inr r1), some (.inl x2)] (v.toList ++ []) M1 Q)) :
    sm_Run (d + 1) 38 83 [some (.inr (some a0)), some (.inr r1), some (.inl x2)] [] M Q := by
  refine ru_go (t := (111, [some (.inr (some a0)), some (.inr r1), some (.inl x2)], [], M)) sm_a38_83 rfl rfl (st_goto (pc := 83) (by decide)) ?_
  refine ru_go (t := (112, [some (.inr (some a0)), some (.inr r1), some (.inl x2)], [.inr (some a0)], M)) sm_a38_111 rfl rfl rfl ?_
  obtain ⟨h_1, h⟩ := h
  exact ru_call (p := 115) sm_a38_112 rfl (sc_virt (Or.inl rfl) rfl rfl h_1 (Nat.le_of_ble_eq_true rfl)) rfl h
theorem bb_38_93 {d : Nat} {M : sm_M} {Q : Option sm_V → sm_M → Prop} {a0 : Nat} {r1 : Option Nat} {z2 : Option sm_V} {y0 : Int32}
    (h : ((¬ y0 = 0 → sm_K M a0 = 9 ∧ sm_Run d 44 0 (sm_ent 44 [.inr (some a0)]) [] M (fun v M1 => sm_Run (d + 1) 38 115 [some (.inr (some a0)), some (.inr r1), z2] (v.toList ++ []) M1 Q)) ∧ (¬ (¬ y0 = 0) → ∃ b_3, r1 = some b_3 ∧ sm_K M b_3 = 24 ∧ sm_K M a0 = 9 ∧ sm_Run d 40 0 (sm_ent 40 [.inr (some a0), .inl (sm_I M b_3 2), .inl 11]) [] M (fun v M1 => sm_Run (d + 1) 38 106 [some (.inr (some a0)), some (.inr (some b_3)), z2] (v.toList ++ []) M1 Q)))) :
    sm_Run (d + 1) 38 93 [some (.inr (some a0)), some (.inr r1), z2] [.inl y0] M Q := by
  refine ru_if (pc := 93) (p := 111) (p2 := 96) sm_a38_93 (by decide) rfl ⟨fun hc_1 => ?_, fun hc_1 => ?_⟩
  · have h := h.1 hc_1
    refine ru_go (t := (112, [some (.inr (some a0)), some (.inr r1), z2], [.inr (some a0)], M)) sm_a38_111 rfl rfl rfl ?_
    obtain ⟨h_2, h⟩ := h
    exact ru_call (p := 115) sm_a38_112 rfl (sc_virt (Or.inl rfl) rfl rfl h_2 (Nat.le_of_ble_eq_true rfl)) rfl h
  · have h := h.2 hc_1
    refine ru_go (t := (97, [some (.inr (some a0)), some (.inr r1), z2], [.inr (some a0)], M)) sm_a38_96 rfl rfl rfl ?_
    refine ru_go (t := (98, [some (.inr (some a0)), some (.inr r1), z2], [.inr r1, .inr (some a0)], M)) sm_a38_97 rfl rfl rfl ?_
    obtain ⟨b_3, hb_4, h⟩ := h
    rw [hb_4]
    obtain ⟨h_5, h⟩ := h
    refine ru_go (t := (101, [some (.inr (some a0)), some (.inr (some b_3)), z2], [.inl (sm_I M b_3 2), .inr (some a0)], M)) sm_a38_98 rfl rfl (st_getI h_5 rfl) ?_
    refine ru_go (t := (103, [some (.inr (some a0)), some (.inr (some b_3)), z2], [.inl 11, .inl (sm_I M b_3 2), .inr (some a0)], M)) sm_a38_101 rfl rfl (st_bipush (by decide)) ?_
    obtain ⟨h_6, h⟩ := h
    exact ru_call (p := 106) sm_a38_103 rfl (sc_virt (Or.inl rfl) rfl rfl h_6 (Nat.le_of_ble_eq_true rfl)) rfl h
theorem bb_38_106 {d : Nat} {M : sm_M} {Q : Option sm_V → sm_M → Prop} {a0 : Nat} {r1 : Option Nat} {z2 : Option sm_V}
    (h : sm_K M a0 = 9 ∧ sm_Run d 41 0 (sm_ent 41 [.inr (some a0), .inl 5]) [] M (fun v M1 => sm_Run (d + 1) 38 111 [some (.inr (some a0)), some (.inr r1), z2] (v.toList ++ []) M1 Q)) :
    sm_Run (d + 1) 38 106 [some (.inr (some a0)), some (.inr r1), z2] [] M Q := by
  refine ru_go (t := (107, [some (.inr (some a0)), some (.inr r1), z2], [.inr (some a0)], M)) sm_a38_106 rfl rfl rfl ?_
  refine ru_go (t := (108, [some (.inr (some a0)), some (.inr r1), z2], [.inl 5, .inr (some a0)], M)) sm_a38_107 rfl rfl (st_iconst (by decide)) ?_
  obtain ⟨h_1, h⟩ := h
  exact ru_call (p := 111) sm_a38_108 rfl (sc_virt (Or.inl rfl) rfl rfl h_1 (Nat.le_of_ble_eq_true rfl)) rfl h
theorem bb_38_111 {d : Nat} {M : sm_M} {Q : Option sm_V → sm_M → Prop} {a0 : Nat} {r1 : Option Nat} {z2 : Option sm_V}
    (h : sm_K M a0 = 9 ∧ sm_Run d 44 0 (sm_ent 44 [.inr (some a0)]) [] M (fun v M1 => sm_Run (d + 1) 38 115 [some (.inr (some a0)), some (.inr r1), z2] (v.toList ++ []) M1 Q)) :
    sm_Run (d + 1) 38 111 [some (.inr (some a0)), some (.inr r1), z2] [] M Q := by
  refine ru_go (t := (112, [some (.inr (some a0)), some (.inr r1), z2], [.inr (some a0)], M)) sm_a38_111 rfl rfl rfl ?_
  obtain ⟨h_1, h⟩ := h
  exact ru_call (p := 115) sm_a38_112 rfl (sc_virt (Or.inl rfl) rfl rfl h_1 (Nat.le_of_ble_eq_true rfl)) rfl h
theorem bb_38_115 {d : Nat} {M : sm_M} {Q : Option sm_V → sm_M → Prop} {a0 : Nat} {r1 : Option Nat} {z2 : Option sm_V}
    (h : Q none M) :
    sm_Run (d + 1) 38 115 [some (.inr (some a0)), some (.inr r1), z2] [] M Q := by
  exact ru_ret sm_a38_115 (sm_rvv rfl) h

/-! WireBus$Coder.addBit:(I)V -/
theorem sm_a39_0 : sm_at 39 0 = some (.aload_n 0, 1, (0, 0, 0, 0)) := by decide +kernel
theorem sm_a39_1 : sm_at 39 1 = some (.getfield 18, 3, (2, 1, 0, 192)) := by decide +kernel
theorem sm_a39_4 : sm_at 39 4 = some (.aload_n 0, 1, (0, 0, 0, 0)) := by decide +kernel
theorem sm_a39_5 : sm_at 39 5 = some (.getfield 9, 3, (2, 0, 0, 191)) := by decide +kernel
theorem sm_a39_8 : sm_at 39 8 = some (.arraylength, 1, (0, 0, 0, 0)) := by decide +kernel
theorem sm_a39_9 : sm_at 39 9 = some (.if_icmp .ge 23, 3, (0, 0, 0, 0)) := by decide +kernel
theorem sm_a39_12 : sm_at 39 12 = some (.aload_n 0, 1, (0, 0, 0, 0)) := by decide +kernel
theorem sm_a39_13 : sm_at 39 13 = some (.getfield 9, 3, (2, 0, 0, 191)) := by decide +kernel
theorem sm_a39_16 : sm_at 39 16 = some (.aload_n 0, 1, (0, 0, 0, 0)) := by decide +kernel
theorem sm_a39_17 : sm_at 39 17 = some (.getfield 18, 3, (2, 1, 0, 192)) := by decide +kernel
theorem sm_a39_20 : sm_at 39 20 = some (.iload_n 1, 1, (0, 0, 0, 0)) := by decide +kernel
theorem sm_a39_21 : sm_at 39 21 = some (.iastore, 1, (0, 0, 0, 0)) := by decide +kernel
theorem sm_a39_22 : sm_at 39 22 = some (.aload_n 0, 1, (0, 0, 0, 0)) := by decide +kernel
theorem sm_a39_23 : sm_at 39 23 = some (.dup, 1, (0, 0, 0, 0)) := by decide +kernel
theorem sm_a39_24 : sm_at 39 24 = some (.getfield 18, 3, (2, 1, 0, 192)) := by decide +kernel
theorem sm_a39_27 : sm_at 39 27 = some (.iconst 1, 1, (0, 0, 0, 0)) := by decide +kernel
theorem sm_a39_28 : sm_at 39 28 = some (.iadd, 1, (0, 0, 0, 0)) := by decide +kernel
theorem sm_a39_29 : sm_at 39 29 = some (.putfield 18, 3, (2, 1, 0, 192)) := by decide +kernel
theorem sm_a39_32 : sm_at 39 32 = some (.return_, 1, (0, 0, 0, 0)) := by decide +kernel
theorem bb_39_0 {d : Nat} {M : sm_M} {Q : Option sm_V → sm_M → Prop} {a0 : Nat} {x1 : Int32}
    (h : sm_K M a0 = 9 ∧ ∃ b_2, sm_R M a0 0 = some b_2 ∧ (1 ≤ sm_K M b_2 ∧ sm_K M b_2 % 3 ≠ 0) ∧ (((Int32.ofNat (sm_L M b_2)) ≤ (sm_I M a0 1) → Q none M) ∧ (¬ ((Int32.ofNat (sm_L M b_2)) ≤ (sm_I M a0 1)) → ∃ b_6, sm_R M a0 0 = some b_6 ∧ sm_wA 0 M b_6 ∧ sm_in_ M b_6 (sm_I M a0 1) ∧ Q none (sm_putI (sm_putI M b_6 (sm_I M a0 1).toNatClampNeg x1) a0 1 ((sm_I (sm_putI M b_6 (sm_I M a0 1).toNatClampNeg x1) a0 1) + 1))))) :
    sm_Run d 39 0 [some (.inr (some a0)), some (.inl x1)] [] M Q := by
  refine ru_go (t := (1, [some (.inr (some a0)), some (.inl x1)], [.inr (some a0)], M)) sm_a39_0 rfl rfl rfl ?_
  obtain ⟨h_1, h⟩ := h
  refine ru_go (t := (4, [some (.inr (some a0)), some (.inl x1)], [.inl (sm_I M a0 1)], M)) sm_a39_1 rfl rfl (st_getI h_1 rfl) ?_
  refine ru_go (t := (5, [some (.inr (some a0)), some (.inl x1)], [.inr (some a0), .inl (sm_I M a0 1)], M)) sm_a39_4 rfl rfl rfl ?_
  refine ru_go (t := (8, [some (.inr (some a0)), some (.inl x1)], [.inr (sm_R M a0 0), .inl (sm_I M a0 1)], M)) sm_a39_5 rfl rfl (st_getR h_1 rfl rfl) ?_
  obtain ⟨b_2, hb_3, h⟩ := h
  rw [hb_3]
  obtain ⟨h_4, h⟩ := h
  refine ru_go (t := (9, [some (.inr (some a0)), some (.inl x1)], [.inl (Int32.ofNat (sm_L M b_2)), .inl (sm_I M a0 1)], M)) sm_a39_8 rfl rfl (st_alen h_4) ?_
  refine ru_icmp (pc := 9) (p := 32) (p2 := 12) sm_a39_9 (by decide) rfl ⟨fun hc_5 => ?_, fun hc_5 => ?_⟩
  · have h := h.1 hc_5
    exact ru_ret sm_a39_32 (sm_rvv rfl) h
  · have h := h.2 hc_5
    refine ru_go (t := (13, [some (.inr (some a0)), some (.inl x1)], [.inr (some a0)], M)) sm_a39_12 rfl rfl rfl ?_
    refine ru_go (t := (16, [some (.inr (some a0)), some (.inl x1)], [.inr (sm_R M a0 0)], M)) sm_a39_13 rfl rfl (st_getR h_1 rfl rfl) ?_
    refine ru_go (t := (17, [some (.inr (some a0)), some (.inl x1)], [.inr (some a0), .inr (sm_R M a0 0)], M)) sm_a39_16 rfl rfl rfl ?_
    refine ru_go (t := (20, [some (.inr (some a0)), some (.inl x1)], [.inl (sm_I M a0 1), .inr (sm_R M a0 0)], M)) sm_a39_17 rfl rfl (st_getI h_1 rfl) ?_
    refine ru_go (t := (21, [some (.inr (some a0)), some (.inl x1)], [.inl x1, .inl (sm_I M a0 1), .inr (sm_R M a0 0)], M)) sm_a39_20 rfl rfl rfl ?_
    obtain ⟨b_6, hb_7, h⟩ := h
    rw [hb_7]
    obtain ⟨h_8, h⟩ := h
    obtain ⟨h_9, h⟩ := h
    refine ru_go (t := (22, [some (.inr (some a0)), some (.inl x1)], [], sm_putI M b_6 (sm_I M a0 1).toNatClampNeg x1)) sm_a39_21 rfl rfl (st_iast h_8 h_9) ?_
    refine ru_go (t := (23, [some (.inr (some a0)), some (.inl x1)], [.inr (some a0)], sm_putI M b_6 (sm_I M a0 1).toNatClampNeg x1)) sm_a39_22 rfl rfl rfl ?_
    refine ru_go (t := (24, [some (.inr (some a0)), some (.inl x1)], [.inr (some a0), .inr (some a0)], sm_putI M b_6 (sm_I M a0 1).toNatClampNeg x1)) sm_a39_23 rfl rfl rfl ?_
    refine ru_go (t := (27, [some (.inr (some a0)), some (.inl x1)], [.inl (sm_I (sm_putI M b_6 (sm_I M a0 1).toNatClampNeg x1) a0 1), .inr (some a0)], sm_putI M b_6 (sm_I M a0 1).toNatClampNeg x1)) sm_a39_24 rfl rfl (st_getI h_1 rfl) ?_
    refine ru_go (t := (28, [some (.inr (some a0)), some (.inl x1)], [.inl 1, .inl (sm_I (sm_putI M b_6 (sm_I M a0 1).toNatClampNeg x1) a0 1), .inr (some a0)], sm_putI M b_6 (sm_I M a0 1).toNatClampNeg x1)) sm_a39_27 rfl rfl (st_iconst (by decide)) ?_
    refine ru_go (t := (29, [some (.inr (some a0)), some (.inl x1)], [.inl ((sm_I (sm_putI M b_6 (sm_I M a0 1).toNatClampNeg x1) a0 1) + 1), .inr (some a0)], sm_putI M b_6 (sm_I M a0 1).toNatClampNeg x1)) sm_a39_28 rfl rfl rfl ?_
    refine ru_go (t := (32, [some (.inr (some a0)), some (.inl x1)], [], sm_putI (sm_putI M b_6 (sm_I M a0 1).toNatClampNeg x1) a0 1 ((sm_I (sm_putI M b_6 (sm_I M a0 1).toNatClampNeg x1) a0 1) + 1))) sm_a39_29 rfl rfl (st_putI h_1 rfl) ?_
    exact ru_ret sm_a39_32 (sm_rvv rfl) h

/-! WireBus$Coder.addNumber:(II)V -/
theorem sm_a40_0 : sm_at 40 0 = some (.iconst 0, 1, (0, 0, 0, 0)) := by decide +kernel
theorem sm_a40_1 : sm_at 40 1 = some (.istore_n 3, 1, (0, 0, 0, 0)) := by decide +kernel
theorem sm_a40_2 : sm_at 40 2 = some (.iload_n 3, 1, (0, 0, 0, 0)) := by decide +kernel
theorem sm_a40_3 : sm_at 40 3 = some (.iload_n 2, 1, (0, 0, 0, 0)) := by decide +kernel
theorem sm_a40_4 : sm_at 40 4 = some (.if_icmp .ge 18, 3, (0, 0, 0, 0)) := by decide +kernel
theorem sm_a40_7 : sm_at 40 7 = some (.aload_n 0, 1, (0, 0, 0, 0)) := by decide +kernel
theorem sm_a40_8 : sm_at 40 8 = some (.iload_n 1, 1, (0, 0, 0, 0)) := by decide +kernel
theorem sm_a40_9 : sm_at 40 9 = some (.iload_n 3, 1, (0, 0, 0, 0)) := by decide +kernel
theorem sm_a40_10 : sm_at 40 10 = some (.ishr, 1, (0, 0, 0, 0)) := by decide +kernel
theorem sm_a40_11 : sm_at 40 11 = some (.iconst 1, 1, (0, 0, 0, 0)) := by decide +kernel
theorem sm_a40_12 : sm_at 40 12 = some (.iand, 1, (0, 0, 0, 0)) := by decide +kernel
theorem sm_a40_13 : sm_at 40 13 = some (.invokevirtual 56, 3, (10, 39, 2, 784)) := by decide +kernel
theorem sm_a40_16 : sm_at 40 16 = some (.iinc 3 1, 3, (0, 0, 0, 0)) := by decide +kernel
theorem sm_a40_19 : sm_at 40 19 = some (.goto (-17), 3, (0, 0, 0, 0)) := by decide +kernel
theorem sm_a40_22 : sm_at 40 22 = some (.return_, 1, (0, 0, 0, 0)) := by decide +kernel
theorem bb_40_0 {d : Nat} {M : sm_M} {Q : Option sm_V → sm_M → Prop} {a0 : Nat} {x1 : Int32} {x2 : Int32} {z3 : Option sm_V}
    (h : sm_Run (d + 1) 40 2 [some (.inr (some a0)), some (.inl x1), some (.inl x2), some (.inl 0)] [] M Q) :
    sm_Run (d + 1) 40 0 [some (.inr (some a0)), some (.inl x1), some (.inl x2), z3] [] M Q := by
  refine ru_go (t := (1, [some (.inr (some a0)), some (.inl x1), some (.inl x2), z3], [.inl 0], M)) sm_a40_0 rfl rfl (st_iconst (by decide)) ?_
  refine ru_go (t := (2, [some (.inr (some a0)), some (.inl x1), some (.inl x2), some (.inl 0)], [], M)) sm_a40_1 rfl rfl rfl ?_
  exact h
theorem bb_40_2 {d : Nat} {M : sm_M} {Q : Option sm_V → sm_M → Prop} {a0 : Nat} {x1 : Int32} {x2 : Int32} {x3 : Int32}
    (h : ((x2 ≤ x3 → Q none M) ∧ (¬ (x2 ≤ x3) → sm_K M a0 = 9 ∧ sm_Run d 39 0 (sm_ent 39 [.inr (some a0), .inl ((x1 >>> (x3 &&& 31)) &&& 1)]) [] M (fun v M1 => sm_Run (d + 1) 40 16 [some (.inr (some a0)), some (.inl x1), some (.inl x2), some (.inl x3)] (v.toList ++ []) M1 Q)))) :
    sm_Run (d + 1) 40 2 [some (.inr (some a0)), some (.inl x1), some (.inl x2), some (.inl x3)] [] M Q := by
  refine ru_go (t := (3, [some (.inr (some a0)), some (.inl x1), some (.inl x2), some (.inl x3)], [.inl x3], M)) sm_a40_2 rfl rfl rfl ?_
  refine ru_go (t := (4, [some (.inr (some a0)), some (.inl x1), some (.inl x2), some (.inl x3)], [.inl x2, .inl x3], M)) sm_a40_3 rfl rfl rfl ?_
  refine ru_icmp (pc := 4) (p := 22) (p2 := 7) sm_a40_4 (by decide) rfl ⟨fun hc_1 => ?_, fun hc_1 => ?_⟩
  · have h := h.1 hc_1
    exact ru_ret sm_a40_22 (sm_rvv rfl) h
  · have h := h.2 hc_1
    refine ru_go (t := (8, [some (.inr (some a0)), some (.inl x1), some (.inl x2), some (.inl x3)], [.inr (some a0)], M)) sm_a40_7 rfl rfl rfl ?_
    refine ru_go (t := (9, [some (.inr (some a0)), some (.inl x1), some (.inl x2), some (.inl x3)], [.inl x1, .inr (some a0)], M)) sm_a40_8 rfl rfl rfl ?_
    refine ru_go (t := (10, [some (.inr (some a0)), some (.inl x1), some (.inl x2), some (.inl x3)], [.inl x3, .inl x1, .inr (some a0)], M)) sm_a40_9 rfl rfl rfl ?_
    refine ru_go (t := (11, [some (.inr (some a0)), some (.inl x1), some (.inl x2), some (.inl x3)], [.inl (x1 >>> (x3 &&& 31)), .inr (some a0)], M)) sm_a40_10 rfl rfl rfl ?_
    refine ru_go (t := (12, [some (.inr (some a0)), some (.inl x1), some (.inl x2), some (.inl x3)], [.inl 1, .inl (x1 >>> (x3 &&& 31)), .inr (some a0)], M)) sm_a40_11 rfl rfl (st_iconst (by decide)) ?_
    refine ru_go (t := (13, [some (.inr (some a0)), some (.inl x1), some (.inl x2), some (.inl x3)], [.inl ((x1 >>> (x3 &&& 31)) &&& 1), .inr (some a0)], M)) sm_a40_12 rfl rfl rfl ?_
    obtain ⟨h_2, h⟩ := h
    exact ru_call (p := 16) sm_a40_13 rfl (sc_virt (Or.inl rfl) rfl rfl h_2 (Nat.le_of_ble_eq_true rfl)) rfl h
theorem bb_40_16 {d : Nat} {M : sm_M} {Q : Option sm_V → sm_M → Prop} {a0 : Nat} {x1 : Int32} {x2 : Int32} {x3 : Int32}
    (h : sm_Run (d + 1) 40 2 [some (.inr (some a0)), some (.inl x1), some (.inl x2), some (.inl (x3 + 1))] [] M Q) :
    sm_Run (d + 1) 40 16 [some (.inr (some a0)), some (.inl x1), some (.inl x2), some (.inl x3)] [] M Q := by
  refine ru_go (t := (19, [some (.inr (some a0)), some (.inl x1), some (.inl x2), some (.inl (x3 + 1))], [], M)) sm_a40_16 rfl rfl (st_iinc rfl (by decide)) ?_
  refine ru_go (t := (2, [some (.inr (some a0)), some (.inl x1), some (.inl x2), some (.inl (x3 + 1))], [], M)) sm_a40_19 rfl rfl (st_goto (pc := 19) (by decide)) ?_
  exact h

/-! WireBus$Coder.addCheck:(I)V -/
theorem sm_a41_0 : sm_at 41 0 = some (.aload_n 0, 1, (0, 0, 0, 0)) := by decide +kernel
theorem sm_a41_1 : sm_at 41 1 = some (.aload_n 0, 1, (0, 0, 0, 0)) := by decide +kernel
theorem sm_a41_2 : sm_at 41 2 = some (.getfield 18, 3, (2, 1, 0, 192)) := by decide +kernel
theorem sm_a41_5 : sm_at 41 5 = some (.iload_n 1, 1, (0, 0, 0, 0)) := by decide +kernel
theorem sm_a41_6 : sm_at 41 6 = some (.invokevirtual 59, 3, (10, 42, 2, 799)) := by decide +kernel
theorem sm_a41_9 : sm_at 41 9 = some (.istore_n 2, 1, (0, 0, 0, 0)) := by decide +kernel
theorem sm_a41_10 : sm_at 41 10 = some (.iload_n 1, 1, (0, 0, 0, 0)) := by decide +kernel
theorem sm_a41_11 : sm_at 41 11 = some (.iconst 1, 1, (0, 0, 0, 0)) := by decide +kernel
theorem sm_a41_12 : sm_at 41 12 = some (.isub, 1, (0, 0, 0, 0)) := by decide +kernel
theorem sm_a41_13 : sm_at 41 13 = some (.istore_n 3, 1, (0, 0, 0, 0)) := by decide +kernel
theorem sm_a41_14 : sm_at 41 14 = some (.iload_n 3, 1, (0, 0, 0, 0)) := by decide +kernel
theorem sm_a41_15 : sm_at 41 15 = some (.ifCond .lt 18, 3, (0, 0, 0, 0)) := by decide +kernel
theorem sm_a41_18 : sm_at 41 18 = some (.aload_n 0, 1, (0, 0, 0, 0)) := by decide +kernel
theorem sm_a41_19 : sm_at 41 19 = some (.iload_n 2, 1, (0, 0, 0, 0)) := by decide +kernel
theorem sm_a41_20 : sm_at 41 20 = some (.iload_n 3, 1, (0, 0, 0, 0)) := by decide +kernel
theorem sm_a41_21 : sm_at 41 21 = some (.ishr, 1, (0, 0, 0, 0)) := by decide +kernel
theorem sm_a41_22 : sm_at 41 22 = some (.iconst 1, 1, (0, 0, 0, 0)) := by decide +kernel
theorem sm_a41_23 : sm_at 41 23 = some (.iand, 1, (0, 0, 0, 0)) := by decide +kernel
theorem sm_a41_24 : sm_at 41 24 = some (.invokevirtual 56, 3, (10, 39, 2, 784)) := by decide +kernel
theorem sm_a41_27 : sm_at 41 27 = some (.iinc 3 (-1), 3, (0, 0, 0, 0)) := by decide +kernel
theorem sm_a41_30 : sm_at 41 30 = some (.goto (-16), 3, (0, 0, 0, 0)) := by decide +kernel
theorem sm_a41_33 : sm_at 41 33 = some (.return_, 1, (0, 0, 0, 0)) := by decide +kernel
theorem bb_41_0 {d : Nat} {M : sm_M} {Q : Option sm_V → sm_M → Prop} {a0 : Nat} {x1 : Int32} {z2 : Option sm_V} {z3 : Option sm_V}
    (h : sm_K M a0 = 9 ∧ sm_Run d 42 0 (sm_ent 42 [.inr (some a0), .inl (sm_I M a0 1), .inl x1]) [] M (fun v M1 => sm_Run (d + 1) 41 9 [some (.inr (some a0)), some (.inl x1), z2, z3] (v.toList ++ []) M1 Q)) :
    sm_Run (d + 1) 41 0 [some (.inr (some a0)), some (.inl x1), z2, z3] [] M Q := by
  refine ru_go (t := (1, [some (.inr (some a0)), some (.inl x1), z2, z3], [.inr (some a0)], M)) sm_a41_0 rfl rfl rfl ?_
  refine ru_go (t := (2, [some (.inr (some a0)), some (.inl x1), z2, z3], [.inr (some a0), .inr (some a0)], M)) sm_a41_1 rfl rfl rfl ?_
  obtain ⟨h_1, h⟩ := h
  refine ru_go (t := (5, [some (.inr (some a0)), some (.inl x1), z2, z3], [.inl (sm_I M a0 1), .inr (some a0)], M)) sm_a41_2 rfl rfl (st_getI h_1 rfl) ?_
  refine ru_go (t := (6, [some (.inr (some a0)), some (.inl x1), z2, z3], [.inl x1, .inl (sm_I M a0 1), .inr (some a0)], M)) sm_a41_5 rfl rfl rfl ?_
  exact ru_call (p := 9) sm_a41_6 rfl (sc_virt (Or.inl rfl) rfl rfl h_1 (Nat.le_of_ble_eq_true rfl)) rfl h
theorem bb_41_9 {d : Nat} {M : sm_M} {Q : Option sm_V → sm_M → Prop} {a0 : Nat} {x1 : Int32} {z2 : Option sm_V} {z3 : Option sm_V} {y0 : Int32}
    (h : sm_Run (d + 1) 41 14 [some (.inr (some a0)), some (.inl x1), some (.inl y0), some (.inl (x1 - 1))] [] M Q) :
    sm_Run (d + 1) 41 9 [some (.inr (some a0)), some (.inl x1), z2, z3] [.inl y0] M Q := by
  refine ru_go (t := (10, [some (.inr (some a0)), some (.inl x1), some (.inl y0), z3], [], M)) sm_a41_9 rfl rfl rfl ?_
  refine ru_go (t := (11, [some (.inr (some a0)), some (.inl x1), some (.inl y0), z3], [.inl x1], M)) sm_a41_10 rfl rfl rfl ?_
  refine ru_go (t := (12, [some (.inr (some a0)), some (.inl x1), some (.inl y0), z3], [.inl 1, .inl x1], M)) sm_a41_11 rfl rfl (st_iconst (by decide)) ?_
  refine ru_go (t := (13, [some (.inr (some a0)), some (.inl x1), some (.inl y0), z3], [.inl (x1 - 1)], M)) sm_a41_12 rfl rfl rfl ?_
  refine ru_go (t := (14, [some (.inr (some a0)), some (.inl x1), some (.inl y0), some (.inl (x1 - 1))], [], M)) sm_a41_13 rfl rfl rfl ?_
  exact h
theorem bb_41_14 {d : Nat} {M : sm_M} {Q : Option sm_V → sm_M → Prop} {a0 : Nat} {x1 : Int32} {x2 : Int32} {x3 : Int32}
    (h : ((x3 < 0 → Q none M) ∧ (¬ (x3 < 0) → sm_K M a0 = 9 ∧ sm_Run d 39 0 (sm_ent 39 [.inr (some a0), .inl ((x2 >>> (x3 &&& 31)) &&& 1)]) [] M (fun v M1 => sm_Run (d + 1) 41 27 [some (.inr (some a0)), some (.inl x1), some (.inl x2), some (.inl x3)] (v.toList ++ []) M1 Q)))) :
    sm_Run (d + 1) 41 14 [some (.inr (some a0)), some (.inl x1), some (.inl x2), some (.inl x3)] [] M Q := by
  refine ru_go (t := (15, [some (.inr (some a0)), some (.inl x1), some (.inl x2), some (.inl x3)], [.inl x3], M)) sm_a41_14 rfl rfl rfl ?_
  refine ru_if (pc := 15) (p := 33) (p2 := 18) sm_a41_15 (by decide) rfl ⟨fun hc_1 => ?_, fun hc_1 => ?_⟩
  · have h := h.1 hc_1
    exact ru_ret sm_a41_33 (sm_rvv rfl) h
  · have h := h.2 hc_1
    refine ru_go (t := (19, [some (.inr (some a0)), some (.inl x1), some (.inl x2), some (.inl x3)], [.inr (some a0)], M)) sm_a41_18 rfl rfl rfl ?_
    refine ru_go (t := (20, [some (.inr (some a0)), some (.inl x1), some (.inl x2), some (.inl x3)], [.inl x2, .inr (some a0)], M)) sm_a41_19 rfl rfl rfl ?_
    refine ru_go (t := (21, [some (.inr (some a0)), some (.inl x1), some (.inl x2), some (.inl x3)], [.inl x3, .inl x2, .inr (some a0)], M)) sm_a41_20 rfl rfl rfl ?_
    refine ru_go (t := (22, [some (.inr (some a0)), some (.inl x1), some (.inl x2), some (.inl x3)], [.inl (x2 >>> (x3 &&& 31)), .inr (some a0)], M)) sm_a41_21 rfl rfl rfl ?_
    refine ru_go (t := (23, [some (.inr (some a0)), some (.inl x1), some (.inl x2), some (.inl x3)], [.inl 1, .inl (x2 >>> (x3 &&& 31)), .inr (some a0)], M)) sm_a41_22 rfl rfl (st_iconst (by decide)) ?_
    refine ru_go (t := (24, [some (.inr (some a0)), some (.inl x1), some (.inl x2), some (.inl x3)], [.inl ((x2 >>> (x3 &&& 31)) &&& 1), .inr (some a0)], M)) sm_a41_23 rfl rfl rfl ?_
    obtain ⟨h_2, h⟩ := h
    exact ru_call (p := 27) sm_a41_24 rfl (sc_virt (Or.inl rfl) rfl rfl h_2 (Nat.le_of_ble_eq_true rfl)) rfl h
theorem bb_41_27 {d : Nat} {M : sm_M} {Q : Option sm_V → sm_M → Prop} {a0 : Nat} {x1 : Int32} {x2 : Int32} {x3 : Int32}
    (h : sm_Run (d + 1) 41 14 [some (.inr (some a0)), some (.inl x1), some (.inl x2), some (.inl (x3 + (-1)))] [] M Q) :
    sm_Run (d + 1) 41 27 [some (.inr (some a0)), some (.inl x1), some (.inl x2), some (.inl x3)] [] M Q := by
  refine ru_go (t := (30, [some (.inr (some a0)), some (.inl x1), some (.inl x2), some (.inl (x3 + (-1)))], [], M)) sm_a41_27 rfl rfl (st_iinc rfl (by decide)) ?_
  refine ru_go (t := (14, [some (.inr (some a0)), some (.inl x1), some (.inl x2), some (.inl (x3 + (-1)))], [], M)) sm_a41_30 rfl rfl (st_goto (pc := 30) (by decide)) ?_
  exact h

/-! WireBus$Coder.checkUpTo:(II)I -/
theorem sm_a42_0 : sm_at 42 0 = some (.iconst 1, 1, (0, 0, 0, 0)) := by decide +kernel
theorem sm_a42_1 : sm_at 42 1 = some (.iload_n 2, 1, (0, 0, 0, 0)) := by decide +kernel
theorem sm_a42_2 : sm_at 42 2 = some (.ishl, 1, (0, 0, 0, 0)) := by decide +kernel
theorem sm_a42_3 : sm_at 42 3 = some (.iconst 1, 1, (0, 0, 0, 0)) := by decide +kernel
theorem sm_a42_4 : sm_at 42 4 = some (.isub, 1, (0, 0, 0, 0)) := by decide +kernel
theorem sm_a42_5 : sm_at 42 5 = some (.istore_n 3, 1, (0, 0, 0, 0)) := by decide +kernel
theorem sm_a42_6 : sm_at 42 6 = some (.iload_n 2, 1, (0, 0, 0, 0)) := by decide +kernel
theorem sm_a42_7 : sm_at 42 7 = some (.iconst 5, 1, (0, 0, 0, 0)) := by decide +kernel
theorem sm_a42_8 : sm_at 42 8 = some (.if_icmp .ne 7, 3, (0, 0, 0, 0)) := by decide +kernel
theorem sm_a42_11 : sm_at 42 11 = some (.iconst 5, 1, (0, 0, 0, 0)) := by decide +kernel
theorem sm_a42_12 : sm_at 42 12 = some (.goto 5, 3, (0, 0, 0, 0)) := by decide +kernel
theorem sm_a42_15 : sm_at 42 15 = some (.ldc 63, 2, (32773, 0, 0, 803)) := by decide +kernel
theorem sm_a42_17 : sm_at 42 17 = some (.istore 4, 2, (0, 0, 0, 0)) := by decide +kernel
theorem sm_a42_19 : sm_at 42 19 = some (.iload_n 3, 1, (0, 0, 0, 0)) := by decide +kernel
theorem sm_a42_20 : sm_at 42 20 = some (.istore 5, 2, (0, 0, 0, 0)) := by decide +kernel
theorem sm_a42_22 : sm_at 42 22 = some (.bipush 16, 2, (0, 0, 0, 0)) := by decide +kernel
theorem sm_a42_24 : sm_at 42 24 = some (.istore 6, 2, (0, 0, 0, 0)) := by decide +kernel
theorem sm_a42_26 : sm_at 42 26 = some (.iload 6, 2, (0, 0, 0, 0)) := by decide +kernel
theorem sm_a42_28 : sm_at 42 28 = some (.iload_n 1, 1, (0, 0, 0, 0)) := by decide +kernel
theorem sm_a42_29 : sm_at 42 29 = some (.if_icmp .ge 64, 3, (0, 0, 0, 0)) := by decide +kernel
theorem sm_a42_32 : sm_at 42 32 = some (.iload 6, 2, (0, 0, 0, 0)) := by decide +kernel
theorem sm_a42_34 : sm_at 42 34 = some (.aload_n 0, 1, (0, 0, 0, 0)) := by decide +kernel
theorem sm_a42_35 : sm_at 42 35 = some (.getfield 9, 3, (2, 0, 0, 191)) := by decide +kernel
theorem sm_a42_38 : sm_at 42 38 = some (.arraylength, 1, (0, 0, 0, 0)) := by decide +kernel
theorem sm_a42_39 : sm_at 42 39 = some (.if_icmp .ge 54, 3, (0, 0, 0, 0)) := by decide +kernel
theorem sm_a42_42 : sm_at 42 42 = some (.aload_n 0, 1, (0, 0, 0, 0)) := by decide +kernel
theorem sm_a42_43 : sm_at 42 43 = some (.getfield 9, 3, (2, 0, 0, 191)) := by decide +kernel
theorem sm_a42_46 : sm_at 42 46 = some (.iload 6, 2, (0, 0, 0, 0)) := by decide +kernel
theorem sm_a42_48 : sm_at 42 48 = some (.iaload, 1, (0, 0, 0, 0)) := by decide +kernel
theorem sm_a42_49 : sm_at 42 49 = some (.iload 5, 2, (0, 0, 0, 0)) := by decide +kernel
theorem sm_a42_51 : sm_at 42 51 = some (.iload_n 2, 1, (0, 0, 0, 0)) := by decide +kernel
theorem sm_a42_52 : sm_at 42 52 = some (.iconst 1, 1, (0, 0, 0, 0)) := by decide +kernel
theorem sm_a42_53 : sm_at 42 53 = some (.isub, 1, (0, 0, 0, 0)) := by decide +kernel
theorem sm_a42_54 : sm_at 42 54 = some (.ishr, 1, (0, 0, 0, 0)) := by decide +kernel
theorem sm_a42_55 : sm_at 42 55 = some (.iconst 1, 1, (0, 0, 0, 0)) := by decide +kernel
theorem sm_a42_56 : sm_at 42 56 = some (.iand, 1, (0, 0, 0, 0)) := by decide +kernel
theorem sm_a42_57 : sm_at 42 57 = some (.if_icmp .eq 7, 3, (0, 0, 0, 0)) := by decide +kernel
theorem sm_a42_60 : sm_at 42 60 = some (.iconst 1, 1, (0, 0, 0, 0)) := by decide +kernel
theorem sm_a42_61 : sm_at 42 61 = some (.goto 4, 3, (0, 0, 0, 0)) := by decide +kernel
theorem sm_a42_64 : sm_at 42 64 = some (.iconst 0, 1, (0, 0, 0, 0)) := by decide +kernel
theorem sm_a42_65 : sm_at 42 65 = some (.istore 7, 2, (0, 0, 0, 0)) := by decide +kernel
theorem sm_a42_67 : sm_at 42 67 = some (.iload 5, 2, (0, 0, 0, 0)) := by decide +kernel
theorem sm_a42_69 : sm_at 42 69 = some (.iconst 1, 1, (0, 0, 0, 0)) := by decide +kernel
theorem sm_a42_70 : sm_at 42 70 = some (.ishl, 1, (0, 0, 0, 0)) := by decide +kernel
theorem sm_a42_71 : sm_at 42 71 = some (.iload_n 3, 1, (0, 0, 0, 0)) := by decide +kernel
theorem sm_a42_72 : sm_at 42 72 = some (.iand, 1, (0, 0, 0, 0)) := by decide +kernel
theorem sm_a42_73 : sm_at 42 73 = some (.istore 5, 2, (0, 0, 0, 0)) := by decide +kernel
theorem sm_a42_75 : sm_at 42 75 = some (.iload 7, 2, (0, 0, 0, 0)) := by decide +kernel
theorem sm_a42_77 : sm_at 42 77 = some (.ifCond .eq 10, 3, (0, 0, 0, 0)) := by decide +kernel
theorem sm_a42_80 : sm_at 42 80 = some (.iload 5, 2, (0, 0, 0, 0)) := by decide +kernel
theorem sm_a42_82 : sm_at 42 82 = some (.iload 4, 2, (0, 0, 0, 0)) := by decide +kernel
theorem sm_a42_84 : sm_at 42 84 = some (.ixor, 1, (0, 0, 0, 0)) := by decide +kernel
theorem sm_a42_85 : sm_at 42 85 = some (.istore 5, 2, (0, 0, 0, 0)) := by decide +kernel
theorem sm_a42_87 : sm_at 42 87 = some (.iinc 6 1, 3, (0, 0, 0, 0)) := by decide +kernel
theorem sm_a42_90 : sm_at 42 90 = some (.goto (-64), 3, (0, 0, 0, 0)) := by decide +kernel
theorem sm_a42_93 : sm_at 42 93 = some (.iload 5, 2, (0, 0, 0, 0)) := by decide +kernel
theorem sm_a42_95 : sm_at 42 95 = some (.iload_n 3, 1, (0, 0, 0, 0)) := by decide +kernel
theorem sm_a42_96 : sm_at 42 96 = some (.ixor, 1, (0, 0, 0, 0)) := by decide +kernel
theorem sm_a42_97 : sm_at 42 97 = some (.ireturn, 1, (0, 0, 0, 0)) := by decide +kernel
theorem bb_42_0 {d : Nat} {M : sm_M} {Q : Option sm_V → sm_M → Prop} {a0 : Nat} {x1 : Int32} {x2 : Int32} {z3 : Option sm_V} {z4 : Option sm_V} {z5 : Option sm_V} {z6 : Option sm_V} {z7 : Option sm_V}
    (h : ((¬ x2 = 5 → sm_Run d 42 26 [some (.inr (some a0)), some (.inl x1), some (.inl x2), some (.inl ((1 <<< (x2 &&& 31)) - 1)), some (.inl 32773), some (.inl ((1 <<< (x2 &&& 31)) - 1)), some (.inl 16), z7] [] M Q) ∧ (¬ (¬ x2 = 5) → sm_Run d 42 26 [some (.inr (some a0)), some (.inl x1), some (.inl x2), some (.inl ((1 <<< (x2 &&& 31)) - 1)), some (.inl 5), some (.inl ((1 <<< (x2 &&& 31)) - 1)), some (.inl 16), z7] [] M Q))) :
    sm_Run d 42 0 [some (.inr (some a0)), some (.inl x1), some (.inl x2), z3, z4, z5, z6, z7] [] M Q := by
  refine ru_go (t := (1, [some (.inr (some a0)), some (.inl x1), some (.inl x2), z3, z4, z5, z6, z7], [.inl 1], M)) sm_a42_0 rfl rfl (st_iconst (by decide)) ?_
  refine ru_go (t := (2, [some (.inr (some a0)), some (.inl x1), some (.inl x2), z3, z4, z5, z6, z7], [.inl x2, .inl 1], M)) sm_a42_1 rfl rfl rfl ?_
  refine ru_go (t := (3, [some (.inr (some a0)), some (.inl x1), some (.inl x2), z3, z4, z5, z6, z7], [.inl (1 <<< (x2 &&& 31))], M)) sm_a42_2 rfl rfl rfl ?_
  refine ru_go (t := (4, [some (.inr (some a0)), some (.inl x1), some (.inl x2), z3, z4, z5, z6, z7], [.inl 1, .inl (1 <<< (x2 &&& 31))], M)) sm_a42_3 rfl rfl (st_iconst (by decide)) ?_
  refine ru_go (t := (5, [some (.inr (some a0)), some (.inl x1), some (.inl x2), z3, z4, z5, z6, z7], [.inl ((1 <<< (x2 &&& 31)) - 1)], M)) sm_a42_4 rfl rfl rfl ?_
  refine ru_go (t := (6, [some (.inr (some a0)), some (.inl x1), some (.inl x2), some (.inl ((1 <<< (x2 &&& 31)) - 1)), z4, z5, z6, z7], [], M)) sm_a42_5 rfl rfl rfl ?_
  refine ru_go (t := (7, [some (.inr (some a0)), some (.inl x1), some (.inl x2), some (.inl ((1 <<< (x2 &&& 31)) - 1)), z4, z5, z6, z7], [.inl x2], M)) sm_a42_6 rfl rfl rfl ?_
  refine ru_go (t := (8, [some (.inr (some a0)), some (.inl x1), some (.inl x2), some (.inl ((1 <<< (x2 &&& 31)) - 1)), z4, z5, z6, z7], [.inl 5, .inl x2], M)) sm_a42_7 rfl rfl (st_iconst (by decide)) ?_
  refine ru_icmp (pc := 8) (p := 15) (p2 := 11) sm_a42_8 (by decide) rfl ⟨fun hc_1 => ?_, fun hc_1 => ?_⟩
  · have h := h.1 hc_1
    refine ru_go (t := (17, [some (.inr (some a0)), some (.inl x1), some (.inl x2), some (.inl ((1 <<< (x2 &&& 31)) - 1)), z4, z5, z6, z7], [.inl 32773], M)) sm_a42_15 rfl rfl (st_ldc (by decide)) ?_
    refine ru_go (t := (19, [some (.inr (some a0)), some (.inl x1), some (.inl x2), some (.inl ((1 <<< (x2 &&& 31)) - 1)), some (.inl 32773), z5, z6, z7], [], M)) sm_a42_17 rfl rfl rfl ?_
    refine ru_go (t := (20, [some (.inr (some a0)), some (.inl x1), some (.inl x2), some (.inl ((1 <<< (x2 &&& 31)) - 1)), some (.inl 32773), z5, z6, z7], [.inl ((1 <<< (x2 &&& 31)) - 1)], M)) sm_a42_19 rfl rfl rfl ?_
    refine ru_go (t := (22, [some (.inr (some a0)), some (.inl x1), some (.inl x2), some (.inl ((1 <<< (x2 &&& 31)) - 1)), some (.inl 32773), some (.inl ((1 <<< (x2 &&& 31)) - 1)), z6, z7], [], M)) sm_a42_20 rfl rfl rfl ?_
    refine ru_go (t := (24, [some (.inr (some a0)), some (.inl x1), some (.inl x2), some (.inl ((1 <<< (x2 &&& 31)) - 1)), some (.inl 32773), some (.inl ((1 <<< (x2 &&& 31)) - 1)), z6, z7], [.inl 16], M)) sm_a42_22 rfl rfl (st_bipush (by decide)) ?_
    refine ru_go (t := (26, [some (.inr (some a0)), some (.inl x1), some (.inl x2), some (.inl ((1 <<< (x2 &&& 31)) - 1)), some (.inl 32773), some (.inl ((1 <<< (x2 &&& 31)) - 1)), some (.inl 16), z7], [], M)) sm_a42_24 rfl rfl rfl ?_
    exact h
  · have h := h.2 hc_1
    refine ru_go (t := (12, [some (.inr (some a0)), some (.inl x1), some (.inl x2), some (.inl ((1 <<< (x2 &&& 31)) - 1)), z4, z5, z6, z7], [.inl 5], M)) sm_a42_11 rfl rfl (st_iconst (by decide)) ?_
    refine ru_go (t := (17, [some (.inr (some a0)), some (.inl x1), some (.inl x2), some (.inl ((1 <<< (x2 &&& 31)) - 1)), z4, z5, z6, z7], [.inl 5], M)) sm_a42_12 rfl rfl (st_goto (pc := 12) (by decide)) ?_
    refine ru_go (t := (19, [some (.inr (some a0)), some (.inl x1), some (.inl x2), some (.inl ((1 <<< (x2 &&& 31)) - 1)), some (.inl 5), z5, z6, z7], [], M)) sm_a42_17 rfl rfl rfl ?_
    refine ru_go (t := (20, [some (.inr (some a0)), some (.inl x1), some (.inl x2), some (.inl ((1 <<< (x2 &&& 31)) - 1)), some (.inl 5), z5, z6, z7], [.inl ((1 <<< (x2 &&& 31)) - 1)], M)) sm_a42_19 rfl rfl rfl ?_
    refine ru_go (t := (22, [some (.inr (some a0)), some (.inl x1), some (.inl x2), some (.inl ((1 <<< (x2 &&& 31)) - 1)), some (.inl 5), some (.inl ((1 <<< (x2 &&& 31)) - 1)), z6, z7], [], M)) sm_a42_20 rfl rfl rfl ?_
    refine ru_go (t := (24, [some (.inr (some a0)), some (.inl x1), some (.inl x2), some (.inl ((1 <<< (x2 &&& 31)) - 1)), some (.inl 5), some (.inl ((1 <<< (x2 &&& 31)) - 1)), z6, z7], [.inl 16], M)) sm_a42_22 rfl rfl (st_bipush (by decide)) ?_
    refine ru_go (t := (26, [some (.inr (some a0)), some (.inl x1), some (.inl x2), some (.inl ((1 <<< (x2 &&& 31)) - 1)), some (.inl 5), some (.inl ((1 <<< (x2 &&& 31)) - 1)), some (.inl 16), z7], [], M)) sm_a42_24 rfl rfl rfl ?_
    exact h
theorem bb_42_26 {d : Nat} {M : sm_M} {Q : Option sm_V → sm_M → Prop} {a0 : Nat} {x1 : Int32} {x2 : Int32} {x3 : Int32} {x4 : Int32} {x5 : Int32} {x6 : Int32} {z7 : Option sm_V}
    (h : ((x1 ≤ x6 → Q (some (.inl (x5 ^^^ x3))) M) ∧ (¬ (x1 ≤ x6) → sm_K M a0 = 9 ∧ ∃ b_3, sm_R M a0 0 = some b_3 ∧ (1 ≤ sm_K M b_3 ∧ sm_K M b_3 % 3 ≠ 0) ∧ (((Int32.ofNat (sm_L M b_3)) ≤ x6 → Q (some (.inl (x5 ^^^ x3))) M) ∧ (¬ ((Int32.ofNat (sm_L M b_3)) ≤ x6) → ∃ b_7, sm_R M a0 0 = some b_7 ∧ sm_iA M b_7 ∧ sm_in_ M b_7 x6 ∧ (((sm_I M b_7 (x6).toNatClampNeg) = ((x5 >>> ((x2 - 1) &&& 31)) &&& 1) → sm_Run d 42 26 [some (.inr (some a0)), some (.inl x1), some (.inl x2), some (.inl x3), some (.inl x4), some (.inl ((x5 <<< (1 &&& 31)) &&& x3)), some (.inl (x6 + 1)), some (.inl 0)] [] M Q) ∧ (¬ ((sm_I M b_7 (x6).toNatClampNeg) = ((x5 >>> ((x2 - 1) &&& 31)) &&& 1)) → sm_Run d 42 26 [some (.inr (some a0)), some (.inl x1), some (.inl x2), some (.inl x3), some (.inl x4), some (.inl (((x5 <<< (1 &&& 31)) &&& x3) ^^^ x4)), some (.inl (x6 + 1)), some (.inl 1)] [] M Q))))))) :
    sm_Run d 42 26 [some (.inr (some a0)), some (.inl x1), some (.inl x2), some (.inl x3), some (.inl x4), some (.inl x5), some (.inl x6), z7] [] M Q := by
  refine ru_go (t := (28, [some (.inr (some a0)), some (.inl x1), some (.inl x2), some (.inl x3), some (.inl x4), some (.inl x5), some (.inl x6), z7], [.inl x6], M)) sm_a42_26 rfl rfl rfl ?_
  refine ru_go (t := (29, [some (.inr (some a0)), some (.inl x1), some (.inl x2), some (.inl x3), some (.inl x4), some (.inl x5), some (.inl x6), z7], [.inl x1, .inl x6], M)) sm_a42_28 rfl rfl rfl ?_
  refine ru_icmp (pc := 29) (p := 93) (p2 := 32) sm_a42_29 (by decide) rfl ⟨fun hc_1 => ?_, fun hc_1 => ?_⟩
  · have h := h.1 hc_1
    refine ru_go (t := (95, [some (.inr (some a0)), some (.inl x1), some (.inl x2), some (.inl x3), some (.inl x4), some (.inl x5), some (.inl x6), z7], [.inl x5], M)) sm_a42_93 rfl rfl rfl ?_
    refine ru_go (t := (96, [some (.inr (some a0)), some (.inl x1), some (.inl x2), some (.inl x3), some (.inl x4), some (.inl x5), some (.inl x6), z7], [.inl x3, .inl x5], M)) sm_a42_95 rfl rfl rfl ?_
    refine ru_go (t := (97, [some (.inr (some a0)), some (.inl x1), some (.inl x2), some (.inl x3), some (.inl x4), some (.inl x5), some (.inl x6), z7], [.inl (x5 ^^^ x3)], M)) sm_a42_96 rfl rfl rfl ?_
    exact ru_ret sm_a42_97 rfl h
  · have h := h.2 hc_1
    refine ru_go (t := (34, [some (.inr (some a0)), some (.inl x1), some (.inl x2), some (.inl x3), some (.inl x4), some (.inl x5), some (.inl x6), z7], [.inl x6], M)) sm_a42_32 rfl rfl rfl ?_
    refine ru_go (t := (35, [some (.inr (some a0)), some (.inl x1), some (.inl x2), some (.inl x3), some (.inl x4), some (.inl x5), some (.inl x6), z7], [.inr (some a0), .inl x6], M)) sm_a42_34 rfl rfl rfl ?_
    obtain ⟨h_2, h⟩ := h
    refine ru_go (t := (38, [some (.inr (some a0)), some (.inl x1), some (.inl x2), some (.inl x3), some (.inl x4), some (.inl x5), some (.inl x6), z7], [.inr (sm_R M a0 0), .inl x6], M)) sm_a42_35 rfl rfl (st_getR h_2 rfl rfl) ?_
    obtain ⟨b_3, hb_4, h⟩ := h
    rw [hb_4]
    obtain ⟨h_5, h⟩ := h
    refine ru_go (t := (39, [some (.inr (some a0)), some (.inl x1), some (.inl x2), some (.inl x3), some (.inl x4), some (.inl x5), some (.inl x6), z7], [.inl (Int32.ofNat (sm_L M b_3)), .inl x6], M)) sm_a42_38 rfl rfl (st_alen h_5) ?_
    refine ru_icmp (pc := 39) (p := 93) (p2 := 42) sm_a42_39 (by decide) rfl ⟨fun hc_6 => ?_, fun hc_6 => ?_⟩
    · have h := h.1 hc_6
      refine ru_go (t := (95, [some (.inr (some a0)), some (.inl x1), some (.inl x2), some (.inl x3), some (.inl x4), some (.inl x5), some (.inl x6), z7], [.inl x5], M)) sm_a42_93 rfl rfl rfl ?_
      refine ru_go (t := (96, [some (.inr (some a0)), some (.inl x1), some (.inl x2), some (.inl x3), some (.inl x4), some (.inl x5), some (.inl x6), z7], [.inl x3, .inl x5], M)) sm_a42_95 rfl rfl rfl ?_
      refine ru_go (t := (97, [some (.inr (some a0)), some (.inl x1), some (.inl x2), some (.inl x3), some (.inl x4), some (.inl x5), some (.inl x6), z7], [.inl (x5 ^^^ x3)], M)) sm_a42_96 rfl rfl rfl ?_
      exact ru_ret sm_a42_97 rfl h
    · have h := h.2 hc_6
      refine ru_go (t := (43, [some (.inr (some a0)), some (.inl x1), some (.inl x2), some (.inl x3), some (.inl x4), some (.inl x5), some (.inl x6), z7], [.inr (some a0)], M)) sm_a42_42 rfl rfl rfl ?_
      refine ru_go (t := (46, [some (.inr (some a0)), some (.inl x1), some (.inl x2), some (.inl x3), some (.inl x4), some (.inl x5), some (.inl x6), z7], [.inr (sm_R M a0 0)], M)) sm_a42_43 rfl rfl (st_getR h_2 rfl rfl) ?_
      refine ru_go (t := (48, [some (.inr (some a0)), some (.inl x1), some (.inl x2), some (.inl x3), some (.inl x4), some (.inl x5), some (.inl x6), z7], [.inl x6, .inr (sm_R M a0 0)], M)) sm_a42_46 rfl rfl rfl ?_
      obtain ⟨b_7, hb_8, h⟩ := h
      rw [hb_8]
      obtain ⟨h_9, h⟩ := h
      obtain ⟨h_10, h⟩ := h
      refine ru_go (t := (49, [some (.inr (some a0)), some (.inl x1), some (.inl x2), some (.inl x3), some (.inl x4), some (.inl x5), some (.inl x6), z7], [.inl (sm_I M b_7 (x6).toNatClampNeg)], M)) sm_a42_48 rfl rfl (st_iald h_9 h_10) ?_
      refine ru_go (t := (51, [some (.inr (some a0)), some (.inl x1), some (.inl x2), some (.inl x3), some (.inl x4), some (.inl x5), some (.inl x6), z7], [.inl x5, .inl (sm_I M b_7 (x6).toNatClampNeg)], M)) sm_a42_49 rfl rfl rfl ?_
      refine ru_go (t := (52, [some (.inr (some a0)), some (.inl x1), some (.inl x2), some (.inl x3), some (.inl x4), some (.inl x5), some (.inl x6), z7], [.inl x2, .inl x5, .inl (sm_I M b_7 (x6).toNatClampNeg)], M)) sm_a42_51 rfl rfl rfl ?_
      refine ru_go (t := (53, [some (.inr (some a0)), some (.inl x1), some (.inl x2), some (.inl x3), some (.inl x4), some (.inl x5), some (.inl x6), z7], [.inl 1, .inl x2, .inl x5, .inl (sm_I M b_7 (x6).toNatClampNeg)], M)) sm_a42_52 rfl rfl (st_iconst (by decide)) ?_
      refine ru_go (t := (54, [some (.inr (some a0)), some (.inl x1), some (.inl x2), some (.inl x3), some (.inl x4), some (.inl x5), some (.inl x6), z7], [.inl (x2 - 1), .inl x5, .inl (sm_I M b_7 (x6).toNatClampNeg)], M)) sm_a42_53 rfl rfl rfl ?_
      refine ru_go (t := (55, [some (.inr (some a0)), some (.inl x1), some (.inl x2), some (.inl x3), some (.inl x4), some (.inl x5), some (.inl x6), z7], [.inl (x5 >>> ((x2 - 1) &&& 31)), .inl (sm_I M b_7 (x6).toNatClampNeg)], M)) sm_a42_54 rfl rfl rfl ?_
      refine ru_go (t := (56, [some (.inr (some a0)), some (.inl x1), some (.inl x2), some (.inl x3), some (.inl x4), some (.inl x5), some (.inl x6), z7], [.inl 1, .inl (x5 >>> ((x2 - 1) &&& 31)), .inl (sm_I M b_7 (x6).toNatClampNeg)], M)) sm_a42_55 rfl rfl (st_iconst (by decide)) ?_
      refine ru_go (t := (57, [some (.inr (some a0)), some (.inl x1), some (.inl x2), some (.inl x3), some (.inl x4), some (.inl x5), some (.inl x6), z7], [.inl ((x5 >>> ((x2 - 1) &&& 31)) &&& 1), .inl (sm_I M b_7 (x6).toNatClampNeg)], M)) sm_a42_56 rfl rfl rfl ?_
      refine ru_icmp (pc := 57) (p := 64) (p2 := 60) sm_a42_57 (by decide) rfl ⟨fun hc_11 => ?_, fun hc_11 => ?_⟩
      · have h := h.1 hc_11
        refine ru_go (t := (65, [some (.inr (some a0)), some (.inl x1), some (.inl x2), some (.inl x3), some (.inl x4), some (.inl x5), some (.inl x6), z7], [.inl 0], M)) sm_a42_64 rfl rfl (st_iconst (by decide)) ?_
        refine ru_go (t := (67, [some (.inr (some a0)), some (.inl x1), some (.inl x2), some (.inl x3), some (.inl x4), some (.inl x5), some (.inl x6), some (.inl 0)], [], M)) sm_a42_65 rfl rfl rfl ?_
        refine ru_go (t := (69, [some (.inr (some a0)), some (.inl x1), some (.inl x2), some (.inl x3), some (.inl x4), some (.inl x5), some (.inl x6), some (.inl 0)], [.inl x5], M)) sm_a42_67 rfl rfl rfl ?_
        refine ru_go (t := (70, [some (.inr (some a0)), some (.inl x1), some (.inl x2), some (.inl x3), some (.inl x4), some (.inl x5), some (.inl x6), some (.inl 0)], [.inl 1, .inl x5], M)) sm_a42_69 rfl rfl (st_iconst (by decide)) ?_
        refine ru_go (t := (71, [some (.inr (some a0)), some (.inl x1), some (.inl x2), some (.inl x3), some (.inl x4), some (.inl x5), some (.inl x6), some (.inl 0)], [.inl (x5 <<< (1 &&& 31))], M)) sm_a42_70 rfl rfl rfl ?_
        refine ru_go (t := (72, [some (.inr (some a0)), some (.inl x1), some (.inl x2), some (.inl x3), some (.inl x4), some (.inl x5), some (.inl x6), some (.inl 0)], [.inl x3, .inl (x5 <<< (1 &&& 31))], M)) sm_a42_71 rfl rfl rfl ?_
        refine ru_go (t := (73, [some (.inr (some a0)), some (.inl x1), some (.inl x2), some (.inl x3), some (.inl x4), some (.inl x5), some (.inl x6), some (.inl 0)], [.inl ((x5 <<< (1 &&& 31)) &&& x3)], M)) sm_a42_72 rfl rfl rfl ?_
        refine ru_go (t := (75, [some (.inr (some a0)), some (.inl x1), some (.inl x2), some (.inl x3), some (.inl x4), some (.inl ((x5 <<< (1 &&& 31)) &&& x3)), some (.inl x6), some (.inl 0)], [], M)) sm_a42_73 rfl rfl rfl ?_
        refine ru_go (t := (77, [some (.inr (some a0)), some (.inl x1), some (.inl x2), some (.inl x3), some (.inl x4), some (.inl ((x5 <<< (1 &&& 31)) &&& x3)), some (.inl x6), some (.inl 0)], [.inl 0], M)) sm_a42_75 rfl rfl rfl ?_
        refine ru_if (pc := 77) (p := 87) (p2 := 80) sm_a42_77 (by decide) rfl ⟨fun _ => ?_, fun hc => absurd (show sm_cP .eq 0 0 from (by show (0 : Int32) = 0; decide)) hc⟩
        refine ru_go (t := (90, [some (.inr (some a0)), some (.inl x1), some (.inl x2), some (.inl x3), some (.inl x4), some (.inl ((x5 <<< (1 &&& 31)) &&& x3)), some (.inl (x6 + 1)), some (.inl 0)], [], M)) sm_a42_87 rfl rfl (st_iinc rfl (by decide)) ?_
        refine ru_go (t := (26, [some (.inr (some a0)), some (.inl x1), some (.inl x2), some (.inl x3), some (.inl x4), some (.inl ((x5 <<< (1 &&& 31)) &&& x3)), some (.inl (x6 + 1)), some (.inl 0)], [], M)) sm_a42_90 rfl rfl (st_goto (pc := 90) (by decide)) ?_
        exact h
      · have h := h.2 hc_11
        refine ru_go (t := (61, [some (.inr (some a0)), some (.inl x1), some (.inl x2), some (.inl x3), some (.inl x4), some (.inl x5), some (.inl x6), z7], [.inl 1], M)) sm_a42_60 rfl rfl (st_iconst (by decide)) ?_
        refine ru_go (t := (65, [some (.inr (some a0)), some (.inl x1), some (.inl x2), some (.inl x3), some (.inl x4), some (.inl x5), some (.inl x6), z7], [.inl 1], M)) sm_a42_61 rfl rfl (st_goto (pc := 61) (by decide)) ?_
        refine ru_go (t := (67, [some (.inr (some a0)), some (.inl x1), some (.inl x2), some (.inl x3), some (.inl x4), some (.inl x5), some (.inl x6), some (.inl 1)], [], M)) sm_a42_65 rfl rfl rfl ?_
        refine ru_go (t := (69, [some (.inr (some a0)), some (.inl x1), some (.inl x2), some (.inl x3), some (.inl x4), some (.inl x5), some (.inl x6), some (.inl 1)], [.inl x5], M)) sm_a42_67 rfl rfl rfl ?_
        refine ru_go (t := (70, [some (.inr (some a0)), some (.inl x1), some (.inl x2), some (.inl x3), some (.inl x4), some (.inl x5), some (.inl x6), some (.inl 1)], [.inl 1, .inl x5], M)) sm_a42_69 rfl rfl (st_iconst (by decide)) ?_
        refine ru_go (t := (71, [some (.inr (some a0)), some (.inl x1), some (.inl x2), some (.inl x3), some (.inl x4), some (.inl x5), some (.inl x6), some (.inl 1)], [.inl (x5 <<< (1 &&& 31))], M)) sm_a42_70 rfl rfl rfl ?_
        refine ru_go (t := (72, [some (.inr (some a0)), some (.inl x1), some (.inl x2), some (.inl x3), some (.inl x4), some (.inl x5), some (.inl x6), some (.inl 1)], [.inl x3, .inl (x5 <<< (1 &&& 31))], M)) sm_a42_71 rfl rfl rfl ?_
        refine ru_go (t := (73, [some (.inr (some a0)), some (.inl x1), some (.inl x2), some (.inl x3), some (.inl x4), some (.inl x5), some (.inl x6), some (.inl 1)], [.inl ((x5 <<< (1 &&& 31)) &&& x3)], M)) sm_a42_72 rfl rfl rfl ?_
        refine ru_go (t := (75, [some (.inr (some a0)), some (.inl x1), some (.inl x2), some (.inl x3), some (.inl x4), some (.inl ((x5 <<< (1 &&& 31)) &&& x3)), some (.inl x6), some (.inl 1)], [], M)) sm_a42_73 rfl rfl rfl ?_
        refine ru_go (t := (77, [some (.inr (some a0)), some (.inl x1), some (.inl x2), some (.inl x3), some (.inl x4), some (.inl ((x5 <<< (1 &&& 31)) &&& x3)), some (.inl x6), some (.inl 1)], [.inl 1], M)) sm_a42_75 rfl rfl rfl ?_
        refine ru_if (pc := 77) (p := 87) (p2 := 80) sm_a42_77 (by decide) rfl ⟨fun hc => absurd (show (1 : Int32) = 0 from hc) (by decide), fun _ => ?_⟩
        refine ru_go (t := (82, [some (.inr (some a0)), some (.inl x1), some (.inl x2), some (.inl x3), some (.inl x4), some (.inl ((x5 <<< (1 &&& 31)) &&& x3)), some (.inl x6), some (.inl 1)], [.inl ((x5 <<< (1 &&& 31)) &&& x3)], M)) sm_a42_80 rfl rfl rfl ?_
        refine ru_go (t := (84, [some (.inr (some a0)), some (.inl x1), some (.inl x2), some (.inl x3), some (.inl x4), some (.inl ((x5 <<< (1 &&& 31)) &&& x3)), some (.inl x6), some (.inl 1)], [.inl x4, .inl ((x5 <<< (1 &&& 31)) &&& x3)], M)) sm_a42_82 rfl rfl rfl ?_
        refine ru_go (t := (85, [some (.inr (some a0)), some (.inl x1), some (.inl x2), some (.inl x3), some (.inl x4), some (.inl ((x5 <<< (1 &&& 31)) &&& x3)), some (.inl x6), some (.inl 1)], [.inl (((x5 <<< (1 &&& 31)) &&& x3) ^^^ x4)], M)) sm_a42_84 rfl rfl rfl ?_
        refine ru_go (t := (87, [some (.inr (some a0)), some (.inl x1), some (.inl x2), some (.inl x3), some (.inl x4), some (.inl (((x5 <<< (1 &&& 31)) &&& x3) ^^^ x4)), some (.inl x6), some (.inl 1)], [], M)) sm_a42_85 rfl rfl rfl ?_
        refine ru_go (t := (90, [some (.inr (some a0)), some (.inl x1), some (.inl x2), some (.inl x3), some (.inl x4), some (.inl (((x5 <<< (1 &&& 31)) &&& x3) ^^^ x4)), some (.inl (x6 + 1)), some (.inl 1)], [], M)) sm_a42_87 rfl rfl (st_iinc rfl (by decide)) ?_
        refine ru_go (t := (26, [some (.inr (some a0)), some (.inl x1), some (.inl x2), some (.inl x3), some (.inl x4), some (.inl (((x5 <<< (1 &&& 31)) &&& x3) ^^^ x4)), some (.inl (x6 + 1)), some (.inl 1)], [], M)) sm_a42_90 rfl rfl (st_goto (pc := 90) (by decide)) ?_
        exact h

/-! WireBus$Coder.addLevel:(I)V -/
theorem sm_a43_0 : sm_at 43 0 = some (.aload_n 0, 1, (0, 0, 0, 0)) := by decide +kernel
theorem sm_a43_1 : sm_at 43 1 = some (.getfield 22, 3, (2, 3, 0, 195)) := by decide +kernel
theorem sm_a43_4 : sm_at 43 4 = some (.aload_n 0, 1, (0, 0, 0, 0)) := by decide +kernel
theorem sm_a43_5 : sm_at 43 5 = some (.getfield 15, 3, (2, 2, 0, 193)) := by decide +kernel
theorem sm_a43_8 : sm_at 43 8 = some (.arraylength, 1, (0, 0, 0, 0)) := by decide +kernel
theorem sm_a43_9 : sm_at 43 9 = some (.if_icmp .ge 23, 3, (0, 0, 0, 0)) := by decide +kernel
theorem sm_a43_12 : sm_at 43 12 = some (.aload_n 0, 1, (0, 0, 0, 0)) := by decide +kernel
theorem sm_a43_13 : sm_at 43 13 = some (.getfield 15, 3, (2, 2, 0, 193)) := by decide +kernel
theorem sm_a43_16 : sm_at 43 16 = some (.aload_n 0, 1, (0, 0, 0, 0)) := by decide +kernel
theorem sm_a43_17 : sm_at 43 17 = some (.getfield 22, 3, (2, 3, 0, 195)) := by decide +kernel
theorem sm_a43_20 : sm_at 43 20 = some (.iload_n 1, 1, (0, 0, 0, 0)) := by decide +kernel
theorem sm_a43_21 : sm_at 43 21 = some (.iastore, 1, (0, 0, 0, 0)) := by decide +kernel
theorem sm_a43_22 : sm_at 43 22 = some (.aload_n 0, 1, (0, 0, 0, 0)) := by decide +kernel
theorem sm_a43_23 : sm_at 43 23 = some (.dup, 1, (0, 0, 0, 0)) := by decide +kernel
theorem sm_a43_24 : sm_at 43 24 = some (.getfield 22, 3, (2, 3, 0, 195)) := by decide +kernel
theorem sm_a43_27 : sm_at 43 27 = some (.iconst 1, 1, (0, 0, 0, 0)) := by decide +kernel
theorem sm_a43_28 : sm_at 43 28 = some (.iadd, 1, (0, 0, 0, 0)) := by decide +kernel
theorem sm_a43_29 : sm_at 43 29 = some (.putfield 22, 3, (2, 3, 0, 195)) := by decide +kernel
theorem sm_a43_32 : sm_at 43 32 = some (.return_, 1, (0, 0, 0, 0)) := by decide +kernel
theorem bb_43_0 {d : Nat} {M : sm_M} {Q : Option sm_V → sm_M → Prop} {a0 : Nat} {x1 : Int32}
    (h : sm_K M a0 = 9 ∧ ∃ b_2, sm_R M a0 2 = some b_2 ∧ (1 ≤ sm_K M b_2 ∧ sm_K M b_2 % 3 ≠ 0) ∧ (((Int32.ofNat (sm_L M b_2)) ≤ (sm_I M a0 3) → Q none M) ∧ (¬ ((Int32.ofNat (sm_L M b_2)) ≤ (sm_I M a0 3)) → ∃ b_6, sm_R M a0 2 = some b_6 ∧ sm_wA 0 M b_6 ∧ sm_in_ M b_6 (sm_I M a0 3) ∧ Q none (sm_putI (sm_putI M b_6 (sm_I M a0 3).toNatClampNeg x1) a0 3 ((sm_I (sm_putI M b_6 (sm_I M a0 3).toNatClampNeg x1) a0 3) + 1))))) :
    sm_Run d 43 0 [some (.inr (some a0)), some (.inl x1)] [] M Q := by
  refine ru_go (t := (1, [some (.inr (some a0)), some (.inl x1)], [.inr (some a0)], M)) sm_a43_0 rfl rfl rfl ?_
  obtain ⟨h_1, h⟩ := h
  refine ru_go (t := (4, [some (.inr (some a0)), some (.inl x1)], [.inl (sm_I M a0 3)], M)) sm_a43_1 rfl rfl (st_getI h_1 rfl) ?_
  refine ru_go (t := (5, [some (.inr (some a0)), some (.inl x1)], [.inr (some a0), .inl (sm_I M a0 3)], M)) sm_a43_4 rfl rfl rfl ?_
  refine ru_go (t := (8, [some (.inr (some a0)), some (.inl x1)], [.inr (sm_R M a0 2), .inl (sm_I M a0 3)], M)) sm_a43_5 rfl rfl (st_getR h_1 rfl rfl) ?_
  obtain ⟨b_2, hb_3, h⟩ := h
  rw [hb_3]
  obtain ⟨h_4, h⟩ := h
  refine ru_go (t := (9, [some (.inr (some a0)), some (.inl x1)], [.inl (Int32.ofNat (sm_L M b_2)), .inl (sm_I M a0 3)], M)) sm_a43_8 rfl rfl (st_alen h_4) ?_
  refine ru_icmp (pc := 9) (p := 32) (p2 := 12) sm_a43_9 (by decide) rfl ⟨fun hc_5 => ?_, fun hc_5 => ?_⟩
  · have h := h.1 hc_5
    exact ru_ret sm_a43_32 (sm_rvv rfl) h
  · have h := h.2 hc_5
    refine ru_go (t := (13, [some (.inr (some a0)), some (.inl x1)], [.inr (some a0)], M)) sm_a43_12 rfl rfl rfl ?_
    refine ru_go (t := (16, [some (.inr (some a0)), some (.inl x1)], [.inr (sm_R M a0 2)], M)) sm_a43_13 rfl rfl (st_getR h_1 rfl rfl) ?_
    refine ru_go (t := (17, [some (.inr (some a0)), some (.inl x1)], [.inr (some a0), .inr (sm_R M a0 2)], M)) sm_a43_16 rfl rfl rfl ?_
    refine ru_go (t := (20, [some (.inr (some a0)), some (.inl x1)], [.inl (sm_I M a0 3), .inr (sm_R M a0 2)], M)) sm_a43_17 rfl rfl (st_getI h_1 rfl) ?_
    refine ru_go (t := (21, [some (.inr (some a0)), some (.inl x1)], [.inl x1, .inl (sm_I M a0 3), .inr (sm_R M a0 2)], M)) sm_a43_20 rfl rfl rfl ?_
    obtain ⟨b_6, hb_7, h⟩ := h
    rw [hb_7]
    obtain ⟨h_8, h⟩ := h
    obtain ⟨h_9, h⟩ := h
    refine ru_go (t := (22, [some (.inr (some a0)), some (.inl x1)], [], sm_putI M b_6 (sm_I M a0 3).toNatClampNeg x1)) sm_a43_21 rfl rfl (st_iast h_8 h_9) ?_
    refine ru_go (t := (23, [some (.inr (some a0)), some (.inl x1)], [.inr (some a0)], sm_putI M b_6 (sm_I M a0 3).toNatClampNeg x1)) sm_a43_22 rfl rfl rfl ?_
    refine ru_go (t := (24, [some (.inr (some a0)), some (.inl x1)], [.inr (some a0), .inr (some a0)], sm_putI M b_6 (sm_I M a0 3).toNatClampNeg x1)) sm_a43_23 rfl rfl rfl ?_
    refine ru_go (t := (27, [some (.inr (some a0)), some (.inl x1)], [.inl (sm_I (sm_putI M b_6 (sm_I M a0 3).toNatClampNeg x1) a0 3), .inr (some a0)], sm_putI M b_6 (sm_I M a0 3).toNatClampNeg x1)) sm_a43_24 rfl rfl (st_getI h_1 rfl) ?_
    refine ru_go (t := (28, [some (.inr (some a0)), some (.inl x1)], [.inl 1, .inl (sm_I (sm_putI M b_6 (sm_I M a0 3).toNatClampNeg x1) a0 3), .inr (some a0)], sm_putI M b_6 (sm_I M a0 3).toNatClampNeg x1)) sm_a43_27 rfl rfl (st_iconst (by decide)) ?_
    refine ru_go (t := (29, [some (.inr (some a0)), some (.inl x1)], [.inl ((sm_I (sm_putI M b_6 (sm_I M a0 3).toNatClampNeg x1) a0 3) + 1), .inr (some a0)], sm_putI M b_6 (sm_I M a0 3).toNatClampNeg x1)) sm_a43_28 rfl rfl rfl ?_
    refine ru_go (t := (32, [some (.inr (some a0)), some (.inl x1)], [], sm_putI (sm_putI M b_6 (sm_I M a0 3).toNatClampNeg x1) a0 3 ((sm_I (sm_putI M b_6 (sm_I M a0 3).toNatClampNeg x1) a0 3) + 1))) sm_a43_29 rfl rfl (st_putI h_1 rfl) ?_
    exact ru_ret sm_a43_32 (sm_rvv rfl) h

/-! WireBus$Coder.layLevels:()V -/
theorem sm_a44_0 : sm_at 44 0 = some (.iconst 1, 1, (0, 0, 0, 0)) := by decide +kernel
theorem sm_a44_1 : sm_at 44 1 = some (.istore_n 1, 1, (0, 0, 0, 0)) := by decide +kernel
theorem sm_a44_2 : sm_at 44 2 = some (.iconst 0, 1, (0, 0, 0, 0)) := by decide +kernel
theorem sm_a44_3 : sm_at 44 3 = some (.istore_n 2, 1, (0, 0, 0, 0)) := by decide +kernel
theorem sm_a44_4 : sm_at 44 4 = some (.iconst 0, 1, (0, 0, 0, 0)) := by decide +kernel
theorem sm_a44_5 : sm_at 44 5 = some (.istore_n 3, 1, (0, 0, 0, 0)) := by decide +kernel
theorem sm_a44_6 : sm_at 44 6 = some (.iload_n 3, 1, (0, 0, 0, 0)) := by decide +kernel
theorem sm_a44_7 : sm_at 44 7 = some (.aload_n 0, 1, (0, 0, 0, 0)) := by decide +kernel
theorem sm_a44_8 : sm_at 44 8 = some (.getfield 18, 3, (2, 1, 0, 192)) := by decide +kernel
theorem sm_a44_11 : sm_at 44 11 = some (.if_icmp .ge 69, 3, (0, 0, 0, 0)) := by decide +kernel
theorem sm_a44_14 : sm_at 44 14 = some (.aload_n 0, 1, (0, 0, 0, 0)) := by decide +kernel
theorem sm_a44_15 : sm_at 44 15 = some (.getfield 9, 3, (2, 0, 0, 191)) := by decide +kernel
theorem sm_a44_18 : sm_at 44 18 = some (.iload_n 3, 1, (0, 0, 0, 0)) := by decide +kernel
theorem sm_a44_19 : sm_at 44 19 = some (.iaload, 1, (0, 0, 0, 0)) := by decide +kernel
theorem sm_a44_20 : sm_at 44 20 = some (.iconst 1, 1, (0, 0, 0, 0)) := by decide +kernel
theorem sm_a44_21 : sm_at 44 21 = some (.if_icmp .ne 7, 3, (0, 0, 0, 0)) := by decide +kernel
theorem sm_a44_24 : sm_at 44 24 = some (.iload_n 1, 1, (0, 0, 0, 0)) := by decide +kernel
theorem sm_a44_25 : sm_at 44 25 = some (.goto 7, 3, (0, 0, 0, 0)) := by decide +kernel
theorem sm_a44_28 : sm_at 44 28 = some (.iload_n 1, 1, (0, 0, 0, 0)) := by decide +kernel
theorem sm_a44_29 : sm_at 44 29 = some (.invokestatic 64, 3, (12, 45, 2, 811)) := by decide +kernel
theorem sm_a44_32 : sm_at 44 32 = some (.istore_n 1, 1, (0, 0, 0, 0)) := by decide +kernel
theorem sm_a44_33 : sm_at 44 33 = some (.aload_n 0, 1, (0, 0, 0, 0)) := by decide +kernel
theorem sm_a44_34 : sm_at 44 34 = some (.getfield 9, 3, (2, 0, 0, 191)) := by decide +kernel
theorem sm_a44_37 : sm_at 44 37 = some (.iload_n 3, 1, (0, 0, 0, 0)) := by decide +kernel
theorem sm_a44_38 : sm_at 44 38 = some (.iaload, 1, (0, 0, 0, 0)) := by decide +kernel
theorem sm_a44_39 : sm_at 44 39 = some (.iconst 1, 1, (0, 0, 0, 0)) := by decide +kernel
theorem sm_a44_40 : sm_at 44 40 = some (.if_icmp .ne 9, 3, (0, 0, 0, 0)) := by decide +kernel
theorem sm_a44_43 : sm_at 44 43 = some (.iload_n 2, 1, (0, 0, 0, 0)) := by decide +kernel
theorem sm_a44_44 : sm_at 44 44 = some (.iconst 1, 1, (0, 0, 0, 0)) := by decide +kernel
theorem sm_a44_45 : sm_at 44 45 = some (.iadd, 1, (0, 0, 0, 0)) := by decide +kernel
theorem sm_a44_46 : sm_at 44 46 = some (.goto 4, 3, (0, 0, 0, 0)) := by decide +kernel
theorem sm_a44_49 : sm_at 44 49 = some (.iconst 0, 1, (0, 0, 0, 0)) := by decide +kernel
theorem sm_a44_50 : sm_at 44 50 = some (.istore_n 2, 1, (0, 0, 0, 0)) := by decide +kernel
theorem sm_a44_51 : sm_at 44 51 = some (.aload_n 0, 1, (0, 0, 0, 0)) := by decide +kernel
theorem sm_a44_52 : sm_at 44 52 = some (.iload_n 1, 1, (0, 0, 0, 0)) := by decide +kernel
theorem sm_a44_53 : sm_at 44 53 = some (.invokevirtual 67, 3, (10, 43, 2, 814)) := by decide +kernel
theorem sm_a44_56 : sm_at 44 56 = some (.iload_n 2, 1, (0, 0, 0, 0)) := by decide +kernel
theorem sm_a44_57 : sm_at 44 57 = some (.bipush 6, 2, (0, 0, 0, 0)) := by decide +kernel
theorem sm_a44_59 : sm_at 44 59 = some (.if_icmp .ne 15, 3, (0, 0, 0, 0)) := by decide +kernel
theorem sm_a44_62 : sm_at 44 62 = some (.iload_n 1, 1, (0, 0, 0, 0)) := by decide +kernel
theorem sm_a44_63 : sm_at 44 63 = some (.invokestatic 64, 3, (12, 45, 2, 811)) := by decide +kernel
theorem sm_a44_66 : sm_at 44 66 = some (.istore_n 1, 1, (0, 0, 0, 0)) := by decide +kernel
theorem sm_a44_67 : sm_at 44 67 = some (.iconst 0, 1, (0, 0, 0, 0)) := by decide +kernel
theorem sm_a44_68 : sm_at 44 68 = some (.istore_n 2, 1, (0, 0, 0, 0)) := by decide +kernel
theorem sm_a44_69 : sm_at 44 69 = some (.aload_n 0, 1, (0, 0, 0, 0)) := by decide +kernel
theorem sm_a44_70 : sm_at 44 70 = some (.iload_n 1, 1, (0, 0, 0, 0)) := by decide +kernel
theorem sm_a44_71 : sm_at 44 71 = some (.invokevirtual 67, 3, (10, 43, 2, 814)) := by decide +kernel
theorem sm_a44_74 : sm_at 44 74 = some (.iinc 3 1, 3, (0, 0, 0, 0)) := by decide +kernel
theorem sm_a44_77 : sm_at 44 77 = some (.goto (-71), 3, (0, 0, 0, 0)) := by decide +kernel
theorem sm_a44_80 : sm_at 44 80 = some (.aload_n 0, 1, (0, 0, 0, 0)) := by decide +kernel
theorem sm_a44_81 : sm_at 44 81 = some (.iconst 2, 1, (0, 0, 0, 0)) := by decide +kernel
theorem sm_a44_82 : sm_at 44 82 = some (.invokevirtual 67, 3, (10, 43, 2, 814)) := by decide +kernel
theorem sm_a44_85 : sm_at 44 85 = some (.aload_n 0, 1, (0, 0, 0, 0)) := by decide +kernel
theorem sm_a44_86 : sm_at 44 86 = some (.iconst 2, 1, (0, 0, 0, 0)) := by decide +kernel
theorem sm_a44_87 : sm_at 44 87 = some (.invokevirtual 67, 3, (10, 43, 2, 814)) := by decide +kernel
theorem sm_a44_90 : sm_at 44 90 = some (.aload_n 0, 1, (0, 0, 0, 0)) := by decide +kernel
theorem sm_a44_91 : sm_at 44 91 = some (.iconst 1, 1, (0, 0, 0, 0)) := by decide +kernel
theorem sm_a44_92 : sm_at 44 92 = some (.invokevirtual 67, 3, (10, 43, 2, 814)) := by decide +kernel
theorem sm_a44_95 : sm_at 44 95 = some (.return_, 1, (0, 0, 0, 0)) := by decide +kernel
theorem bb_44_0 {d : Nat} {M : sm_M} {Q : Option sm_V → sm_M → Prop} {a0 : Nat} {z1 : Option sm_V} {z2 : Option sm_V} {z3 : Option sm_V}
    (h : sm_Run (d + 1) 44 6 [some (.inr (some a0)), some (.inl 1), some (.inl 0), some (.inl 0)] [] M Q) :
    sm_Run (d + 1) 44 0 [some (.inr (some a0)), z1, z2, z3] [] M Q := by
  refine ru_go (t := (1, [some (.inr (some a0)), z1, z2, z3], [.inl 1], M)) sm_a44_0 rfl rfl (st_iconst (by decide)) ?_
  refine ru_go (t := (2, [some (.inr (some a0)), some (.inl 1), z2, z3], [], M)) sm_a44_1 rfl rfl rfl ?_
  refine ru_go (t := (3, [some (.inr (some a0)), some (.inl 1), z2, z3], [.inl 0], M)) sm_a44_2 rfl rfl (st_iconst (by decide)) ?_
  refine ru_go (t := (4, [some (.inr (some a0)), some (.inl 1), some (.inl 0), z3], [], M)) sm_a44_3 rfl rfl rfl ?_
  refine ru_go (t := (5, [some (.inr (some a0)), some (.inl 1), some (.inl 0), z3], [.inl 0], M)) sm_a44_4 rfl rfl (st_iconst (by decide)) ?_
  refine ru_go (t := (6, [some (.inr (some a0)), some (.inl 1), some (.inl 0), some (.inl 0)], [], M)) sm_a44_5 rfl rfl rfl ?_
  exact h
theorem bb_44_6 {d : Nat} {M : sm_M} {Q : Option sm_V → sm_M → Prop} {a0 : Nat} {x1 : Int32} {x2 : Int32} {x3 : Int32}
    (h : sm_K M a0 = 9 ∧ (((sm_I M a0 1) ≤ x3 → sm_Run d 43 0 (sm_ent 43 [.inr (some a0), .inl 2]) [] M (fun v M1 => sm_Run (d + 1) 44 85 [some (.inr (some a0)), some (.inl x1), some (.inl x2), some (.inl x3)] (v.toList ++ []) M1 Q)) ∧ (¬ ((sm_I M a0 1) ≤ x3) → ∃ b_3, sm_R M a0 0 = some b_3 ∧ sm_iA M b_3 ∧ sm_in_ M b_3 x3 ∧ ((¬ (sm_I M b_3 (x3).toNatClampNeg) = 1 → sm_Run d 45 0 (sm_ent 45 [.inl x1]) [] M (fun v M1 => sm_Run (d + 1) 44 32 [some (.inr (some a0)), some (.inl x1), some (.inl x2), some (.inl x3)] (v.toList ++ []) M1 Q)) ∧ (¬ (¬ (sm_I M b_3 (x3).toNatClampNeg) = 1) → ∃ b_8, sm_R M a0 0 = some b_8 ∧ sm_iA M b_8 ∧ sm_in_ M b_8 x3 ∧ ((¬ (sm_I M b_8 (x3).toNatClampNeg) = 1 → sm_Run d 43 0 (sm_ent 43 [.inr (some a0), .inl x1]) [] M (fun v M1 => sm_Run (d + 1) 44 56 [some (.inr (some a0)), some (.inl x1), some (.inl 0), some (.inl x3)] (v.toList ++ []) M1 Q)) ∧ (¬ (¬ (sm_I M b_8 (x3).toNatClampNeg) = 1) → sm_Run d 43 0 (sm_ent 43 [.inr (some a0), .inl x1]) [] M (fun v M1 => sm_Run (d + 1) 44 56 [some (.inr (some a0)), some (.inl x1), some (.inl (x2 + 1)), some (.inl x3)] (v.toList ++ []) M1 Q)))))))) :
    sm_Run (d + 1) 44 6 [some (.inr (some a0)), some (.inl x1), some (.inl x2), some (.inl x3)] [] M Q := by
  refine ru_go (t := (7, [some (.inr (some a0)), some (.inl x1), some (.inl x2), some (.inl x3)], [.inl x3], M)) sm_a44_6 rfl rfl rfl ?_
  refine ru_go (t := (8, [some (.inr (some a0)), some (.inl x1), some (.inl x2), some (.inl x3)], [.inr (some a0), .inl x3], M)) sm_a44_7 rfl rfl rfl ?_
  obtain ⟨h_1, h⟩ := h
  refine ru_go (t := (11, [some (.inr (some a0)), some (.inl x1), some (.inl x2), some (.inl x3)], [.inl (sm_I M a0 1), .inl x3], M)) sm_a44_8 rfl rfl (st_getI h_1 rfl) ?_
  refine ru_icmp (pc := 11) (p := 80) (p2 := 14) sm_a44_11 (by decide) rfl ⟨fun hc_2 => ?_, fun hc_2 => ?_⟩
  · have h := h.1 hc_2
    refine ru_go (t := (81, [some (.inr (some a0)), some (.inl x1), some (.inl x2), some (.inl x3)], [.inr (some a0)], M)) sm_a44_80 rfl rfl rfl ?_
    refine ru_go (t := (82, [some (.inr (some a0)), some (.inl x1), some (.inl x2), some (.inl x3)], [.inl 2, .inr (some a0)], M)) sm_a44_81 rfl rfl (st_iconst (by decide)) ?_
    exact ru_call (p := 85) sm_a44_82 rfl (sc_virt (Or.inl rfl) rfl rfl h_1 (Nat.le_of_ble_eq_true rfl)) rfl h
  · have h := h.2 hc_2
    refine ru_go (t := (15, [some (.inr (some a0)), some (.inl x1), some (.inl x2), some (.inl x3)], [.inr (some a0)], M)) sm_a44_14 rfl rfl rfl ?_
    refine ru_go (t := (18, [some (.inr (some a0)), some (.inl x1), some (.inl x2), some (.inl x3)], [.inr (sm_R M a0 0)], M)) sm_a44_15 rfl rfl (st_getR h_1 rfl rfl) ?_
    refine ru_go (t := (19, [some (.inr (some a0)), some (.inl x1), some (.inl x2), some (.inl x3)], [.inl x3, .inr (sm_R M a0 0)], M)) sm_a44_18 rfl rfl rfl ?_
    obtain ⟨b_3, hb_4, h⟩ := h
    rw [hb_4]
    obtain ⟨h_5, h⟩ := h
    obtain ⟨h_6, h⟩ := h
    refine ru_go (t := (20, [some (.inr (some a0)), some (.inl x1), some (.inl x2), some (.inl x3)], [.inl (sm_I M b_3 (x3).toNatClampNeg)], M)) sm_a44_19 rfl rfl (st_iald h_5 h_6) ?_
    refine ru_go (t := (21, [some (.inr (some a0)), some (.inl x1), some (.inl x2), some (.inl x3)], [.inl 1, .inl (sm_I M b_3 (x3).toNatClampNeg)], M)) sm_a44_20 rfl rfl (st_iconst (by decide)) ?_
    refine ru_icmp (pc := 21) (p := 28) (p2 := 24) sm_a44_21 (by decide) rfl ⟨fun hc_7 => ?_, fun hc_7 => ?_⟩
    · have h := h.1 hc_7
      refine ru_go (t := (29, [some (.inr (some a0)), some (.inl x1), some (.inl x2), some (.inl x3)], [.inl x1], M)) sm_a44_28 rfl rfl rfl ?_
      exact ru_call (p := 32) sm_a44_29 rfl (sc_stat (Or.inl rfl) (Nat.le_of_ble_eq_true rfl) rfl rfl (Nat.le_of_ble_eq_true rfl)) rfl h
    · have h := h.2 hc_7
      refine ru_go (t := (25, [some (.inr (some a0)), some (.inl x1), some (.inl x2), some (.inl x3)], [.inl x1], M)) sm_a44_24 rfl rfl rfl ?_
      refine ru_go (t := (32, [some (.inr (some a0)), some (.inl x1), some (.inl x2), some (.inl x3)], [.inl x1], M)) sm_a44_25 rfl rfl (st_goto (pc := 25) (by decide)) ?_
      refine ru_go (t := (33, [some (.inr (some a0)), some (.inl x1), some (.inl x2), some (.inl x3)], [], M)) sm_a44_32 rfl rfl rfl ?_
      refine ru_go (t := (34, [some (.inr (some a0)), some (.inl x1), some (.inl x2), some (.inl x3)], [.inr (some a0)], M)) sm_a44_33 rfl rfl rfl ?_
      refine ru_go (t := (37, [some (.inr (some a0)), some (.inl x1), some (.inl x2), some (.inl x3)], [.inr (sm_R M a0 0)], M)) sm_a44_34 rfl rfl (st_getR h_1 rfl rfl) ?_
      refine ru_go (t := (38, [some (.inr (some a0)), some (.inl x1), some (.inl x2), some (.inl x3)], [.inl x3, .inr (sm_R M a0 0)], M)) sm_a44_37 rfl rfl rfl ?_
      obtain ⟨b_8, hb_9, h⟩ := h
      rw [hb_9]
      obtain ⟨h_10, h⟩ := h
      obtain ⟨h_11, h⟩ := h
      refine ru_go (t := (39, [some (.inr (some a0)), some (.inl x1), some (.inl x2), some (.inl x3)], [.inl (sm_I M b_8 (x3).toNatClampNeg)], M)) sm_a44_38 rfl rfl (st_iald h_10 h_11) ?_
      refine ru_go (t := (40, [some (.inr (some a0)), some (.inl x1), some (.inl x2), some (.inl x3)], [.inl 1, .inl (sm_I M b_8 (x3).toNatClampNeg)], M)) sm_a44_39 rfl rfl (st_iconst (by decide)) ?_
      refine ru_icmp (pc := 40) (p := 49) (p2 := 43) sm_a44_40 (by decide) rfl ⟨fun hc_12 => ?_, fun hc_12 => ?_⟩
      · have h := h.1 hc_12
        refine ru_go (t := (50, [some (.inr (some a0)), some (.inl x1), some (.inl x2), some (.inl x3)], [.inl 0], M)) sm_a44_49 rfl rfl (st_iconst (by decide)) ?_
        refine ru_go (t := (51, [some (.inr (some a0)), some (.inl x1), some (.inl 0), some (.inl x3)], [], M)) sm_a44_50 rfl rfl rfl ?_
        refine ru_go (t := (52, [some (.inr (some a0)), some (.inl x1), some (.inl 0), some (.inl x3)], [.inr (some a0)], M)) sm_a44_51 rfl rfl rfl ?_
        refine ru_go (t := (53, [some (.inr (some a0)), some (.inl x1), some (.inl 0), some (.inl x3)], [.inl x1, .inr (some a0)], M)) sm_a44_52 rfl rfl rfl ?_
        exact ru_call (p := 56) sm_a44_53 rfl (sc_virt (Or.inl rfl) rfl rfl h_1 (Nat.le_of_ble_eq_true rfl)) rfl h
      · have h := h.2 hc_12
        refine ru_go (t := (44, [some (.inr (some a0)), some (.inl x1), some (.inl x2), some (.inl x3)], [.inl x2], M)) sm_a44_43 rfl rfl rfl ?_
        refine ru_go (t := (45, [some (.inr (some a0)), some (.inl x1), some (.inl x2), some (.inl x3)], [.inl 1, .inl x2], M)) sm_a44_44 rfl rfl (st_iconst (by decide)) ?_
        refine ru_go (t := (46, [some (.inr (some a0)), some (.inl x1), some (.inl x2), some (.inl x3)], [.inl (x2 + 1)], M)) sm_a44_45 rfl rfl rfl ?_
        refine ru_go (t := (50, [some (.inr (some a0)), some (.inl x1), some (.inl x2), some (.inl x3)], [.inl (x2 + 1)], M)) sm_a44_46 rfl rfl (st_goto (pc := 46) (by decide)) ?_
        refine ru_go (t := (51, [some (.inr (some a0)), some (.inl x1), some (.inl (x2 + 1)), some (.inl x3)], [], M)) sm_a44_50 rfl rfl rfl ?_
        refine ru_go (t := (52, [some (.inr (some a0)), some (.inl x1), some (.inl (x2 + 1)), some (.inl x3)], [.inr (some a0)], M)) sm_a44_51 rfl rfl rfl ?_
        refine ru_go (t := (53, [some (.inr (some a0)), some (.inl x1), some (.inl (x2 + 1)), some (.inl x3)], [.inl x1, .inr (some a0)], M)) sm_a44_52 rfl rfl rfl ?_
        exact ru_call (p := 56) sm_a44_53 rfl (sc_virt (Or.inl rfl) rfl rfl h_1 (Nat.le_of_ble_eq_true rfl)) rfl h
theorem bb_44_32 {d : Nat} {M : sm_M} {Q : Option sm_V → sm_M → Prop} {a0 : Nat} {x1 : Int32} {x2 : Int32} {x3 : Int32} {y0 : Int32}
    (h : sm_K M a0 = 9 ∧ ∃ b_2, sm_R M a0 0 = some b_2 ∧ sm_iA M b_2 ∧ sm_in_ M b_2 x3 ∧ ((¬ (sm_I M b_2 (x3).toNatClampNeg) = 1 → sm_Run d 43 0 (sm_ent 43 [.inr (some a0), .inl y0]) [] M (fun v M1 => sm_Run (d + 1) 44 56 [some (.inr (some a0)), some (.inl y0), some (.inl 0), some (.inl x3)] (v.toList ++ []) M1 Q)) ∧ (¬ (¬ (sm_I M b_2 (x3).toNatClampNeg) = 1) → sm_Run d 43 0 (sm_ent 43 [.inr (some a0), .inl y0]) [] M (fun v M1 => sm_Run (d + 1) 44 56 [some (.inr (some a0)), some (.inl y0), some (.inl (x2 + 1)), some (.inl x3)] (v.toList ++ []) M1 Q)))) :
    sm_Run (d + 1) 44 32 [some (.inr (some a0)), some (.inl x1), some (.inl x2), some (.inl x3)] [.inl y0] M Q := by
  refine ru_go (t := (33, [some (.inr (some a0)), some (.inl y0), some (.inl x2), some (.inl x3)], [], M)) sm_a44_32 rfl rfl rfl ?_
  refine ru_go (t := (34, [some (.inr (some a0)), some (.inl y0), some (.inl x2), some (.inl x3)], [.inr (some a0)], M)) sm_a44_33 rfl rfl rfl ?_
  obtain ⟨h_1, h⟩ := h
  refine ru_go (t := (37, [some (.inr (some a0)), some (.inl y0), some (.inl x2), some (.inl x3)], [.inr (sm_R M a0 0)], M)) sm_a44_34 rfl rfl (st_getR h_1 rfl rfl) ?_
  refine ru_go (t := (38, [some (.inr (some a0)), some (.inl y0), some (.inl x2), some (.inl x3)], [.inl x3, .inr (sm_R M a0 0)], M)) sm_a44_37 rfl rfl rfl ?_
  obtain ⟨b_2, hb_3, h⟩ := h
  rw [hb_3]
  obtain ⟨h_4, h⟩ := h
  obtain ⟨h_5, h⟩ := h
  refine ru_go (t := (39, [some (.inr (some a0)), some (.inl y0), some (.inl x2), some (.inl x3)], [.inl (sm_I M b_2 (x3).toNatClampNeg)], M)) sm_a44_38 rfl rfl (st_iald h_4 h_5) ?_
  refine ru_go (t := (40, [some (.inr (some a0)), some (.inl y0), some (.inl x2), some (.inl x3)], [.inl 1, .inl (sm_I M b_2 (x3).toNatClampNeg)], M)) sm_a44_39 rfl rfl (st_iconst (by decide)) ?_
  refine ru_icmp (pc := 40) (p := 49) (p2 := 43) sm_a44_40 (by decide) rfl ⟨fun hc_6 => ?_, fun hc_6 => ?_⟩
  · have h := h.1 hc_6
    refine ru_go (t := (50, [some (.inr (some a0)), some (.inl y0), some (.inl x2), some (.inl x3)], [.inl 0], M)) sm_a44_49 rfl rfl (st_iconst (by decide)) ?_
    refine ru_go (t := (51, [some (.inr (some a0)), some (.inl y0), some (.inl 0), some (.inl x3)], [], M)) sm_a44_50 rfl rfl rfl ?_
    refine ru_go (t := (52, [some (.inr (some a0)), some (.inl y0), some (.inl 0), some (.inl x3)], [.inr (some a0)], M)) sm_a44_51 rfl rfl rfl ?_
    refine ru_go (t := (53, [some (.inr (some a0)), some (.inl y0), some (.inl 0), some (.inl x3)], [.inl y0, .inr (some a0)], M)) sm_a44_52 rfl rfl rfl ?_
    exact ru_call (p := 56) sm_a44_53 rfl (sc_virt (Or.inl rfl) rfl rfl h_1 (Nat.le_of_ble_eq_true rfl)) rfl h
  · have h := h.2 hc_6
    refine ru_go (t := (44, [some (.inr (some a0)), some (.inl y0), some (.inl x2), some (.inl x3)], [.inl x2], M)) sm_a44_43 rfl rfl rfl ?_
    refine ru_go (t := (45, [some (.inr (some a0)), some (.inl y0), some (.inl x2), some (.inl x3)], [.inl 1, .inl x2], M)) sm_a44_44 rfl rfl (st_iconst (by decide)) ?_
    refine ru_go (t := (46, [some (.inr (some a0)), some (.inl y0), some (.inl x2), some (.inl x3)], [.inl (x2 + 1)], M)) sm_a44_45 rfl rfl rfl ?_
    refine ru_go (t := (50, [some (.inr (some a0)), some (.inl y0), some (.inl x2), some (.inl x3)], [.inl (x2 + 1)], M)) sm_a44_46 rfl rfl (st_goto (pc := 46) (by decide)) ?_
    refine ru_go (t := (51, [some (.inr (some a0)), some (.inl y0), some (.inl (x2 + 1)), some (.inl x3)], [], M)) sm_a44_50 rfl rfl rfl ?_
    refine ru_go (t := (52, [some (.inr (some a0)), some (.inl y0), some (.inl (x2 + 1)), some (.inl x3)], [.inr (some a0)], M)) sm_a44_51 rfl rfl rfl ?_
    refine ru_go (t := (53, [some (.inr (some a0)), some (.inl y0), some (.inl (x2 + 1)), some (.inl x3)], [.inl y0, .inr (some a0)], M)) sm_a44_52 rfl rfl rfl ?_
    exact ru_call (p := 56) sm_a44_53 rfl (sc_virt (Or.inl rfl) rfl rfl h_1 (Nat.le_of_ble_eq_true rfl)) rfl h
theorem bb_44_56 {d : Nat} {M : sm_M} {Q : Option sm_V → sm_M → Prop} {a0 : Nat} {x1 : Int32} {x2 : Int32} {x3 : Int32}
    (h : ((¬ x2 = 6 → sm_Run (d + 1) 44 6 [some (.inr (some a0)), some (.inl x1), some (.inl x2), some (.inl (x3 + 1))] [] M Q) ∧ (¬ (¬ x2 = 6) → sm_Run d 45 0 (sm_ent 45 [.inl x1]) [] M (fun v M1 => sm_Run (d + 1) 44 66 [some (.inr (some a0)), some (.inl x1), some (.inl x2), some (.inl x3)] (v.toList ++ []) M1 Q)))) :
    sm_Run (d + 1) 44 56 [some (.inr (some a0)), some (.inl x1), some (.inl x2), some (.inl x3)] [] M Q := by
  refine ru_go (t := (57, [some (.inr (some a0)), some (.inl x1), some (.inl x2), some (.inl x3)], [.inl x2], M)) sm_a44_56 rfl rfl rfl ?_
  refine ru_go (t := (59, [some (.inr (some a0)), some (.inl x1), some (.inl x2), some (.inl x3)], [.inl 6, .inl x2], M)) sm_a44_57 rfl rfl (st_bipush (by decide)) ?_
  refine ru_icmp (pc := 59) (p := 74) (p2 := 62) sm_a44_59 (by decide) rfl ⟨fun hc_1 => ?_, fun hc_1 => ?_⟩
  · have h := h.1 hc_1
    refine ru_go (t := (77, [some (.inr (some a0)), some (.inl x1), some (.inl x2), some (.inl (x3 + 1))], [], M)) sm_a44_74 rfl rfl (st_iinc rfl (by decide)) ?_
    refine ru_go (t := (6, [some (.inr (some a0)), some (.inl x1), some (.inl x2), some (.inl (x3 + 1))], [], M)) sm_a44_77 rfl rfl (st_goto (pc := 77) (by decide)) ?_
    exact h
  · have h := h.2 hc_1
    refine ru_go (t := (63, [some (.inr (some a0)), some (.inl x1), some (.inl x2), some (.inl x3)], [.inl x1], M)) sm_a44_62 rfl rfl rfl ?_
    exact ru_call (p := 66) sm_a44_63 rfl (sc_stat (Or.inl rfl) (Nat.le_of_ble_eq_true rfl) rfl rfl (Nat.le_of_ble_eq_true rfl)) rfl h
theorem bb_44_66 {d : Nat} {M : sm_M} {Q : Option sm_V → sm_M → Prop} {a0 : Nat} {x1 : Int32} {x2 : Int32} {x3 : Int32} {y0 : Int32}
    (h : sm_K M a0 = 9 ∧ sm_Run d 43 0 (sm_ent 43 [.inr (some a0), .inl y0]) [] M (fun v M1 => sm_Run (d + 1) 44 74 [some (.inr (some a0)), some (.inl y0), some (.inl 0), some (.inl x3)] (v.toList ++ []) M1 Q)) :
    sm_Run (d + 1) 44 66 [some (.inr (some a0)), some (.inl x1), some (.inl x2), some (.inl x3)] [.inl y0] M Q := by
  refine ru_go (t := (67, [some (.inr (some a0)), some (.inl y0), some (.inl x2), some (.inl x3)], [], M)) sm_a44_66 rfl rfl rfl ?_
  refine ru_go (t := (68, [some (.inr (some a0)), some (.inl y0), some (.inl x2), some (.inl x3)], [.inl 0], M)) sm_a44_67 rfl rfl (st_iconst (by decide)) ?_
  refine ru_go (t := (69, [some (.inr (some a0)), some (.inl y0), some (.inl 0), some (.inl x3)], [], M)) sm_a44_68 rfl rfl rfl ?_
  refine ru_go (t := (70, [some (.inr (some a0)), some (.inl y0), some (.inl 0), some (.inl x3)], [.inr (some a0)], M)) sm_a44_69 rfl rfl rfl ?_
  refine ru_go (t := (71, [some (.inr (some a0)), some (.inl y0), some (.inl 0), some (.inl x3)], [.inl y0, .inr (some a0)], M)) sm_a44_70 rfl rfl rfl ?_
  obtain ⟨h_1, h⟩ := h
  exact ru_call (p := 74) sm_a44_71 rfl (sc_virt (Or.inl rfl) rfl rfl h_1 (Nat.le_of_ble_eq_true rfl)) rfl h
theorem bb_44_74 {d : Nat} {M : sm_M} {Q : Option sm_V → sm_M → Prop} {a0 : Nat} {x1 : Int32} {x2 : Int32} {x3 : Int32}
    (h : sm_Run (d + 1) 44 6 [some (.inr (some a0)), some (.inl x1), some (.inl x2), some (.inl (x3 + 1))] [] M Q) :
    sm_Run (d + 1) 44 74 [some (.inr (some a0)), some (.inl x1), some (.inl x2), some (.inl x3)] [] M Q := by
  refine ru_go (t := (77, [some (.inr (some a0)), some (.inl x1), some (.inl x2), some (.inl (x3 + 1))], [], M)) sm_a44_74 rfl rfl (st_iinc rfl (by decide)) ?_
  refine ru_go (t := (6, [some (.inr (some a0)), some (.inl x1), some (.inl x2), some (.inl (x3 + 1))], [], M)) sm_a44_77 rfl rfl (st_goto (pc := 77) (by decide)) ?_
  exact h
theorem bb_44_85 {d : Nat} {M : sm_M} {Q : Option sm_V → sm_M → Prop} {a0 : Nat} {x1 : Int32} {x2 : Int32} {x3 : Int32}
    (h : sm_K M a0 = 9 ∧ sm_Run d 43 0 (sm_ent 43 [.inr (some a0), .inl 2]) [] M (fun v M1 => sm_Run (d + 1) 44 90 [some (.inr (some a0)), some (.inl x1), some (.inl x2), some (.inl x3)] (v.toList ++ []) M1 Q)) :
    sm_Run (d + 1) 44 85 [some (.inr (some a0)), some (.inl x1), some (.inl x2), some (.inl x3)] [] M Q := by
  refine ru_go (t := (86, [some (.inr (some a0)), some (.inl x1), some (.inl x2), some (.inl x3)], [.inr (some a0)], M)) sm_a44_85 rfl rfl rfl ?_
  refine ru_go (t := (87, [some (.inr (some a0)), some (.inl x1), some (.inl x2), some (.inl x3)], [.inl 2, .inr (some a0)], M)) sm_a44_86 rfl rfl (st_iconst (by decide)) ?_
  obtain ⟨h_1, h⟩ := h
  exact ru_call (p := 90) sm_a44_87 rfl (sc_virt (Or.inl rfl) rfl rfl h_1 (Nat.le_of_ble_eq_true rfl)) rfl h
theorem bb_44_90 {d : Nat} {M : sm_M} {Q : Option sm_V → sm_M → Prop} {a0 : Nat} {x1 : Int32} {x2 : Int32} {x3 : Int32}
    (h : sm_K M a0 = 9 ∧ sm_Run d 43 0 (sm_ent 43 [.inr (some a0), .inl 1]) [] M (fun v M1 => sm_Run (d + 1) 44 95 [some (.inr (some a0)), some (.inl x1), some (.inl x2), some (.inl x3)] (v.toList ++ []) M1 Q)) :
    sm_Run (d + 1) 44 90 [some (.inr (some a0)), some (.inl x1), some (.inl x2), some (.inl x3)] [] M Q := by
  refine ru_go (t := (91, [some (.inr (some a0)), some (.inl x1), some (.inl x2), some (.inl x3)], [.inr (some a0)], M)) sm_a44_90 rfl rfl rfl ?_
  refine ru_go (t := (92, [some (.inr (some a0)), some (.inl x1), some (.inl x2), some (.inl x3)], [.inl 1, .inr (some a0)], M)) sm_a44_91 rfl rfl (st_iconst (by decide)) ?_
  obtain ⟨h_1, h⟩ := h
  exact ru_call (p := 95) sm_a44_92 rfl (sc_virt (Or.inl rfl) rfl rfl h_1 (Nat.le_of_ble_eq_true rfl)) rfl h
theorem bb_44_95 {d : Nat} {M : sm_M} {Q : Option sm_V → sm_M → Prop} {a0 : Nat} {x1 : Int32} {x2 : Int32} {x3 : Int32}
    (h : Q none M) :
    sm_Run (d + 1) 44 95 [some (.inr (some a0)), some (.inl x1), some (.inl x2), some (.inl x3)] [] M Q := by
  exact ru_ret sm_a44_95 (sm_rvv rfl) h

/-! WireBus$Coder.other:(I)I -/
theorem sm_a45_0 : sm_at 45 0 = some (.iload_n 0, 1, (0, 0, 0, 0)) := by decide +kernel
theorem sm_a45_1 : sm_at 45 1 = some (.iconst 1, 1, (0, 0, 0, 0)) := by decide +kernel
theorem sm_a45_2 : sm_at 45 2 = some (.if_icmp .ne 7, 3, (0, 0, 0, 0)) := by decide +kernel
theorem sm_a45_5 : sm_at 45 5 = some (.iconst 0, 1, (0, 0, 0, 0)) := by decide +kernel
theorem sm_a45_6 : sm_at 45 6 = some (.goto 4, 3, (0, 0, 0, 0)) := by decide +kernel
theorem sm_a45_9 : sm_at 45 9 = some (.iconst 1, 1, (0, 0, 0, 0)) := by decide +kernel
theorem sm_a45_10 : sm_at 45 10 = some (.ireturn, 1, (0, 0, 0, 0)) := by decide +kernel
theorem bb_45_0 {d : Nat} {M : sm_M} {Q : Option sm_V → sm_M → Prop} {x0 : Int32}
    (h : ((¬ x0 = 1 → Q (some (.inl 1)) M) ∧ (¬ (¬ x0 = 1) → Q (some (.inl 0)) M))) :
    sm_Run d 45 0 [some (.inl x0)] [] M Q := by
  refine ru_go (t := (1, [some (.inl x0)], [.inl x0], M)) sm_a45_0 rfl rfl rfl ?_
  refine ru_go (t := (2, [some (.inl x0)], [.inl 1, .inl x0], M)) sm_a45_1 rfl rfl (st_iconst (by decide)) ?_
  refine ru_icmp (pc := 2) (p := 9) (p2 := 5) sm_a45_2 (by decide) rfl ⟨fun hc_1 => ?_, fun hc_1 => ?_⟩
  · have h := h.1 hc_1
    refine ru_go (t := (10, [some (.inl x0)], [.inl 1], M)) sm_a45_9 rfl rfl (st_iconst (by decide)) ?_
    exact ru_ret sm_a45_10 rfl h
  · have h := h.2 hc_1
    refine ru_go (t := (6, [some (.inl x0)], [.inl 0], M)) sm_a45_5 rfl rfl (st_iconst (by decide)) ?_
    refine ru_go (t := (10, [some (.inl x0)], [.inl 0], M)) sm_a45_6 rfl rfl (st_goto (pc := 6) (by decide)) ?_
    exact ru_ret sm_a45_10 rfl h

/-! WireBus$Coder.decode:(LWireBus$Packet;)Z -/
theorem sm_a46_0 : sm_at 46 0 = some (.aload_n 0, 1, (0, 0, 0, 0)) := by decide +kernel
theorem sm_a46_1 : sm_at 46 1 = some (.invokevirtual 70, 3, (10, 47, 2, 822)) := by decide +kernel
theorem sm_a46_4 : sm_at 46 4 = some (.ifCond .eq 29, 3, (0, 0, 0, 0)) := by decide +kernel
theorem sm_a46_7 : sm_at 46 7 = some (.aload_n 0, 1, (0, 0, 0, 0)) := by decide +kernel
theorem sm_a46_8 : sm_at 46 8 = some (.invokevirtual 74, 3, (10, 48, 2, 826)) := by decide +kernel
theorem sm_a46_11 : sm_at 46 11 = some (.ifCond .eq 22, 3, (0, 0, 0, 0)) := by decide +kernel
theorem sm_a46_14 : sm_at 46 14 = some (.aload_n 0, 1, (0, 0, 0, 0)) := by decide +kernel
theorem sm_a46_15 : sm_at 46 15 = some (.getfield 18, 3, (2, 1, 0, 192)) := by decide +kernel
theorem sm_a46_18 : sm_at 46 18 = some (.bipush 16, 2, (0, 0, 0, 0)) := by decide +kernel
theorem sm_a46_20 : sm_at 46 20 = some (.if_icmp .lt 13, 3, (0, 0, 0, 0)) := by decide +kernel
theorem sm_a46_23 : sm_at 46 23 = some (.aload_n 0, 1, (0, 0, 0, 0)) := by decide +kernel
theorem sm_a46_24 : sm_at 46 24 = some (.getfield 18, 3, (2, 1, 0, 192)) := by decide +kernel
theorem sm_a46_27 : sm_at 46 27 = some (.bipush 7, 2, (0, 0, 0, 0)) := by decide +kernel
theorem sm_a46_29 : sm_at 46 29 = some (.iand, 1, (0, 0, 0, 0)) := by decide +kernel
theorem sm_a46_30 : sm_at 46 30 = some (.ifCond .eq 5, 3, (0, 0, 0, 0)) := by decide +kernel
theorem sm_a46_33 : sm_at 46 33 = some (.iconst 0, 1, (0, 0, 0, 0)) := by decide +kernel
theorem sm_a46_34 : sm_at 46 34 = some (.ireturn, 1, (0, 0, 0, 0)) := by decide +kernel
theorem sm_a46_35 : sm_at 46 35 = some (.aload_n 0, 1, (0, 0, 0, 0)) := by decide +kernel
theorem sm_a46_36 : sm_at 46 36 = some (.bipush 8, 2, (0, 0, 0, 0)) := by decide +kernel
theorem sm_a46_38 : sm_at 46 38 = some (.iconst 4, 1, (0, 0, 0, 0)) := by decide +kernel
theorem sm_a46_39 : sm_at 46 39 = some (.invokevirtual 77, 3, (10, 51, 2, 830)) := by decide +kernel
theorem sm_a46_42 : sm_at 46 42 = some (.istore_n 2, 1, (0, 0, 0, 0)) := by decide +kernel
theorem sm_a46_43 : sm_at 46 43 = some (.aload_n 0, 1, (0, 0, 0, 0)) := by decide +kernel
theorem sm_a46_44 : sm_at 46 44 = some (.iconst 0, 1, (0, 0, 0, 0)) := by decide +kernel
theorem sm_a46_45 : sm_at 46 45 = some (.bipush 8, 2, (0, 0, 0, 0)) := by decide +kernel
theorem sm_a46_47 : sm_at 46 47 = some (.invokevirtual 77, 3, (10, 51, 2, 830)) := by decide +kernel
theorem sm_a46_50 : sm_at 46 50 = some (.sipush 128, 3, (0, 0, 0, 0)) := by decide +kernel
theorem sm_a46_53 : sm_at 46 53 = some (.if_icmp .ne 17, 3, (0, 0, 0, 0)) := by decide +kernel
theorem sm_a46_56 : sm_at 46 56 = some (.aload_n 0, 1, (0, 0, 0, 0)) := by decide +kernel
theorem sm_a46_57 : sm_at 46 57 = some (.bipush 12, 2, (0, 0, 0, 0)) := by decide +kernel
theorem sm_a46_59 : sm_at 46 59 = some (.iconst 4, 1, (0, 0, 0, 0)) := by decide +kernel
theorem sm_a46_60 : sm_at 46 60 = some (.invokevirtual 77, 3, (10, 51, 2, 830)) := by decide +kernel
theorem sm_a46_63 : sm_at 46 63 = some (.bipush 15, 2, (0, 0, 0, 0)) := by decide +kernel
theorem sm_a46_65 : sm_at 46 65 = some (.iload_n 2, 1, (0, 0, 0, 0)) := by decide +kernel
theorem sm_a46_66 : sm_at 46 66 = some (.isub, 1, (0, 0, 0, 0)) := by decide +kernel
theorem sm_a46_67 : sm_at 46 67 = some (.if_icmp .eq 5, 3, (0, 0, 0, 0)) := by decide +kernel
theorem sm_a46_70 : sm_at 46 70 = some (.iconst 0, 1, (0, 0, 0, 0)) := by decide +kernel
theorem sm_a46_71 : sm_at 46 71 = some (.ireturn, 1, (0, 0, 0, 0)) := by decide +kernel
theorem sm_a46_72 : sm_at 46 72 = some (.aload_n 1, 1, (0, 0, 0, 0)) := by decide +kernel
theorem sm_a46_73 : sm_at 46 73 = some (.iconst (-1), 1, (0, 0, 0, 0)) := by decide +kernel
theorem sm_a46_74 : sm_at 46 74 = some (.iload_n 2, 1, (0, 0, 0, 0)) := by decide +kernel
theorem sm_a46_75 : sm_at 46 75 = some (.invokevirtual 80, 3, (10, 105, 7, 834)) := by decide +kernel
theorem sm_a46_78 : sm_at 46 78 = some (.iload_n 2, 1, (0, 0, 0, 0)) := by decide +kernel
theorem sm_a46_79 : sm_at 46 79 = some (.invokestatic 34, 3, (13, 24, 0, 788)) := by decide +kernel
theorem sm_a46_82 : sm_at 46 82 = some (.ifCond .eq 9, 3, (0, 0, 0, 0)) := by decide +kernel
theorem sm_a46_85 : sm_at 46 85 = some (.aload_n 0, 1, (0, 0, 0, 0)) := by decide +kernel
theorem sm_a46_86 : sm_at 46 86 = some (.aload_n 1, 1, (0, 0, 0, 0)) := by decide +kernel
theorem sm_a46_87 : sm_at 46 87 = some (.invokevirtual 83, 3, (10, 49, 2, 835)) := by decide +kernel
theorem sm_a46_90 : sm_at 46 90 = some (.ireturn, 1, (0, 0, 0, 0)) := by decide +kernel
theorem sm_a46_91 : sm_at 46 91 = some (.iload_n 2, 1, (0, 0, 0, 0)) := by decide +kernel
theorem sm_a46_92 : sm_at 46 92 = some (.invokestatic 87, 3, (13, 25, 0, 847)) := by decide +kernel
theorem sm_a46_95 : sm_at 46 95 = some (.ifCond .ne 8, 3, (0, 0, 0, 0)) := by decide +kernel
theorem sm_a46_98 : sm_at 46 98 = some (.iload_n 2, 1, (0, 0, 0, 0)) := by decide +kernel
theorem sm_a46_99 : sm_at 46 99 = some (.iconst 5, 1, (0, 0, 0, 0)) := by decide +kernel
theorem sm_a46_100 : sm_at 46 100 = some (.if_icmp .ne 38, 3, (0, 0, 0, 0)) := by decide +kernel
theorem sm_a46_103 : sm_at 46 103 = some (.aload_n 1, 1, (0, 0, 0, 0)) := by decide +kernel
theorem sm_a46_104 : sm_at 46 104 = some (.aload_n 0, 1, (0, 0, 0, 0)) := by decide +kernel
theorem sm_a46_105 : sm_at 46 105 = some (.bipush 16, 2, (0, 0, 0, 0)) := by decide +kernel
theorem sm_a46_107 : sm_at 46 107 = some (.bipush 11, 2, (0, 0, 0, 0)) := by decide +kernel
theorem sm_a46_109 : sm_at 46 109 = some (.invokevirtual 77, 3, (10, 51, 2, 830)) := by decide +kernel
theorem sm_a46_112 : sm_at 46 112 = some (.putfield 50, 3, (7, 2, 1, 153)) := by decide +kernel
theorem sm_a46_115 : sm_at 46 115 = some (.aload_n 0, 1, (0, 0, 0, 0)) := by decide +kernel
theorem sm_a46_116 : sm_at 46 116 = some (.getfield 18, 3, (2, 1, 0, 192)) := by decide +kernel
theorem sm_a46_119 : sm_at 46 119 = some (.bipush 32, 2, (0, 0, 0, 0)) := by decide +kernel
theorem sm_a46_121 : sm_at 46 121 = some (.if_icmp .ne 15, 3, (0, 0, 0, 0)) := by decide +kernel
theorem sm_a46_124 : sm_at 46 124 = some (.aload_n 0, 1, (0, 0, 0, 0)) := by decide +kernel
theorem sm_a46_125 : sm_at 46 125 = some (.iconst 5, 1, (0, 0, 0, 0)) := by decide +kernel
theorem sm_a46_126 : sm_at 46 126 = some (.invokevirtual 90, 3, (10, 50, 2, 839)) := by decide +kernel
theorem sm_a46_129 : sm_at 46 129 = some (.ifCond .eq 7, 3, (0, 0, 0, 0)) := by decide +kernel
theorem sm_a46_132 : sm_at 46 132 = some (.iconst 1, 1, (0, 0, 0, 0)) := by decide +kernel
theorem sm_a46_133 : sm_at 46 133 = some (.goto 4, 3, (0, 0, 0, 0)) := by decide +kernel
theorem sm_a46_136 : sm_at 46 136 = some (.iconst 0, 1, (0, 0, 0, 0)) := by decide +kernel
theorem sm_a46_137 : sm_at 46 137 = some (.ireturn, 1, (0, 0, 0, 0)) := by decide +kernel
theorem sm_a46_138 : sm_at 46 138 = some (.iload_n 2, 1, (0, 0, 0, 0)) := by decide +kernel
theorem sm_a46_139 : sm_at 46 139 = some (.invokestatic 47, 3, (13, 26, 0, 804)) := by decide +kernel
theorem sm_a46_142 : sm_at 46 142 = some (.ifCond .eq 16, 3, (0, 0, 0, 0)) := by decide +kernel
theorem sm_a46_145 : sm_at 46 145 = some (.aload_n 0, 1, (0, 0, 0, 0)) := by decide +kernel
theorem sm_a46_146 : sm_at 46 146 = some (.getfield 18, 3, (2, 1, 0, 192)) := by decide +kernel
theorem sm_a46_149 : sm_at 46 149 = some (.bipush 16, 2, (0, 0, 0, 0)) := by decide +kernel
theorem sm_a46_151 : sm_at 46 151 = some (.if_icmp .ne 7, 3, (0, 0, 0, 0)) := by decide +kernel
theorem sm_a46_154 : sm_at 46 154 = some (.iconst 1, 1, (0, 0, 0, 0)) := by decide +kernel
theorem sm_a46_155 : sm_at 46 155 = some (.goto 4, 3, (0, 0, 0, 0)) := by decide +kernel
theorem sm_a46_158 : sm_at 46 158 = some (.iconst 0, 1, (0, 0, 0, 0)) := by decide +kernel
theorem sm_a46_159 : sm_at 46 159 = some (.ireturn, 1, (0, 0, 0, 0)) := by decide +kernel
theorem bb_46_0 {d : Nat} {M : sm_M} {Q : Option sm_V → sm_M → Prop} {a0 : Nat} {r1 : Option Nat} {z2 : Option sm_V}
    (h : sm_K M a0 = 9 ∧ sm_Run d 47 0 (sm_ent 47 [.inr (some a0)]) [] M (fun v M1 => sm_Run (d + 1) 46 4 [some (.inr (some a0)), some (.inr r1), z2] (v.toList ++ []) M1 Q)) :
    sm_Run (d + 1) 46 0 [some (.inr (some a0)), some (.inr r1), z2] [] M Q := by
  refine ru_go (t := (1, [some (.inr (some a0)), some (.inr r1), z2], [.inr (some a0)], M)) sm_a46_0 rfl rfl rfl ?_
  obtain ⟨h_1, h⟩ := h
  exact ru_call (p := 4) sm_a46_1 rfl (sc_virt (Or.inl rfl) rfl rfl h_1 (Nat.le_of_ble_eq_true rfl)) rfl h
theorem bb_46_4 {d : Nat} {M : sm_M} {Q : Option sm_V → sm_M → Prop} {a0 : Nat} {r1 : Option Nat} {z2 : Option sm_V} {y0 : Int32}
    (h : ((y0 = 0 → Q (some (.inl 0)) M) ∧ (¬ (y0 = 0) → sm_K M a0 = 9 ∧ sm_Run d 48 0 (sm_ent 48 [.inr (some a0)]) [] M (fun v M1 => sm_Run (d + 1) 46 11 [some (.inr (some a0)), some (.inr r1), z2] (v.toList ++ []) M1 Q)))) :
    sm_Run (d + 1) 46 4 [some (.inr (some a0)), some (.inr r1), z2] [.inl y0] M Q := by
  refine ru_if (pc := 4) (p := 33) (p2 := 7) sm_a46_4 (by decide) rfl ⟨fun hc_1 => ?_, fun hc_1 => ?_⟩
  · have h := h.1 hc_1
    refine ru_go (t := (34, [some (.inr (some a0)), some (.inr r1), z2], [.inl 0], M)) sm_a46_33 rfl rfl (st_iconst (by decide)) ?_
    exact ru_ret sm_a46_34 (sm_rvz rfl (by decide)) h
  · have h := h.2 hc_1
    refine ru_go (t := (8, [some (.inr (some a0)), some (.inr r1), z2], [.inr (some a0)], M)) sm_a46_7 rfl rfl rfl ?_
    obtain ⟨h_2, h⟩ := h
    exact ru_call (p := 11) sm_a46_8 rfl (sc_virt (Or.inl rfl) rfl rfl h_2 (Nat.le_of_ble_eq_true rfl)) rfl h
theorem bb_46_11 {d : Nat} {M : sm_M} {Q : Option sm_V → sm_M → Prop} {a0 : Nat} {r1 : Option Nat} {z2 : Option sm_V} {y0 : Int32}
    (h : ((y0 = 0 → Q (some (.inl 0)) M) ∧ (¬ (y0 = 0) → sm_K M a0 = 9 ∧ (((sm_I M a0 1) < 16 → Q (some (.inl 0)) M) ∧ (¬ ((sm_I M a0 1) < 16) → ((((sm_I M a0 1) &&& 7) = 0 → sm_Run d 51 0 (sm_ent 51 [.inr (some a0), .inl 8, .inl 4]) [] M (fun v M1 => sm_Run (d + 1) 46 42 [some (.inr (some a0)), some (.inr r1), z2] (v.toList ++ []) M1 Q)) ∧ (¬ (((sm_I M a0 1) &&& 7) = 0) → Q (some (.inl 0)) M))))))) :
    sm_Run (d + 1) 46 11 [some (.inr (some a0)), some (.inr r1), z2] [.inl y0] M Q := by
  refine ru_if (pc := 11) (p := 33) (p2 := 14) sm_a46_11 (by decide) rfl ⟨fun hc_1 => ?_, fun hc_1 => ?_⟩
  · have h := h.1 hc_1
    refine ru_go (t := (34, [some (.inr (some a0)), some (.inr r1), z2], [.inl 0], M)) sm_a46_33 rfl rfl (st_iconst (by decide)) ?_
    exact ru_ret sm_a46_34 (sm_rvz rfl (by decide)) h
  · have h := h.2 hc_1
    refine ru_go (t := (15, [some (.inr (some a0)), some (.inr r1), z2], [.inr (some a0)], M)) sm_a46_14 rfl rfl rfl ?_
    obtain ⟨h_2, h⟩ := h
    refine ru_go (t := (18, [some (.inr (some a0)), some (.inr r1), z2], [.inl (sm_I M a0 1)], M)) sm_a46_15 rfl rfl (st_getI h_2 rfl) ?_
    refine ru_go (t := (20, [some (.inr (some a0)), some (.inr r1), z2], [.inl 16, .inl (sm_I M a0 1)], M)) sm_a46_18 rfl rfl (st_bipush (by decide)) ?_
    refine ru_icmp (pc := 20) (p := 33) (p2 := 23) sm_a46_20 (by decide) rfl ⟨fun hc_3 => ?_, fun hc_3 => ?_⟩
    · have h := h.1 hc_3
      refine ru_go (t := (34, [some (.inr (some a0)), some (.inr r1), z2], [.inl 0], M)) sm_a46_33 rfl rfl (st_iconst (by decide)) ?_
      exact ru_ret sm_a46_34 (sm_rvz rfl (by decide)) h
    · have h := h.2 hc_3
      refine ru_go (t := (24, [some (.inr (some a0)), some (.inr r1), z2], [.inr (some a0)], M)) sm_a46_23 rfl rfl rfl ?_
      refine ru_go (t := (27, [some (.inr (some a0)), some (.inr r1), z2], [.inl (sm_I M a0 1)], M)) sm_a46_24 rfl rfl (st_getI h_2 rfl) ?_
      refine ru_go (t := (29, [some (.inr (some a0)), some (.inr r1), z2], [.inl 7, .inl (sm_I M a0 1)], M)) sm_a46_27 rfl rfl (st_bipush (by decide)) ?_
      refine ru_go (t := (30, [some (.inr (some a0)), some (.inr r1), z2], [.inl ((sm_I M a0 1) &&& 7)], M)) sm_a46_29 rfl rfl rfl ?_
      refine ru_if (pc := 30) (p := 35) (p2 := 33) sm_a46_30 (by decide) rfl ⟨fun hc_4 => ?_, fun hc_4 => ?_⟩
      · have h := h.1 hc_4
        refine ru_go (t := (36, [some (.inr (some a0)), some (.inr r1), z2], [.inr (some a0)], M)) sm_a46_35 rfl rfl rfl ?_
        refine ru_go (t := (38, [some (.inr (some a0)), some (.inr r1), z2], [.inl 8, .inr (some a0)], M)) sm_a46_36 rfl rfl (st_bipush (by decide)) ?_
        refine ru_go (t := (39, [some (.inr (some a0)), some (.inr r1), z2], [.inl 4, .inl 8, .inr (some a0)], M)) sm_a46_38 rfl rfl (st_iconst (by decide)) ?_
        exact ru_call (p := 42) sm_a46_39 rfl (sc_virt (Or.inl rfl) rfl rfl h_2 (Nat.le_of_ble_eq_true rfl)) rfl h
      · have h := h.2 hc_4
        refine ru_go (t := (34, [some (.inr (some a0)), some (.inr r1), z2], [.inl 0], M)) sm_a46_33 rfl rfl (st_iconst (by decide)) ?_
        exact ru_ret sm_a46_34 (sm_rvz rfl (by decide)) h
theorem bb_46_42 {d : Nat} {M : sm_M} {Q : Option sm_V → sm_M → Prop} {a0 : Nat} {r1 : Option Nat} {z2 : Option sm_V} {y0 : Int32}
    (h : sm_K M a0 = 9 ∧ sm_Run d 51 0 (sm_ent 51 [.inr (some a0), .inl 0, .inl 8]) [] M (fun v M1 => sm_Run (d + 1) 46 50 [some (.inr (some a0)), some (.inr r1), some (.inl y0)] (v.toList ++ []) M1 Q)) :
    sm_Run (d + 1) 46 42 [some (.inr (some a0)), some (.inr r1), z2] [.inl y0] M Q := by
  refine ru_go (t := (43, [some (.inr (some a0)), some (.inr r1), some (.inl y0)], [], M)) sm_a46_42 rfl rfl rfl ?_
  refine ru_go (t := (44, [some (.inr (some a0)), some (.inr r1), some (.inl y0)], [.inr (some a0)], M)) sm_a46_43 rfl rfl rfl ?_
  refine ru_go (t := (45, [some (.inr (some a0)), some (.inr r1), some (.inl y0)], [.inl 0, .inr (some a0)], M)) sm_a46_44 rfl rfl (st_iconst (by decide)) ?_
  refine ru_go (t := (47, [some (.inr (some a0)), some (.inr r1), some (.inl y0)], [.inl 8, .inl 0, .inr (some a0)], M)) sm_a46_45 rfl rfl (st_bipush (by decide)) ?_
  obtain ⟨h_1, h⟩ := h
  exact ru_call (p := 50) sm_a46_47 rfl (sc_virt (Or.inl rfl) rfl rfl h_1 (Nat.le_of_ble_eq_true rfl)) rfl h
theorem bb_46_50 {d : Nat} {M : sm_M} {Q : Option sm_V → sm_M → Prop} {a0 : Nat} {r1 : Option Nat} {x2 : Int32} {y0 : Int32}
    (h : ((¬ y0 = 128 → Q (some (.inl 0)) M) ∧ (¬ (¬ y0 = 128) → sm_K M a0 = 9 ∧ sm_Run d 51 0 (sm_ent 51 [.inr (some a0), .inl 12, .inl 4]) [] M (fun v M1 => sm_Run (d + 1) 46 63 [some (.inr (some a0)), some (.inr r1), some (.inl x2)] (v.toList ++ []) M1 Q)))) :
    sm_Run (d + 1) 46 50 [some (.inr (some a0)), some (.inr r1), some (.inl x2)] [.inl y0] M Q := by
  refine ru_go (t := (53, [some (.inr (some a0)), some (.inr r1), some (.inl x2)], [.inl 128, .inl y0], M)) sm_a46_50 rfl rfl (st_sipush (by decide)) ?_
  refine ru_icmp (pc := 53) (p := 70) (p2 := 56) sm_a46_53 (by decide) rfl ⟨fun hc_1 => ?_, fun hc_1 => ?_⟩
  · have h := h.1 hc_1
    refine ru_go (t := (71, [some (.inr (some a0)), some (.inr r1), some (.inl x2)], [.inl 0], M)) sm_a46_70 rfl rfl (st_iconst (by decide)) ?_
    exact ru_ret sm_a46_71 (sm_rvz rfl (by decide)) h
  · have h := h.2 hc_1
    refine ru_go (t := (57, [some (.inr (some a0)), some (.inr r1), some (.inl x2)], [.inr (some a0)], M)) sm_a46_56 rfl rfl rfl ?_
    refine ru_go (t := (59, [some (.inr (some a0)), some (.inr r1), some (.inl x2)], [.inl 12, .inr (some a0)], M)) sm_a46_57 rfl rfl (st_bipush (by decide)) ?_
    refine ru_go (t := (60, [some (.inr (some a0)), some (.inr r1), some (.inl x2)], [.inl 4, .inl 12, .inr (some a0)], M)) sm_a46_59 rfl rfl (st_iconst (by decide)) ?_
    obtain ⟨h_2, h⟩ := h
    exact ru_call (p := 63) sm_a46_60 rfl (sc_virt (Or.inl rfl) rfl rfl h_2 (Nat.le_of_ble_eq_true rfl)) rfl h
theorem bb_46_63 {d : Nat} {M : sm_M} {Q : Option sm_V → sm_M → Prop} {a0 : Nat} {r1 : Option Nat} {x2 : Int32} {y0 : Int32}
    (h : ((y0 = (15 - x2) → ∃ b_2, r1 = some b_2 ∧ sm_K M b_2 = 24 ∧ sm_Run d 105 0 (sm_ent 105 [.inr (some b_2), .inl (-1), .inl x2]) [] M (fun v M1 => sm_Run (d + 1) 46 78 [some (.inr (some a0)), some (.inr (some b_2)), some (.inl x2)] (v.toList ++ []) M1 Q)) ∧ (¬ (y0 = (15 - x2)) → Q (some (.inl 0)) M))) :
    sm_Run (d + 1) 46 63 [some (.inr (some a0)), some (.inr r1), some (.inl x2)] [.inl y0] M Q := by
  refine ru_go (t := (65, [some (.inr (some a0)), some (.inr r1), some (.inl x2)], [.inl 15, .inl y0], M)) sm_a46_63 rfl rfl (st_bipush (by decide)) ?_
  refine ru_go (t := (66, [some (.inr (some a0)), some (.inr r1), some (.inl x2)], [.inl x2, .inl 15, .inl y0], M)) sm_a46_65 rfl rfl rfl ?_
  refine ru_go (t := (67, [some (.inr (some a0)), some (.inr r1), some (.inl x2)], [.inl (15 - x2), .inl y0], M)) sm_a46_66 rfl rfl rfl ?_
  refine ru_icmp (pc := 67) (p := 72) (p2 := 70) sm_a46_67 (by decide) rfl ⟨fun hc_1 => ?_, fun hc_1 => ?_⟩
  · have h := h.1 hc_1
    refine ru_go (t := (73, [some (.inr (some a0)), some (.inr r1), some (.inl x2)], [.inr r1], M)) sm_a46_72 rfl rfl rfl ?_
    refine ru_go (t := (74, [some (.inr (some a0)), some (.inr r1), some (.inl x2)], [.inl (-1), .inr r1], M)) sm_a46_73 rfl rfl (st_iconst (by decide)) ?_
    refine ru_go (t := (75, [some (.inr (some a0)), some (.inr r1), some (.inl x2)], [.inl x2, .inl (-1), .inr r1], M)) sm_a46_74 rfl rfl rfl ?_
    obtain ⟨b_2, hb_3, h⟩ := h
    rw [hb_3]
    obtain ⟨h_4, h⟩ := h
    exact ru_call (p := 78) sm_a46_75 rfl (sc_virt (Or.inl rfl) rfl rfl h_4 (Nat.le_of_ble_eq_true rfl)) rfl h
  · have h := h.2 hc_1
    refine ru_go (t := (71, [some (.inr (some a0)), some (.inr r1), some (.inl x2)], [.inl 0], M)) sm_a46_70 rfl rfl (st_iconst (by decide)) ?_
    exact ru_ret sm_a46_71 (sm_rvz rfl (by decide)) h
theorem bb_46_78 {d : Nat} {M : sm_M} {Q : Option sm_V → sm_M → Prop} {a0 : Nat} {r1 : Option Nat} {x2 : Int32}
    (h : sm_Run d 24 0 (sm_ent 24 [.inl x2]) [] M (fun v M1 => sm_Run (d + 1) 46 82 [some (.inr (some a0)), some (.inr r1), some (.inl x2)] (v.toList ++ []) M1 Q)) :
    sm_Run (d + 1) 46 78 [some (.inr (some a0)), some (.inr r1), some (.inl x2)] [] M Q := by
  refine ru_go (t := (79, [some (.inr (some a0)), some (.inr r1), some (.inl x2)], [.inl x2], M)) sm_a46_78 rfl rfl rfl ?_
  exact ru_call (p := 82) sm_a46_79 rfl (sc_stat (Or.inr rfl) (Nat.le_of_ble_eq_true rfl) rfl rfl (Nat.le_of_ble_eq_true rfl)) rfl h
theorem bb_46_82 {d : Nat} {M : sm_M} {Q : Option sm_V → sm_M → Prop} {a0 : Nat} {r1 : Option Nat} {x2 : Int32} {y0 : Int32}
    (h : ((y0 = 0 → sm_Run d 25 0 (sm_ent 25 [.inl x2]) [] M (fun v M1 => sm_Run (d + 1) 46 95 [some (.inr (some a0)), some (.inr r1), some (.inl x2)] (v.toList ++ []) M1 Q)) ∧ (¬ (y0 = 0) → sm_K M a0 = 9 ∧ sm_Run d 49 0 (sm_ent 49 [.inr (some a0), .inr r1]) [] M (fun v M1 => sm_Run (d + 1) 46 90 [some (.inr (some a0)), some (.inr r1), some (.inl x2)] (v.toList ++ []) M1 Q)))) :
    sm_Run (d + 1) 46 82 [some (.inr (some a0)), some (.inr r1), some (.inl x2)] [.inl y0] M Q := by
  refine ru_if (pc := 82) (p := 91) (p2 := 85) sm_a46_82 (by decide) rfl ⟨fun hc_1 => ?_, fun hc_1 => ?_⟩
  · have h := h.1 hc_1
    refine ru_go (t := (92, [some (.inr (some a0)), some (.inr r1), some (.inl x2)], [.inl x2], M)) sm_a46_91 rfl rfl rfl ?_
    exact ru_call (p := 95) sm_a46_92 rfl (sc_stat (Or.inr rfl) (Nat.le_of_ble_eq_true rfl) rfl rfl (Nat.le_of_ble_eq_true rfl)) rfl h
  · have h := h.2 hc_1
    refine ru_go (t := (86, [some (.inr (some a0)), some (.inr r1), some (.inl x2)], [.inr (some a0)], M)) sm_a46_85 rfl rfl rfl ?_
    refine ru_go (t := (87, [some (.inr (some a0)), some (.inr r1), some (.inl x2)], [.inr r1, .inr (some a0)], M)) sm_a46_86 rfl rfl rfl ?_
    obtain ⟨h_2, h⟩ := h
    exact ru_call (p := 90) sm_a46_87 rfl (sc_virt (Or.inl rfl) rfl rfl h_2 (Nat.le_of_ble_eq_true rfl)) rfl h
theorem bb_46_90 {d : Nat} {M : sm_M} {Q : Option sm_V → sm_M → Prop} {a0 : Nat} {r1 : Option Nat} {x2 : Int32} {y0 : Int32}
    (h : sm_fit .boolean y0 = true ∧ Q (some (.inl y0)) M) :
    sm_Run (d + 1) 46 90 [some (.inr (some a0)), some (.inr r1), some (.inl x2)] [.inl y0] M Q := by
  obtain ⟨h_1, h⟩ := h
  exact ru_ret sm_a46_90 (sm_rvz rfl h_1) h
theorem bb_46_95 {d : Nat} {M : sm_M} {Q : Option sm_V → sm_M → Prop} {a0 : Nat} {r1 : Option Nat} {x2 : Int32} {y0 : Int32}
    (h : ((¬ y0 = 0 → sm_K M a0 = 9 ∧ sm_Run d 51 0 (sm_ent 51 [.inr (some a0), .inl 16, .inl 11]) [] M (fun v M1 => sm_Run (d + 1) 46 112 [some (.inr (some a0)), some (.inr r1), some (.inl x2)] (v.toList ++ [.inr r1]) M1 Q)) ∧ (¬ (¬ y0 = 0) → ((¬ x2 = 5 → sm_Run d 26 0 (sm_ent 26 [.inl x2]) [] M (fun v M1 => sm_Run (d + 1) 46 142 [some (.inr (some a0)), some (.inr r1), some (.inl x2)] (v.toList ++ []) M1 Q)) ∧ (¬ (¬ x2 = 5) → sm_K M a0 = 9 ∧ sm_Run d 51 0 (sm_ent 51 [.inr (some a0), .inl 16, .inl 11]) [] M (fun v M1 => sm_Run (d + 1) 46 112 [some (.inr (some a0)), some (.inr r1), some (.inl x2)] (v.toList ++ [.inr r1]) M1 Q)))))) :
    sm_Run (d + 1) 46 95 [some (.inr (some a0)), some (.inr r1), some (.inl x2)] [.inl y0] M Q := by
  refine ru_if (pc := 95) (p := 103) (p2 := 98) sm_a46_95 (by decide) rfl ⟨fun hc_1 => ?_, fun hc_1 => ?_⟩
  · have h := h.1 hc_1
    refine ru_go (t := (104, [some (.inr (some a0)), some (.inr r1), some (.inl x2)], [.inr r1], M)) sm_a46_103 rfl rfl rfl ?_
    refine ru_go (t := (105, [some (.inr (some a0)), some (.inr r1), some (.inl x2)], [.inr (some a0), .inr r1], M)) sm_a46_104 rfl rfl rfl ?_
    refine ru_go (t := (107, [some (.inr (some a0)), some (.inr r1), some (.inl x2)], [.inl 16, .inr (some a0), .inr r1], M)) sm_a46_105 rfl rfl (st_bipush (by decide)) ?_
    refine ru_go (t := (109, [some (.inr (some a0)), some (.inr r1), some (.inl x2)], [.inl 11, .inl 16, .inr (some a0), .inr r1], M)) sm_a46_107 rfl rfl (st_bipush (by decide)) ?_
    obtain ⟨h_2, h⟩ := h
    exact ru_call (p := 112) sm_a46_109 rfl (sc_virt (Or.inl rfl) rfl rfl h_2 (Nat.le_of_ble_eq_true rfl)) rfl h
  · have h := h.2 hc_1
    refine ru_go (t := (99, [some (.inr (some a0)), some (.inr r1), some (.inl x2)], [.inl x2], M)) sm_a46_98 rfl rfl rfl ?_
    refine ru_go (t := (100, [some (.inr (some a0)), some (.inr r1), some (.inl x2)], [.inl 5, .inl x2], M)) sm_a46_99 rfl rfl (st_iconst (by decide)) ?_
    refine ru_icmp (pc := 100) (p := 138) (p2 := 103) sm_a46_100 (by decide) rfl ⟨fun hc_3 => ?_, fun hc_3 => ?_⟩
    · have h := h.1 hc_3
      refine ru_go (t := (139, [some (.inr (some a0)), some (.inr r1), some (.inl x2)], [.inl x2], M)) sm_a46_138 rfl rfl rfl ?_
      exact ru_call (p := 142) sm_a46_139 rfl (sc_stat (Or.inr rfl) (Nat.le_of_ble_eq_true rfl) rfl rfl (Nat.le_of_ble_eq_true rfl)) rfl h
    · have h := h.2 hc_3
      refine ru_go (t := (104, [some (.inr (some a0)), some (.inr r1), some (.inl x2)], [.inr r1], M)) sm_a46_103 rfl rfl rfl ?_
      refine ru_go (t := (105, [some (.inr (some a0)), some (.inr r1), some (.inl x2)], [.inr (some a0), .inr r1], M)) sm_a46_104 rfl rfl rfl ?_
      refine ru_go (t := (107, [some (.inr (some a0)), some (.inr r1), some (.inl x2)], [.inl 16, .inr (some a0), .inr r1], M)) sm_a46_105 rfl rfl (st_bipush (by decide)) ?_
      refine ru_go (t := (109, [some (.inr (some a0)), some (.inr r1), some (.inl x2)], [.inl 11, .inl 16, .inr (some a0), .inr r1], M)) sm_a46_107 rfl rfl (st_bipush (by decide)) ?_
      obtain ⟨h_4, h⟩ := h
      exact ru_call (p := 112) sm_a46_109 rfl (sc_virt (Or.inl rfl) rfl rfl h_4 (Nat.le_of_ble_eq_true rfl)) rfl h
theorem bb_46_112 {d : Nat} {M : sm_M} {Q : Option sm_V → sm_M → Prop} {a0 : Nat} {r1 : Option Nat} {x2 : Int32} {y0 : Int32} {t1 : Option Nat}
    (h : ∃ b_1, t1 = some b_1 ∧ sm_K M b_1 = 24 ∧ sm_K M a0 = 9 ∧ ((¬ (sm_I (sm_putI M b_1 2 y0) a0 1) = 32 → Q (some (.inl 0)) (sm_putI M b_1 2 y0)) ∧ (¬ (¬ (sm_I (sm_putI M b_1 2 y0) a0 1) = 32) → sm_Run d 50 0 (sm_ent 50 [.inr (some a0), .inl 5]) [] (sm_putI M b_1 2 y0) (fun v M1 => sm_Run (d + 1) 46 129 [some (.inr (some a0)), some (.inr r1), some (.inl x2)] (v.toList ++ []) M1 Q)))) :
    sm_Run (d + 1) 46 112 [some (.inr (some a0)), some (.inr r1), some (.inl x2)] [.inl y0, .inr t1] M Q := by
  obtain ⟨b_1, hb_2, h⟩ := h
  rw [hb_2]
  obtain ⟨h_3, h⟩ := h
  refine ru_go (t := (115, [some (.inr (some a0)), some (.inr r1), some (.inl x2)], [], sm_putI M b_1 2 y0)) sm_a46_112 rfl rfl (st_putI h_3 rfl) ?_
  refine ru_go (t := (116, [some (.inr (some a0)), some (.inr r1), some (.inl x2)], [.inr (some a0)], sm_putI M b_1 2 y0)) sm_a46_115 rfl rfl rfl ?_
  obtain ⟨h_4, h⟩ := h
  refine ru_go (t := (119, [some (.inr (some a0)), some (.inr r1), some (.inl x2)], [.inl (sm_I (sm_putI M b_1 2 y0) a0 1)], sm_putI M b_1 2 y0)) sm_a46_116 rfl rfl (st_getI h_4 rfl) ?_
  refine ru_go (t := (121, [some (.inr (some a0)), some (.inr r1), some (.inl x2)], [.inl 32, .inl (sm_I (sm_putI M b_1 2 y0) a0 1)], sm_putI M b_1 2 y0)) sm_a46_119 rfl rfl (st_bipush (by decide)) ?_
  refine ru_icmp (pc := 121) (p := 136) (p2 := 124) sm_a46_121 (by decide) rfl ⟨fun hc_5 => ?_, fun hc_5 => ?_⟩
  · have h := h.1 hc_5
    refine ru_go (t := (137, [some (.inr (some a0)), some (.inr r1), some (.inl x2)], [.inl 0], sm_putI M b_1 2 y0)) sm_a46_136 rfl rfl (st_iconst (by decide)) ?_
    exact ru_ret sm_a46_137 (sm_rvz rfl (by decide)) h
  · have h := h.2 hc_5
    refine ru_go (t := (125, [some (.inr (some a0)), some (.inr r1), some (.inl x2)], [.inr (some a0)], sm_putI M b_1 2 y0)) sm_a46_124 rfl rfl rfl ?_
    refine ru_go (t := (126, [some (.inr (some a0)), some (.inr r1), some (.inl x2)], [.inl 5, .inr (some a0)], sm_putI M b_1 2 y0)) sm_a46_125 rfl rfl (st_iconst (by decide)) ?_
    exact ru_call (p := 129) sm_a46_126 rfl (sc_virt (Or.inl rfl) rfl rfl h_4 (Nat.le_of_ble_eq_true rfl)) rfl h
theorem bb_46_129 {d : Nat} {M : sm_M} {Q : Option sm_V → sm_M → Prop} {a0 : Nat} {r1 : Option Nat} {x2 : Int32} {y0 : Int32}
    (h : ((y0 = 0 → Q (some (.inl 0)) M) ∧ (¬ (y0 = 0) → Q (some (.inl 1)) M))) :
    sm_Run (d + 1) 46 129 [some (.inr (some a0)), some (.inr r1), some (.inl x2)] [.inl y0] M Q := by
  refine ru_if (pc := 129) (p := 136) (p2 := 132) sm_a46_129 (by decide) rfl ⟨fun hc_1 => ?_, fun hc_1 => ?_⟩
  · have h := h.1 hc_1
    refine ru_go (t := (137, [some (.inr (some a0)), some (.inr r1), some (.inl x2)], [.inl 0], M)) sm_a46_136 rfl rfl (st_iconst (by decide)) ?_
    exact ru_ret sm_a46_137 (sm_rvz rfl (by decide)) h
  · have h := h.2 hc_1
    refine ru_go (t := (133, [some (.inr (some a0)), some (.inr r1), some (.inl x2)], [.inl 1], M)) sm_a46_132 rfl rfl (st_iconst (by decide)) ?_
    refine ru_go (t := (137, [some (.inr (some a0)), some (.inr r1), some (.inl x2)], [.inl 1], M)) sm_a46_133 rfl rfl (st_goto (pc := 133) (by decide)) ?_
    exact ru_ret sm_a46_137 (sm_rvz rfl (by decide)) h
theorem bb_46_142 {d : Nat} {M : sm_M} {Q : Option sm_V → sm_M → Prop} {a0 : Nat} {r1 : Option Nat} {x2 : Int32} {y0 : Int32}
    (h : ((y0 = 0 → Q (some (.inl 0)) M) ∧ (¬ (y0 = 0) → sm_K M a0 = 9 ∧ ((¬ (sm_I M a0 1) = 16 → Q (some (.inl 0)) M) ∧ (¬ (¬ (sm_I M a0 1) = 16) → Q (some (.inl 1)) M))))) :
    sm_Run (d + 1) 46 142 [some (.inr (some a0)), some (.inr r1), some (.inl x2)] [.inl y0] M Q := by
  refine ru_if (pc := 142) (p := 158) (p2 := 145) sm_a46_142 (by decide) rfl ⟨fun hc_1 => ?_, fun hc_1 => ?_⟩
  · have h := h.1 hc_1
    refine ru_go (t := (159, [some (.inr (some a0)), some (.inr r1), some (.inl x2)], [.inl 0], M)) sm_a46_158 rfl rfl (st_iconst (by decide)) ?_
    exact ru_ret sm_a46_159 (sm_rvz rfl (by decide)) h
  · have h := h.2 hc_1
    refine ru_go (t := (146, [some (.inr (some a0)), some (.inr r1), some (.inl x2)], [.inr (some a0)], M)) sm_a46_145 rfl rfl rfl ?_
    obtain ⟨h_2, h⟩ := h
    refine ru_go (t := (149, [some (.inr (some a0)), some (.inr r1), some (.inl x2)], [.inl (sm_I M a0 1)], M)) sm_a46_146 rfl rfl (st_getI h_2 rfl) ?_
    refine ru_go (t := (151, [some (.inr (some a0)), some (.inr r1), some (.inl x2)], [.inl 16, .inl (sm_I M a0 1)], M)) sm_a46_149 rfl rfl (st_bipush (by decide)) ?_
    refine ru_icmp (pc := 151) (p := 158) (p2 := 154) sm_a46_151 (by decide) rfl ⟨fun hc_3 => ?_, fun hc_3 => ?_⟩
    · have h := h.1 hc_3
      refine ru_go (t := (159, [some (.inr (some a0)), some (.inr r1), some (.inl x2)], [.inl 0], M)) sm_a46_158 rfl rfl (st_iconst (by decide)) ?_
      exact ru_ret sm_a46_159 (sm_rvz rfl (by decide)) h
    · have h := h.2 hc_3
      refine ru_go (t := (155, [some (.inr (some a0)), some (.inr r1), some (.inl x2)], [.inl 1], M)) sm_a46_154 rfl rfl (st_iconst (by decide)) ?_
      refine ru_go (t := (159, [some (.inr (some a0)), some (.inr r1), some (.inl x2)], [.inl 1], M)) sm_a46_155 rfl rfl (st_goto (pc := 155) (by decide)) ?_
      exact ru_ret sm_a46_159 (sm_rvz rfl (by decide)) h

/-! WireBus$Coder.hasTail:()Z -/
theorem sm_a47_0 : sm_at 47 0 = some (.aload_n 0, 1, (0, 0, 0, 0)) := by decide +kernel
theorem sm_a47_1 : sm_at 47 1 = some (.getfield 22, 3, (2, 3, 0, 195)) := by decide +kernel
theorem sm_a47_4 : sm_at 47 4 = some (.iconst 3, 1, (0, 0, 0, 0)) := by decide +kernel
theorem sm_a47_5 : sm_at 47 5 = some (.if_icmp .le 52, 3, (0, 0, 0, 0)) := by decide +kernel
theorem sm_a47_8 : sm_at 47 8 = some (.aload_n 0, 1, (0, 0, 0, 0)) := by decide +kernel
theorem sm_a47_9 : sm_at 47 9 = some (.getfield 15, 3, (2, 2, 0, 193)) := by decide +kernel
theorem sm_a47_12 : sm_at 47 12 = some (.aload_n 0, 1, (0, 0, 0, 0)) := by decide +kernel
theorem sm_a47_13 : sm_at 47 13 = some (.getfield 22, 3, (2, 3, 0, 195)) := by decide +kernel
theorem sm_a47_16 : sm_at 47 16 = some (.iconst 1, 1, (0, 0, 0, 0)) := by decide +kernel
theorem sm_a47_17 : sm_at 47 17 = some (.isub, 1, (0, 0, 0, 0)) := by decide +kernel
theorem sm_a47_18 : sm_at 47 18 = some (.iaload, 1, (0, 0, 0, 0)) := by decide +kernel
theorem sm_a47_19 : sm_at 47 19 = some (.iconst 1, 1, (0, 0, 0, 0)) := by decide +kernel
theorem sm_a47_20 : sm_at 47 20 = some (.if_icmp .ne 37, 3, (0, 0, 0, 0)) := by decide +kernel
theorem sm_a47_23 : sm_at 47 23 = some (.aload_n 0, 1, (0, 0, 0, 0)) := by decide +kernel
theorem sm_a47_24 : sm_at 47 24 = some (.getfield 15, 3, (2, 2, 0, 193)) := by decide +kernel
theorem sm_a47_27 : sm_at 47 27 = some (.aload_n 0, 1, (0, 0, 0, 0)) := by decide +kernel
theorem sm_a47_28 : sm_at 47 28 = some (.getfield 22, 3, (2, 3, 0, 195)) := by decide +kernel
theorem sm_a47_31 : sm_at 47 31 = some (.iconst 2, 1, (0, 0, 0, 0)) := by decide +kernel
theorem sm_a47_32 : sm_at 47 32 = some (.isub, 1, (0, 0, 0, 0)) := by decide +kernel
theorem sm_a47_33 : sm_at 47 33 = some (.iaload, 1, (0, 0, 0, 0)) := by decide +kernel
theorem sm_a47_34 : sm_at 47 34 = some (.iconst 2, 1, (0, 0, 0, 0)) := by decide +kernel
theorem sm_a47_35 : sm_at 47 35 = some (.if_icmp .ne 22, 3, (0, 0, 0, 0)) := by decide +kernel
theorem sm_a47_38 : sm_at 47 38 = some (.aload_n 0, 1, (0, 0, 0, 0)) := by decide +kernel
theorem sm_a47_39 : sm_at 47 39 = some (.getfield 15, 3, (2, 2, 0, 193)) := by decide +kernel
theorem sm_a47_42 : sm_at 47 42 = some (.aload_n 0, 1, (0, 0, 0, 0)) := by decide +kernel
theorem sm_a47_43 : sm_at 47 43 = some (.getfield 22, 3, (2, 3, 0, 195)) := by decide +kernel
theorem sm_a47_46 : sm_at 47 46 = some (.iconst 3, 1, (0, 0, 0, 0)) := by decide +kernel
theorem sm_a47_47 : sm_at 47 47 = some (.isub, 1, (0, 0, 0, 0)) := by decide +kernel
theorem sm_a47_48 : sm_at 47 48 = some (.iaload, 1, (0, 0, 0, 0)) := by decide +kernel
theorem sm_a47_49 : sm_at 47 49 = some (.iconst 2, 1, (0, 0, 0, 0)) := by decide +kernel
theorem sm_a47_50 : sm_at 47 50 = some (.if_icmp .ne 7, 3, (0, 0, 0, 0)) := by decide +kernel
theorem sm_a47_53 : sm_at 47 53 = some (.iconst 1, 1, (0, 0, 0, 0)) := by decide +kernel
theorem sm_a47_54 : sm_at 47 54 = some (.goto 4, 3, (0, 0, 0, 0)) := by decide +kernel
theorem sm_a47_57 : sm_at 47 57 = some (.iconst 0, 1, (0, 0, 0, 0)) := by decide +kernel
theorem sm_a47_58 : sm_at 47 58 = some (.ireturn, 1, (0, 0, 0, 0)) := by decide +kernel
theorem bb_47_0 {d : Nat} {M : sm_M} {Q : Option sm_V → sm_M → Prop} {a0 : Nat}
    (h : sm_K M a0 = 9 ∧ (((sm_I M a0 3) ≤ 3 → Q (some (.inl 0)) M) ∧ (¬ ((sm_I M a0 3) ≤ 3) → ∃ b_3, sm_R M a0 2 = some b_3 ∧ sm_iA M b_3 ∧ sm_in_ M b_3 ((sm_I M a0 3) - 1) ∧ ((¬ (sm_I M b_3 ((sm_I M a0 3) - 1).toNatClampNeg) = 1 → Q (some (.inl 0)) M) ∧ (¬ (¬ (sm_I M b_3 ((sm_I M a0 3) - 1).toNatClampNeg) = 1) → ∃ b_8, sm_R M a0 2 = some b_8 ∧ sm_iA M b_8 ∧ sm_in_ M b_8 ((sm_I M a0 3) - 2) ∧ ((¬ (sm_I M b_8 ((sm_I M a0 3) - 2).toNatClampNeg) = 2 → Q (some (.inl 0)) M) ∧ (¬ (¬ (sm_I M b_8 ((sm_I M a0 3) - 2).toNatClampNeg) = 2) → ∃ b_13, sm_R M a0 2 = some b_13 ∧ sm_iA M b_13 ∧ sm_in_ M b_13 ((sm_I M a0 3) - 3) ∧ ((¬ (sm_I M b_13 ((sm_I M a0 3) - 3).toNatClampNeg) = 2 → Q (some (.inl 0)) M) ∧ (¬ (¬ (sm_I M b_13 ((sm_I M a0 3) - 3).toNatClampNeg) = 2) → Q (some (.inl 1)) M))))))))) :
    sm_Run d 47 0 [some (.inr (some a0))] [] M Q := by
  refine ru_go (t := (1, [some (.inr (some a0))], [.inr (some a0)], M)) sm_a47_0 rfl rfl rfl ?_
  obtain ⟨h_1, h⟩ := h
  refine ru_go (t := (4, [some (.inr (some a0))], [.inl (sm_I M a0 3)], M)) sm_a47_1 rfl rfl (st_getI h_1 rfl) ?_
  refine ru_go (t := (5, [some (.inr (some a0))], [.inl 3, .inl (sm_I M a0 3)], M)) sm_a47_4 rfl rfl (st_iconst (by decide)) ?_
  refine ru_icmp (pc := 5) (p := 57) (p2 := 8) sm_a47_5 (by decide) rfl ⟨fun hc_2 => ?_, fun hc_2 => ?_⟩
  · have h := h.1 hc_2
    refine ru_go (t := (58, [some (.inr (some a0))], [.inl 0], M)) sm_a47_57 rfl rfl (st_iconst (by decide)) ?_
    exact ru_ret sm_a47_58 (sm_rvz rfl (by decide)) h
  · have h := h.2 hc_2
    refine ru_go (t := (9, [some (.inr (some a0))], [.inr (some a0)], M)) sm_a47_8 rfl rfl rfl ?_
    refine ru_go (t := (12, [some (.inr (some a0))], [.inr (sm_R M a0 2)], M)) sm_a47_9 rfl rfl (st_getR h_1 rfl rfl) ?_
    refine ru_go (t := (13, [some (.inr (some a0))], [.inr (some a0), .inr (sm_R M a0 2)], M)) sm_a47_12 rfl rfl rfl ?_
    refine ru_go (t := (16, [some (.inr (some a0))], [.inl (sm_I M a0 3), .inr (sm_R M a0 2)], M)) sm_a47_13 rfl rfl (st_getI h_1 rfl) ?_
    refine ru_go (t := (17, [some (.inr (some a0))], [.inl 1, .inl (sm_I M a0 3), .inr (sm_R M a0 2)], M)) sm_a47_16 rfl rfl (st_iconst (by decide)) ?_
    refine ru_go (t := (18, [some (.inr (some a0))], [.inl ((sm_I M a0 3) - 1), .inr (sm_R M a0 2)], M)) sm_a47_17 rfl rfl rfl ?_
    obtain ⟨b_3, hb_4, h⟩ := h
    rw [hb_4]
    obtain ⟨h_5, h⟩ := h
    obtain ⟨h_6, h⟩ := h
    refine ru_go (t := (19, [some (.inr (some a0))], [.inl (sm_I M b_3 ((sm_I M a0 3) - 1).toNatClampNeg)], M)) sm_a47_18 rfl rfl (st_iald h_5 h_6) ?_
    refine ru_go (t := (20, [some (.inr (some a0))], [.inl 1, .inl (sm_I M b_3 ((sm_I M a0 3) - 1).toNatClampNeg)], M)) sm_a47_19 rfl rfl (st_iconst (by decide)) ?_
    refine ru_icmp (pc := 20) (p := 57) (p2 := 23) sm_a47_20 (by decide) rfl ⟨fun hc_7 => ?_, fun hc_7 => ?_⟩
    · have h := h.1 hc_7
      refine ru_go (t := (58, [some (.inr (some a0))], [.inl 0], M)) sm_a47_57 rfl rfl (st_iconst (by decide)) ?_
      exact ru_ret sm_a47_58 (sm_rvz rfl (by decide)) h
    · have h := h.2 hc_7
      refine ru_go (t := (24, [some (.inr (some a0))], [.inr (some a0)], M)) sm_a47_23 rfl rfl rfl ?_
      refine ru_go (t := (27, [some (.inr (some a0))], [.inr (sm_R M a0 2)], M)) sm_a47_24 rfl rfl (st_getR h_1 rfl rfl) ?_
      refine ru_go (t := (28, [some (.inr (some a0))], [.inr (some a0), .inr (sm_R M a0 2)], M)) sm_a47_27 rfl rfl rfl ?_
      refine ru_go (t := (31, [some (.inr (some a0))], [.inl (sm_I M a0 3), .inr (sm_R M a0 2)], M)) sm_a47_28 rfl rfl (st_getI h_1 rfl) ?_
      refine ru_go (t := (32, [some (.inr (some a0))], [.inl 2, .inl (sm_I M a0 3), .inr (sm_R M a0 2)], M)) sm_a47_31 rfl rfl (st_iconst (by decide)) ?_
      refine ru_go (t := (33, [some (.inr (some a0))], [.inl ((sm_I M a0 3) - 2), .inr (sm_R M a0 2)], M)) sm_a47_32 rfl rfl rfl ?_
      obtain ⟨b_8, hb_9, h⟩ := h
      rw [hb_9]
      obtain ⟨h_10, h⟩ := h
      obtain ⟨h_11, h⟩ := h
      refine ru_go (t := (34, [some (.inr (some a0))], [.inl (sm_I M b_8 ((sm_I M a0 3) - 2).toNatClampNeg)], M)) sm_a47_33 rfl rfl (st_iald h_10 h_11) ?_
      refine ru_go (t := (35, [some (.inr (some a0))], [.inl 2, .inl (sm_I M b_8 ((sm_I M a0 3) - 2).toNatClampNeg)], M)) sm_a47_34 rfl rfl (st_iconst (by decide)) ?_
      refine ru_icmp (pc := 35) (p := 57) (p2 := 38) sm_a47_35 (by decide) rfl ⟨fun hc_12 => ?_, fun hc_12 => ?_⟩
      · have h := h.1 hc_12
        refine ru_go (t := (58, [some (.inr (some a0))], [.inl 0], M)) sm_a47_57 rfl rfl (st_iconst (by decide)) ?_
        exact ru_ret sm_a47_58 (sm_rvz rfl (by decide)) h
      · have h := h.2 hc_12
        refine ru_go (t := (39, [some (.inr (some a0))], [.inr (some a0)], M)) sm_a47_38 rfl rfl rfl ?_
        refine ru_go (t := (42, [some (.inr (some a0))], [.inr (sm_R M a0 2)], M)) sm_a47_39 rfl rfl (st_getR h_1 rfl rfl) ?_
        refine ru_go (t := (43, [some (.inr (some a0))], [.inr (some a0), .inr (sm_R M a0 2)], M)) sm_a47_42 rfl rfl rfl ?_
        refine ru_go (t := (46, [some (.inr (some a0))], [.inl (sm_I M a0 3), .inr (sm_R M a0 2)], M)) sm_a47_43 rfl rfl (st_getI h_1 rfl) ?_
        refine ru_go (t := (47, [some (.inr (some a0))], [.inl 3, .inl (sm_I M a0 3), .inr (sm_R M a0 2)], M)) sm_a47_46 rfl rfl (st_iconst (by decide)) ?_
        refine ru_go (t := (48, [some (.inr (some a0))], [.inl ((sm_I M a0 3) - 3), .inr (sm_R M a0 2)], M)) sm_a47_47 rfl rfl rfl ?_
        obtain ⟨b_13, hb_14, h⟩ := h
        rw [hb_14]
        obtain ⟨h_15, h⟩ := h
        obtain ⟨h_16, h⟩ := h
        refine ru_go (t := (49, [some (.inr (some a0))], [.inl (sm_I M b_13 ((sm_I M a0 3) - 3).toNatClampNeg)], M)) sm_a47_48 rfl rfl (st_iald h_15 h_16) ?_
        refine ru_go (t := (50, [some (.inr (some a0))], [.inl 2, .inl (sm_I M b_13 ((sm_I M a0 3) - 3).toNatClampNeg)], M)) sm_a47_49 rfl rfl (st_iconst (by decide)) ?_
        refine ru_icmp (pc := 50) (p := 57) (p2 := 53) sm_a47_50 (by decide) rfl ⟨fun hc_17 => ?_, fun hc_17 => ?_⟩
        · have h := h.1 hc_17
          refine ru_go (t := (58, [some (.inr (some a0))], [.inl 0], M)) sm_a47_57 rfl rfl (st_iconst (by decide)) ?_
          exact ru_ret sm_a47_58 (sm_rvz rfl (by decide)) h
        · have h := h.2 hc_17
          refine ru_go (t := (54, [some (.inr (some a0))], [.inl 1], M)) sm_a47_53 rfl rfl (st_iconst (by decide)) ?_
          refine ru_go (t := (58, [some (.inr (some a0))], [.inl 1], M)) sm_a47_54 rfl rfl (st_goto (pc := 54) (by decide)) ?_
          exact ru_ret sm_a47_58 (sm_rvz rfl (by decide)) h

/-! WireBus$Coder.liftBits:()Z -/
theorem sm_a48_0 : sm_at 48 0 = some (.iconst 1, 1, (0, 0, 0, 0)) := by decide +kernel
theorem sm_a48_1 : sm_at 48 1 = some (.istore_n 1, 1, (0, 0, 0, 0)) := by decide +kernel
theorem sm_a48_2 : sm_at 48 2 = some (.iconst 0, 1, (0, 0, 0, 0)) := by decide +kernel
theorem sm_a48_3 : sm_at 48 3 = some (.istore_n 2, 1, (0, 0, 0, 0)) := by decide +kernel
theorem sm_a48_4 : sm_at 48 4 = some (.aload_n 0, 1, (0, 0, 0, 0)) := by decide +kernel
theorem sm_a48_5 : sm_at 48 5 = some (.iconst 0, 1, (0, 0, 0, 0)) := by decide +kernel
theorem sm_a48_6 : sm_at 48 6 = some (.putfield 18, 3, (2, 1, 0, 192)) := by decide +kernel
theorem sm_a48_9 : sm_at 48 9 = some (.iconst 0, 1, (0, 0, 0, 0)) := by decide +kernel
theorem sm_a48_10 : sm_at 48 10 = some (.istore_n 3, 1, (0, 0, 0, 0)) := by decide +kernel
theorem sm_a48_11 : sm_at 48 11 = some (.iload_n 3, 1, (0, 0, 0, 0)) := by decide +kernel
theorem sm_a48_12 : sm_at 48 12 = some (.aload_n 0, 1, (0, 0, 0, 0)) := by decide +kernel
theorem sm_a48_13 : sm_at 48 13 = some (.getfield 22, 3, (2, 3, 0, 195)) := by decide +kernel
theorem sm_a48_16 : sm_at 48 16 = some (.iconst 3, 1, (0, 0, 0, 0)) := by decide +kernel
theorem sm_a48_17 : sm_at 48 17 = some (.isub, 1, (0, 0, 0, 0)) := by decide +kernel
theorem sm_a48_18 : sm_at 48 18 = some (.if_icmp .ge 78, 3, (0, 0, 0, 0)) := by decide +kernel
theorem sm_a48_21 : sm_at 48 21 = some (.aload_n 0, 1, (0, 0, 0, 0)) := by decide +kernel
theorem sm_a48_22 : sm_at 48 22 = some (.getfield 15, 3, (2, 2, 0, 193)) := by decide +kernel
theorem sm_a48_25 : sm_at 48 25 = some (.iload_n 3, 1, (0, 0, 0, 0)) := by decide +kernel
theorem sm_a48_26 : sm_at 48 26 = some (.iaload, 1, (0, 0, 0, 0)) := by decide +kernel
theorem sm_a48_27 : sm_at 48 27 = some (.istore 4, 2, (0, 0, 0, 0)) := by decide +kernel
theorem sm_a48_29 : sm_at 48 29 = some (.iload 4, 2, (0, 0, 0, 0)) := by decide +kernel
theorem sm_a48_31 : sm_at 48 31 = some (.iconst 2, 1, (0, 0, 0, 0)) := by decide +kernel
theorem sm_a48_32 : sm_at 48 32 = some (.if_icmp .ne 5, 3, (0, 0, 0, 0)) := by decide +kernel
theorem sm_a48_35 : sm_at 48 35 = some (.iconst 0, 1, (0, 0, 0, 0)) := by decide +kernel
theorem sm_a48_36 : sm_at 48 36 = some (.ireturn, 1, (0, 0, 0, 0)) := by decide +kernel
theorem sm_a48_37 : sm_at 48 37 = some (.iload 4, 2, (0, 0, 0, 0)) := by decide +kernel
theorem sm_a48_39 : sm_at 48 39 = some (.iload_n 1, 1, (0, 0, 0, 0)) := by decide +kernel
theorem sm_a48_40 : sm_at 48 40 = some (.if_icmp .ne 7, 3, (0, 0, 0, 0)) := by decide +kernel
theorem sm_a48_43 : sm_at 48 43 = some (.iconst 1, 1, (0, 0, 0, 0)) := by decide +kernel
theorem sm_a48_44 : sm_at 48 44 = some (.goto 4, 3, (0, 0, 0, 0)) := by decide +kernel
theorem sm_a48_47 : sm_at 48 47 = some (.iconst 0, 1, (0, 0, 0, 0)) := by decide +kernel
theorem sm_a48_48 : sm_at 48 48 = some (.istore 5, 2, (0, 0, 0, 0)) := by decide +kernel
theorem sm_a48_50 : sm_at 48 50 = some (.iload 4, 2, (0, 0, 0, 0)) := by decide +kernel
theorem sm_a48_52 : sm_at 48 52 = some (.istore_n 1, 1, (0, 0, 0, 0)) := by decide +kernel
theorem sm_a48_53 : sm_at 48 53 = some (.iload_n 2, 1, (0, 0, 0, 0)) := by decide +kernel
theorem sm_a48_54 : sm_at 48 54 = some (.bipush 6, 2, (0, 0, 0, 0)) := by decide +kernel
theorem sm_a48_56 : sm_at 48 56 = some (.if_icmp .ge 12, 3, (0, 0, 0, 0)) := by decide +kernel
theorem sm_a48_59 : sm_at 48 59 = some (.aload_n 0, 1, (0, 0, 0, 0)) := by decide +kernel
theorem sm_a48_60 : sm_at 48 60 = some (.iload 5, 2, (0, 0, 0, 0)) := by decide +kernel
theorem sm_a48_62 : sm_at 48 62 = some (.invokevirtual 56, 3, (10, 39, 2, 784)) := by decide +kernel
theorem sm_a48_65 : sm_at 48 65 = some (.goto 11, 3, (0, 0, 0, 0)) := by decide +kernel
theorem sm_a48_68 : sm_at 48 68 = some (.iload 5, 2, (0, 0, 0, 0)) := by decide +kernel
theorem sm_a48_70 : sm_at 48 70 = some (.iconst 1, 1, (0, 0, 0, 0)) := by decide +kernel
theorem sm_a48_71 : sm_at 48 71 = some (.if_icmp .ne 5, 3, (0, 0, 0, 0)) := by decide +kernel
theorem sm_a48_74 : sm_at 48 74 = some (.iconst 0, 1, (0, 0, 0, 0)) := by decide +kernel
theorem sm_a48_75 : sm_at 48 75 = some (.ireturn, 1, (0, 0, 0, 0)) := by decide +kernel
theorem sm_a48_76 : sm_at 48 76 = some (.iload 5, 2, (0, 0, 0, 0)) := by decide +kernel
theorem sm_a48_78 : sm_at 48 78 = some (.iconst 1, 1, (0, 0, 0, 0)) := by decide +kernel
theorem sm_a48_79 : sm_at 48 79 = some (.if_icmp .ne 9, 3, (0, 0, 0, 0)) := by decide +kernel
theorem sm_a48_82 : sm_at 48 82 = some (.iload_n 2, 1, (0, 0, 0, 0)) := by decide +kernel
theorem sm_a48_83 : sm_at 48 83 = some (.iconst 1, 1, (0, 0, 0, 0)) := by decide +kernel
theorem sm_a48_84 : sm_at 48 84 = some (.iadd, 1, (0, 0, 0, 0)) := by decide +kernel
theorem sm_a48_85 : sm_at 48 85 = some (.goto 4, 3, (0, 0, 0, 0)) := by decide +kernel
theorem sm_a48_88 : sm_at 48 88 = some (.iconst 0, 1, (0, 0, 0, 0)) := by decide +kernel
theorem sm_a48_89 : sm_at 48 89 = some (.istore_n 2, 1, (0, 0, 0, 0)) := by decide +kernel
theorem sm_a48_90 : sm_at 48 90 = some (.iinc 3 1, 3, (0, 0, 0, 0)) := by decide +kernel
theorem sm_a48_93 : sm_at 48 93 = some (.goto (-82), 3, (0, 0, 0, 0)) := by decide +kernel
theorem sm_a48_96 : sm_at 48 96 = some (.iload_n 2, 1, (0, 0, 0, 0)) := by decide +kernel
theorem sm_a48_97 : sm_at 48 97 = some (.bipush 6, 2, (0, 0, 0, 0)) := by decide +kernel
theorem sm_a48_99 : sm_at 48 99 = some (.if_icmp .ge 7, 3, (0, 0, 0, 0)) := by decide +kernel
theorem sm_a48_102 : sm_at 48 102 = some (.iconst 1, 1, (0, 0, 0, 0)) := by decide +kernel
theorem sm_a48_103 : sm_at 48 103 = some (.goto 4, 3, (0, 0, 0, 0)) := by decide +kernel
theorem sm_a48_106 : sm_at 48 106 = some (.iconst 0, 1, (0, 0, 0, 0)) := by decide +kernel
theorem sm_a48_107 : sm_at 48 107 = some (.ireturn, 1, (0, 0, 0, 0)) := by decide +kernel
theorem bb_48_0 {d : Nat} {M : sm_M} {Q : Option sm_V → sm_M → Prop} {a0 : Nat} {z1 : Option sm_V} {z2 : Option sm_V} {z3 : Option sm_V} {z4 : Option sm_V} {z5 : Option sm_V}
    (h : sm_K M a0 = 9 ∧ sm_Run (d + 1) 48 11 [some (.inr (some a0)), some (.inl 1), some (.inl 0), some (.inl 0), z4, z5] [] (sm_putI M a0 1 0) Q) :
    sm_Run (d + 1) 48 0 [some (.inr (some a0)), z1, z2, z3, z4, z5] [] M Q := by
  refine ru_go (t := (1, [some (.inr (some a0)), z1, z2, z3, z4, z5], [.inl 1], M)) sm_a48_0 rfl rfl (st_iconst (by decide)) ?_
  refine ru_go (t := (2, [some (.inr (some a0)), some (.inl 1), z2, z3, z4, z5], [], M)) sm_a48_1 rfl rfl rfl ?_
  refine ru_go (t := (3, [some (.inr (some a0)), some (.inl 1), z2, z3, z4, z5], [.inl 0], M)) sm_a48_2 rfl rfl (st_iconst (by decide)) ?_
  refine ru_go (t := (4, [some (.inr (some a0)), some (.inl 1), some (.inl 0), z3, z4, z5], [], M)) sm_a48_3 rfl rfl rfl ?_
  refine ru_go (t := (5, [some (.inr (some a0)), some (.inl 1), some (.inl 0), z3, z4, z5], [.inr (some a0)], M)) sm_a48_4 rfl rfl rfl ?_
  refine ru_go (t := (6, [some (.inr (some a0)), some (.inl 1), some (.inl 0), z3, z4, z5], [.inl 0, .inr (some a0)], M)) sm_a48_5 rfl rfl (st_iconst (by decide)) ?_
  obtain ⟨h_1, h⟩ := h
  refine ru_go (t := (9, [some (.inr (some a0)), some (.inl 1), some (.inl 0), z3, z4, z5], [], sm_putI M a0 1 0)) sm_a48_6 rfl rfl (st_putI h_1 rfl) ?_
  refine ru_go (t := (10, [some (.inr (some a0)), some (.inl 1), some (.inl 0), z3, z4, z5], [.inl 0], sm_putI M a0 1 0)) sm_a48_9 rfl rfl (st_iconst (by decide)) ?_
  refine ru_go (t := (11, [some (.inr (some a0)), some (.inl 1), some (.inl 0), some (.inl 0), z4, z5], [], sm_putI M a0 1 0)) sm_a48_10 rfl rfl rfl ?_
  exact h
theorem bb_48_11 {d : Nat} {M : sm_M} {Q : Option sm_V → sm_M → Prop} {a0 : Nat} {x1 : Int32} {x2 : Int32} {x3 : Int32} {z4 : Option sm_V} {z5 : Option sm_V}
    (h : sm_K M a0 = 9 ∧ ((((sm_I M a0 3) - 3) ≤ x3 → ((6 ≤ x2 → Q (some (.inl 0)) M) ∧ (¬ (6 ≤ x2) → Q (some (.inl 1)) M))) ∧ (¬ (((sm_I M a0 3) - 3) ≤ x3) → ∃ b_4, sm_R M a0 2 = some b_4 ∧ sm_iA M b_4 ∧ sm_in_ M b_4 x3 ∧ ((¬ (sm_I M b_4 (x3).toNatClampNeg) = 2 → ((¬ (sm_I M b_4 (x3).toNatClampNeg) = x1 → ((6 ≤ x2 → sm_Run (d + 1) 48 76 [some (.inr (some a0)), some (.inl (sm_I M b_4 (x3).toNatClampNeg)), some (.inl x2), some (.inl x3), some (.inl (sm_I M b_4 (x3).toNatClampNeg)), some (.inl 0)] [] M Q) ∧ (¬ (6 ≤ x2) → sm_Run d 39 0 (sm_ent 39 [.inr (some a0), .inl 0]) [] M (fun v M1 => sm_Run (d + 1) 48 65 [some (.inr (some a0)), some (.inl (sm_I M b_4 (x3).toNatClampNeg)), some (.inl x2), some (.inl x3), some (.inl (sm_I M b_4 (x3).toNatClampNeg)), some (.inl 0)] (v.toList ++ []) M1 Q)))) ∧ (¬ (¬ (sm_I M b_4 (x3).toNatClampNeg) = x1) → ((6 ≤ x2 → Q (some (.inl 0)) M) ∧ (¬ (6 ≤ x2) → sm_Run d 39 0 (sm_ent 39 [.inr (some a0), .inl 1]) [] M (fun v M1 => sm_Run (d + 1) 48 65 [some (.inr (some a0)), some (.inl (sm_I M b_4 (x3).toNatClampNeg)), some (.inl x2), some (.inl x3), some (.inl (sm_I M b_4 (x3).toNatClampNeg)), some (.inl 1)] (v.toList ++ []) M1 Q)))))) ∧ (¬ (¬ (sm_I M b_4 (x3).toNatClampNeg) = 2) → Q (some (.inl 0)) M))))) :
    sm_Run (d + 1) 48 11 [some (.inr (some a0)), some (.inl x1), some (.inl x2), some (.inl x3), z4, z5] [] M Q := by
  refine ru_go (t := (12, [some (.inr (some a0)), some (.inl x1), some (.inl x2), some (.inl x3), z4, z5], [.inl x3], M)) sm_a48_11 rfl rfl rfl ?_
  refine ru_go (t := (13, [some (.inr (some a0)), some (.inl x1), some (.inl x2), some (.inl x3), z4, z5], [.inr (some a0), .inl x3], M)) sm_a48_12 rfl rfl rfl ?_
  obtain ⟨h_1, h⟩ := h
  refine ru_go (t := (16, [some (.inr (some a0)), some (.inl x1), some (.inl x2), some (.inl x3), z4, z5], [.inl (sm_I M a0 3), .inl x3], M)) sm_a48_13 rfl rfl (st_getI h_1 rfl) ?_
  refine ru_go (t := (17, [some (.inr (some a0)), some (.inl x1), some (.inl x2), some (.inl x3), z4, z5], [.inl 3, .inl (sm_I M a0 3), .inl x3], M)) sm_a48_16 rfl rfl (st_iconst (by decide)) ?_
  refine ru_go (t := (18, [some (.inr (some a0)), some (.inl x1), some (.inl x2), some (.inl x3), z4, z5], [.inl ((sm_I M a0 3) - 3), .inl x3], M)) sm_a48_17 rfl rfl rfl ?_
  refine ru_icmp (pc := 18) (p := 96) (p2 := 21) sm_a48_18 (by decide) rfl ⟨fun hc_2 => ?_, fun hc_2 => ?_⟩
  · have h := h.1 hc_2
    refine ru_go (t := (97, [some (.inr (some a0)), some (.inl x1), some (.inl x2), some (.inl x3), z4, z5], [.inl x2], M)) sm_a48_96 rfl rfl rfl ?_
    refine ru_go (t := (99, [some (.inr (some a0)), some (.inl x1), some (.inl x2), some (.inl x3), z4, z5], [.inl 6, .inl x2], M)) sm_a48_97 rfl rfl (st_bipush (by decide)) ?_
    refine ru_icmp (pc := 99) (p := 106) (p2 := 102) sm_a48_99 (by decide) rfl ⟨fun hc_3 => ?_, fun hc_3 => ?_⟩
    · have h := h.1 hc_3
      refine ru_go (t := (107, [some (.inr (some a0)), some (.inl x1), some (.inl x2), some (.inl x3), z4, z5], [.inl 0], M)) sm_a48_106 rfl rfl (st_iconst (by decide)) ?_
      exact ru_ret sm_a48_107 (sm_rvz rfl (by decide)) h
    · have h := h.2 hc_3
      refine ru_go (t := (103, [some (.inr (some a0)), some (.inl x1), some (.inl x2), some (.inl x3), z4, z5], [.inl 1], M)) sm_a48_102 rfl rfl (st_iconst (by decide)) ?_
      refine ru_go (t := (107, [some (.inr (some a0)), some (.inl x1), some (.inl x2), some (.inl x3), z4, z5], [.inl 1], M)) sm_a48_103 rfl rfl (st_goto (pc := 103) (by decide)) ?_
      exact ru_ret sm_a48_107 (sm_rvz rfl (by decide)) h
  · have h := h.2 hc_2
    refine ru_go (t := (22, [some (.inr (some a0)), some (.inl x1), some (.inl x2), some (.inl x3), z4, z5], [.inr (some a0)], M)) sm_a48_21 rfl rfl rfl ?_
    refine ru_go (t := (25, [some (.inr (some a0)), some (.inl x1), some (.inl x2), some (.inl x3), z4, z5], [.inr (sm_R M a0 2)], M)) sm_a48_22 rfl rfl (st_getR h_1 rfl rfl) ?_
    refine ru_go (t := (26, [some (.inr (some a0)), some (.inl x1), some (.inl x2), some (.inl x3), z4, z5], [.inl x3, .inr (sm_R M a0 2)], M)) sm_a48_25 rfl rfl rfl ?_
    obtain ⟨b_4, hb_5, h⟩ := h
    rw [hb_5]
    obtain ⟨h_6, h⟩ := h
    obtain ⟨h_7, h⟩ := h
    refine ru_go (t := (27, [some (.inr (some a0)), some (.inl x1), some (.inl x2), some (.inl x3), z4, z5], [.inl (sm_I M b_4 (x3).toNatClampNeg)], M)) sm_a48_26 rfl rfl (st_iald h_6 h_7) ?_
    refine ru_go (t := (29, [some (.inr (some a0)), some (.inl x1), some (.inl x2), some (.inl x3), some (.inl (sm_I M b_4 (x3).toNatClampNeg)), z5], [], M)) sm_a48_27 rfl rfl rfl ?_
    refine ru_go (t := (31, [some (.inr (some a0)), some (.inl x1), some (.inl x2), some (.inl x3), some (.inl (sm_I M b_4 (x3).toNatClampNeg)), z5], [.inl (sm_I M b_4 (x3).toNatClampNeg)], M)) sm_a48_29 rfl rfl rfl ?_
    refine ru_go (t := (32, [some (.inr (some a0)), some (.inl x1), some (.inl x2), some (.inl x3), some (.inl (sm_I M b_4 (x3).toNatClampNeg)), z5], [.inl 2, .inl (sm_I M b_4 (x3).toNatClampNeg)], M)) sm_a48_31 rfl rfl (st_iconst (by decide)) ?_
    refine ru_icmp (pc := 32) (p := 37) (p2 := 35) sm_a48_32 (by decide) rfl ⟨fun hc_8 => ?_, fun hc_8 => ?_⟩
    · have h := h.1 hc_8
      refine ru_go (t := (39, [some (.inr (some a0)), some (.inl x1), some (.inl x2), some (.inl x3), some (.inl (sm_I M b_4 (x3).toNatClampNeg)), z5], [.inl (sm_I M b_4 (x3).toNatClampNeg)], M)) sm_a48_37 rfl rfl rfl ?_
      refine ru_go (t := (40, [some (.inr (some a0)), some (.inl x1), some (.inl x2), some (.inl x3), some (.inl (sm_I M b_4 (x3).toNatClampNeg)), z5], [.inl x1, .inl (sm_I M b_4 (x3).toNatClampNeg)], M)) sm_a48_39 rfl rfl rfl ?_
      refine ru_icmp (pc := 40) (p := 47) (p2 := 43) sm_a48_40 (by decide) rfl ⟨fun hc_9 => ?_, fun hc_9 => ?_⟩
      · have h := h.1 hc_9
        refine ru_go (t := (48, [some (.inr (some a0)), some (.inl x1), some (.inl x2), some (.inl x3), some (.inl (sm_I M b_4 (x3).toNatClampNeg)), z5], [.inl 0], M)) sm_a48_47 rfl rfl (st_iconst (by decide)) ?_
        refine ru_go (t := (50, [some (.inr (some a0)), some (.inl x1), some (.inl x2), some (.inl x3), some (.inl (sm_I M b_4 (x3).toNatClampNeg)), some (.inl 0)], [], M)) sm_a48_48 rfl rfl rfl ?_
        refine ru_go (t := (52, [some (.inr (some a0)), some (.inl x1), some (.inl x2), some (.inl x3), some (.inl (sm_I M b_4 (x3).toNatClampNeg)), some (.inl 0)], [.inl (sm_I M b_4 (x3).toNatClampNeg)], M)) sm_a48_50 rfl rfl rfl ?_
        refine ru_go (t := (53, [some (.inr (some a0)), some (.inl (sm_I M b_4 (x3).toNatClampNeg)), some (.inl x2), some (.inl x3), some (.inl (sm_I M b_4 (x3).toNatClampNeg)), some (.inl 0)], [], M)) sm_a48_52 rfl rfl rfl ?_
        refine ru_go (t := (54, [some (.inr (some a0)), some (.inl (sm_I M b_4 (x3).toNatClampNeg)), some (.inl x2), some (.inl x3), some (.inl (sm_I M b_4 (x3).toNatClampNeg)), some (.inl 0)], [.inl x2], M)) sm_a48_53 rfl rfl rfl ?_
        refine ru_go (t := (56, [some (.inr (some a0)), some (.inl (sm_I M b_4 (x3).toNatClampNeg)), some (.inl x2), some (.inl x3), some (.inl (sm_I M b_4 (x3).toNatClampNeg)), some (.inl 0)], [.inl 6, .inl x2], M)) sm_a48_54 rfl rfl (st_bipush (by decide)) ?_
        refine ru_icmp (pc := 56) (p := 68) (p2 := 59) sm_a48_56 (by decide) rfl ⟨fun hc_10 => ?_, fun hc_10 => ?_⟩
        · have h := h.1 hc_10
          refine ru_go (t := (70, [some (.inr (some a0)), some (.inl (sm_I M b_4 (x3).toNatClampNeg)), some (.inl x2), some (.inl x3), some (.inl (sm_I M b_4 (x3).toNatClampNeg)), some (.inl 0)], [.inl 0], M)) sm_a48_68 rfl rfl rfl ?_
          refine ru_go (t := (71, [some (.inr (some a0)), some (.inl (sm_I M b_4 (x3).toNatClampNeg)), some (.inl x2), some (.inl x3), some (.inl (sm_I M b_4 (x3).toNatClampNeg)), some (.inl 0)], [.inl 1, .inl 0], M)) sm_a48_70 rfl rfl (st_iconst (by decide)) ?_
          refine ru_icmp (pc := 71) (p := 76) (p2 := 74) sm_a48_71 (by decide) rfl ⟨fun _ => ?_, fun hc => absurd (show sm_cP .ne 0 1 from (by show ¬ (0 : Int32) = 1; decide)) hc⟩
          exact h
        · have h := h.2 hc_10
          refine ru_go (t := (60, [some (.inr (some a0)), some (.inl (sm_I M b_4 (x3).toNatClampNeg)), some (.inl x2), some (.inl x3), some (.inl (sm_I M b_4 (x3).toNatClampNeg)), some (.inl 0)], [.inr (some a0)], M)) sm_a48_59 rfl rfl rfl ?_
          refine ru_go (t := (62, [some (.inr (some a0)), some (.inl (sm_I M b_4 (x3).toNatClampNeg)), some (.inl x2), some (.inl x3), some (.inl (sm_I M b_4 (x3).toNatClampNeg)), some (.inl 0)], [.inl 0, .inr (some a0)], M)) sm_a48_60 rfl rfl rfl ?_
          exact ru_call (p := 65) sm_a48_62 rfl (sc_virt (Or.inl rfl) rfl rfl h_1 (Nat.le_of_ble_eq_true rfl)) rfl h
      · have h := h.2 hc_9
        refine ru_go (t := (44, [some (.inr (some a0)), some (.inl x1), some (.inl x2), some (.inl x3), some (.inl (sm_I M b_4 (x3).toNatClampNeg)), z5], [.inl 1], M)) sm_a48_43 rfl rfl (st_iconst (by decide)) ?_
        refine ru_go (t := (48, [some (.inr (some a0)), some (.inl x1), some (.inl x2), some (.inl x3), some (.inl (sm_I M b_4 (x3).toNatClampNeg)), z5], [.inl 1], M)) sm_a48_44 rfl rfl (st_goto (pc := 44) (by decide)) ?_
        refine ru_go (t := (50, [some (.inr (some a0)), some (.inl x1), some (.inl x2), some (.inl x3), some (.inl (sm_I M b_4 (x3).toNatClampNeg)), some (.inl 1)], [], M)) sm_a48_48 rfl rfl rfl ?_
        refine ru_go (t := (52, [some (.inr (some a0)), some (.inl x1), some (.inl x2), some (.inl x3), some (.inl (sm_I M b_4 (x3).toNatClampNeg)), some (.inl 1)], [.inl (sm_I M b_4 (x3).toNatClampNeg)], M)) sm_a48_50 rfl rfl rfl ?_
        refine ru_go (t := (53, [some (.inr (some a0)), some (.inl (sm_I M b_4 (x3).toNatClampNeg)), some (.inl x2), some (.inl x3), some (.inl (sm_I M b_4 (x3).toNatClampNeg)), some (.inl 1)], [], M)) sm_a48_52 rfl rfl rfl ?_
        refine ru_go (t := (54, [some (.inr (some a0)), some (.inl (sm_I M b_4 (x3).toNatClampNeg)), some (.inl x2), some (.inl x3), some (.inl (sm_I M b_4 (x3).toNatClampNeg)), some (.inl 1)], [.inl x2], M)) sm_a48_53 rfl rfl rfl ?_
        refine ru_go (t := (56, [some (.inr (some a0)), some (.inl (sm_I M b_4 (x3).toNatClampNeg)), some (.inl x2), some (.inl x3), some (.inl (sm_I M b_4 (x3).toNatClampNeg)), some (.inl 1)], [.inl 6, .inl x2], M)) sm_a48_54 rfl rfl (st_bipush (by decide)) ?_
        refine ru_icmp (pc := 56) (p := 68) (p2 := 59) sm_a48_56 (by decide) rfl ⟨fun hc_11 => ?_, fun hc_11 => ?_⟩
        · have h := h.1 hc_11
          refine ru_go (t := (70, [some (.inr (some a0)), some (.inl (sm_I M b_4 (x3).toNatClampNeg)), some (.inl x2), some (.inl x3), some (.inl (sm_I M b_4 (x3).toNatClampNeg)), some (.inl 1)], [.inl 1], M)) sm_a48_68 rfl rfl rfl ?_
          refine ru_go (t := (71, [some (.inr (some a0)), some (.inl (sm_I M b_4 (x3).toNatClampNeg)), some (.inl x2), some (.inl x3), some (.inl (sm_I M b_4 (x3).toNatClampNeg)), some (.inl 1)], [.inl 1, .inl 1], M)) sm_a48_70 rfl rfl (st_iconst (by decide)) ?_
          refine ru_icmp (pc := 71) (p := 76) (p2 := 74) sm_a48_71 (by decide) rfl ⟨fun hc => absurd (show ¬ (1 : Int32) = 1 from hc) (by decide), fun _ => ?_⟩
          refine ru_go (t := (75, [some (.inr (some a0)), some (.inl (sm_I M b_4 (x3).toNatClampNeg)), some (.inl x2), some (.inl x3), some (.inl (sm_I M b_4 (x3).toNatClampNeg)), some (.inl 1)], [.inl 0], M)) sm_a48_74 rfl rfl (st_iconst (by decide)) ?_
          exact ru_ret sm_a48_75 (sm_rvz rfl (by decide)) h
        · have h := h.2 hc_11
          refine ru_go (t := (60, [some (.inr (some a0)), some (.inl (sm_I M b_4 (x3).toNatClampNeg)), some (.inl x2), some (.inl x3), some (.inl (sm_I M b_4 (x3).toNatClampNeg)), some (.inl 1)], [.inr (some a0)], M)) sm_a48_59 rfl rfl rfl ?_
          refine ru_go (t := (62, [some (.inr (some a0)), some (.inl (sm_I M b_4 (x3).toNatClampNeg)), some (.inl x2), some (.inl x3), some (.inl (sm_I M b_4 (x3).toNatClampNeg)), some (.inl 1)], [.inl 1, .inr (some a0)], M)) sm_a48_60 rfl rfl rfl ?_
          exact ru_call (p := 65) sm_a48_62 rfl (sc_virt (Or.inl rfl) rfl rfl h_1 (Nat.le_of_ble_eq_true rfl)) rfl h
    · have h := h.2 hc_8
      refine ru_go (t := (36, [some (.inr (some a0)), some (.inl x1), some (.inl x2), some (.inl x3), some (.inl (sm_I M b_4 (x3).toNatClampNeg)), z5], [.inl 0], M)) sm_a48_35 rfl rfl (st_iconst (by decide)) ?_
      exact ru_ret sm_a48_36 (sm_rvz rfl (by decide)) h
theorem bb_48_65 {d : Nat} {M : sm_M} {Q : Option sm_V → sm_M → Prop} {a0 : Nat} {x1 : Int32} {x2 : Int32} {x3 : Int32} {x4 : Int32} {x5 : Int32}
    (h : sm_Run (d + 1) 48 76 [some (.inr (some a0)), some (.inl x1), some (.inl x2), some (.inl x3), some (.inl x4), some (.inl x5)] [] M Q) :
    sm_Run (d + 1) 48 65 [some (.inr (some a0)), some (.inl x1), some (.inl x2), some (.inl x3), some (.inl x4), some (.inl x5)] [] M Q := by
  refine ru_go (t := (76, [some (.inr (some a0)), some (.inl x1), some (.inl x2), some (.inl x3), some (.inl x4), some (.inl x5)], [], M)) sm_a48_65 rfl rfl (st_goto (pc := 65) (by decide)) ?_
  exact h
theorem bb_48_76 {d : Nat} {M : sm_M} {Q : Option sm_V → sm_M → Prop} {a0 : Nat} {x1 : Int32} {x2 : Int32} {x3 : Int32} {x4 : Int32} {x5 : Int32}
    (h : ((¬ x5 = 1 → sm_Run (d + 1) 48 11 [some (.inr (some a0)), some (.inl x1), some (.inl 0), some (.inl (x3 + 1)), some (.inl x4), some (.inl x5)] [] M Q) ∧ (¬ (¬ x5 = 1) → sm_Run (d + 1) 48 11 [some (.inr (some a0)), some (.inl x1), some (.inl (x2 + 1)), some (.inl (x3 + 1)), some (.inl x4), some (.inl x5)] [] M Q))) :
    sm_Run (d + 1) 48 76 [some (.inr (some a0)), some (.inl x1), some (.inl x2), some (.inl x3), some (.inl x4), some (.inl x5)] [] M Q := by
  refine ru_go (t := (78, [some (.inr (some a0)), some (.inl x1), some (.inl x2), some (.inl x3), some (.inl x4), some (.inl x5)], [.inl x5], M)) sm_a48_76 rfl rfl rfl ?_
  refine ru_go (t := (79, [some (.inr (some a0)), some (.inl x1), some (.inl x2), some (.inl x3), some (.inl x4), some (.inl x5)], [.inl 1, .inl x5], M)) sm_a48_78 rfl rfl (st_iconst (by decide)) ?_
  refine ru_icmp (pc := 79) (p := 88) (p2 := 82) sm_a48_79 (by decide) rfl ⟨fun hc_1 => ?_, fun hc_1 => ?_⟩
  · have h := h.1 hc_1
    refine ru_go (t := (89, [some (.inr (some a0)), some (.inl x1), some (.inl x2), some (.inl x3), some (.inl x4), some (.inl x5)], [.inl 0], M)) sm_a48_88 rfl rfl (st_iconst (by decide)) ?_
    refine ru_go (t := (90, [some (.inr (some a0)), some (.inl x1), some (.inl 0), some (.inl x3), some (.inl x4), some (.inl x5)], [], M)) sm_a48_89 rfl rfl rfl ?_
    refine ru_go (t := (93, [some (.inr (some a0)), some (.inl x1), some (.inl 0), some (.inl (x3 + 1)), some (.inl x4), some (.inl x5)], [], M)) sm_a48_90 rfl rfl (st_iinc rfl (by decide)) ?_
    refine ru_go (t := (11, [some (.inr (some a0)), some (.inl x1), some (.inl 0), some (.inl (x3 + 1)), some (.inl x4), some (.inl x5)], [], M)) sm_a48_93 rfl rfl (st_goto (pc := 93) (by decide)) ?_
    exact h
  · have h := h.2 hc_1
    refine ru_go (t := (83, [some (.inr (some a0)), some (.inl x1), some (.inl x2), some (.inl x3), some (.inl x4), some (.inl x5)], [.inl x2], M)) sm_a48_82 rfl rfl rfl ?_
    refine ru_go (t := (84, [some (.inr (some a0)), some (.inl x1), some (.inl x2), some (.inl x3), some (.inl x4), some (.inl x5)], [.inl 1, .inl x2], M)) sm_a48_83 rfl rfl (st_iconst (by decide)) ?_
    refine ru_go (t := (85, [some (.inr (some a0)), some (.inl x1), some (.inl x2), some (.inl x3), some (.inl x4), some (.inl x5)], [.inl (x2 + 1)], M)) sm_a48_84 rfl rfl rfl ?_
    refine ru_go (t := (89, [some (.inr (some a0)), some (.inl x1), some (.inl x2), some (.inl x3), some (.inl x4), some (.inl x5)], [.inl (x2 + 1)], M)) sm_a48_85 rfl rfl (st_goto (pc := 85) (by decide)) ?_
    refine ru_go (t := (90, [some (.inr (some a0)), some (.inl x1), some (.inl (x2 + 1)), some (.inl x3), some (.inl x4), some (.inl x5)], [], M)) sm_a48_89 rfl rfl rfl ?_
    refine ru_go (t := (93, [some (.inr (some a0)), some (.inl x1), some (.inl (x2 + 1)), some (.inl (x3 + 1)), some (.inl x4), some (.inl x5)], [], M)) sm_a48_90 rfl rfl (st_iinc rfl (by decide)) ?_
    refine ru_go (t := (11, [some (.inr (some a0)), some (.inl x1), some (.inl (x2 + 1)), some (.inl (x3 + 1)), some (.inl x4), some (.inl x5)], [], M)) sm_a48_93 rfl rfl (st_goto (pc := 93) (by decide)) ?_
    exact h

/-! WireBus$Coder.liftBytes:(LWireBus$Packet;)Z -/
theorem sm_a49_0 : sm_at 49 0 = some (.aload_n 0, 1, (0, 0, 0, 0)) := by decide +kernel
theorem sm_a49_1 : sm_at 49 1 = some (.getfield 18, 3, (2, 1, 0, 192)) := by decide +kernel
theorem sm_a49_4 : sm_at 49 4 = some (.bipush 16, 2, (0, 0, 0, 0)) := by decide +kernel
theorem sm_a49_6 : sm_at 49 6 = some (.isub, 1, (0, 0, 0, 0)) := by decide +kernel
theorem sm_a49_7 : sm_at 49 7 = some (.istore_n 2, 1, (0, 0, 0, 0)) := by decide +kernel
theorem sm_a49_8 : sm_at 49 8 = some (.iload_n 2, 1, (0, 0, 0, 0)) := by decide +kernel
theorem sm_a49_9 : sm_at 49 9 = some (.bipush 16, 2, (0, 0, 0, 0)) := by decide +kernel
theorem sm_a49_11 : sm_at 49 11 = some (.if_icmp .lt 19, 3, (0, 0, 0, 0)) := by decide +kernel
theorem sm_a49_14 : sm_at 49 14 = some (.iload_n 2, 1, (0, 0, 0, 0)) := by decide +kernel
theorem sm_a49_15 : sm_at 49 15 = some (.sipush 528, 3, (0, 0, 0, 0)) := by decide +kernel
theorem sm_a49_18 : sm_at 49 18 = some (.if_icmp .gt 12, 3, (0, 0, 0, 0)) := by decide +kernel
theorem sm_a49_21 : sm_at 49 21 = some (.aload_n 0, 1, (0, 0, 0, 0)) := by decide +kernel
theorem sm_a49_22 : sm_at 49 22 = some (.bipush 16, 2, (0, 0, 0, 0)) := by decide +kernel
theorem sm_a49_24 : sm_at 49 24 = some (.invokevirtual 90, 3, (10, 50, 2, 839)) := by decide +kernel
theorem sm_a49_27 : sm_at 49 27 = some (.ifCond .ne 5, 3, (0, 0, 0, 0)) := by decide +kernel
theorem sm_a49_30 : sm_at 49 30 = some (.iconst 0, 1, (0, 0, 0, 0)) := by decide +kernel
theorem sm_a49_31 : sm_at 49 31 = some (.ireturn, 1, (0, 0, 0, 0)) := by decide +kernel
theorem sm_a49_32 : sm_at 49 32 = some (.bipush 16, 2, (0, 0, 0, 0)) := by decide +kernel
theorem sm_a49_34 : sm_at 49 34 = some (.istore_n 3, 1, (0, 0, 0, 0)) := by decide +kernel
theorem sm_a49_35 : sm_at 49 35 = some (.iload_n 3, 1, (0, 0, 0, 0)) := by decide +kernel
theorem sm_a49_36 : sm_at 49 36 = some (.iload_n 2, 1, (0, 0, 0, 0)) := by decide +kernel
theorem sm_a49_37 : sm_at 49 37 = some (.if_icmp .ge 20, 3, (0, 0, 0, 0)) := by decide +kernel
theorem sm_a49_40 : sm_at 49 40 = some (.aload_n 1, 1, (0, 0, 0, 0)) := by decide +kernel
theorem sm_a49_41 : sm_at 49 41 = some (.aload_n 0, 1, (0, 0, 0, 0)) := by decide +kernel
theorem sm_a49_42 : sm_at 49 42 = some (.iload_n 3, 1, (0, 0, 0, 0)) := by decide +kernel
theorem sm_a49_43 : sm_at 49 43 = some (.bipush 8, 2, (0, 0, 0, 0)) := by decide +kernel
theorem sm_a49_45 : sm_at 49 45 = some (.invokevirtual 77, 3, (10, 51, 2, 830)) := by decide +kernel
theorem sm_a49_48 : sm_at 49 48 = some (.invokevirtual 93, 3, (10, 106, 7, 843)) := by decide +kernel
theorem sm_a49_51 : sm_at 49 51 = some (.iinc 3 8, 3, (0, 0, 0, 0)) := by decide +kernel
theorem sm_a49_54 : sm_at 49 54 = some (.goto (-19), 3, (0, 0, 0, 0)) := by decide +kernel
theorem sm_a49_57 : sm_at 49 57 = some (.iconst 1, 1, (0, 0, 0, 0)) := by decide +kernel
theorem sm_a49_58 : sm_at 49 58 = some (.ireturn, 1, (0, 0, 0, 0)) := by decide +kernel
theorem bb_49_0 {d : Nat} {M : sm_M} {Q : Option sm_V → sm_M → Prop} {a0 : Nat} {r1 : Option Nat} {z2 : Option sm_V} {z3 : Option sm_V}
    (h : sm_K M a0 = 9 ∧ ((((sm_I M a0 1) - 16) < 16 → Q (some (.inl 0)) M) ∧ (¬ (((sm_I M a0 1) - 16) < 16) → ((528 < ((sm_I M a0 1) - 16) → Q (some (.inl 0)) M) ∧ (¬ (528 < ((sm_I M a0 1) - 16)) → sm_Run d 50 0 (sm_ent 50 [.inr (some a0), .inl 16]) [] M (fun v M1 => sm_Run (d + 1) 49 27 [some (.inr (some a0)), some (.inr r1), some (.inl ((sm_I M a0 1) - 16)), z3] (v.toList ++ []) M1 Q)))))) :
    sm_Run (d + 1) 49 0 [some (.inr (some a0)), some (.inr r1), z2, z3] [] M Q := by
  refine ru_go (t := (1, [some (.inr (some a0)), some (.inr r1), z2, z3], [.inr (some a0)], M)) sm_a49_0 rfl rfl rfl ?_
  obtain ⟨h_1, h⟩ := h
  refine ru_go (t := (4, [some (.inr (some a0)), some (.inr r1), z2, z3], [.inl (sm_I M a0 1)], M)) sm_a49_1 rfl rfl (st_getI h_1 rfl) ?_
  refine ru_go (t := (6, [some (.inr (some a0)), some (.inr r1), z2, z3], [.inl 16, .inl (sm_I M a0 1)], M)) sm_a49_4 rfl rfl (st_bipush (by decide)) ?_
  refine ru_go (t := (7, [some (.inr (some a0)), some (.inr r1), z2, z3], [.inl ((sm_I M a0 1) - 16)], M)) sm_a49_6 rfl rfl rfl ?_
  refine ru_go (t := (8, [some (.inr (some a0)), some (.inr r1), some (.inl ((sm_I M a0 1) - 16)), z3], [], M)) sm_a49_7 rfl rfl rfl ?_
  refine ru_go (t := (9, [some (.inr (some a0)), some (.inr r1), some (.inl ((sm_I M a0 1) - 16)), z3], [.inl ((sm_I M a0 1) - 16)], M)) sm_a49_8 rfl rfl rfl ?_
  refine ru_go (t := (11, [some (.inr (some a0)), some (.inr r1), some (.inl ((sm_I M a0 1) - 16)), z3], [.inl 16, .inl ((sm_I M a0 1) - 16)], M)) sm_a49_9 rfl rfl (st_bipush (by decide)) ?_
  refine ru_icmp (pc := 11) (p := 30) (p2 := 14) sm_a49_11 (by decide) rfl ⟨fun hc_2 => ?_, fun hc_2 => ?_⟩
  · have h := h.1 hc_2
    refine ru_go (t := (31, [some (.inr (some a0)), some (.inr r1), some (.inl ((sm_I M a0 1) - 16)), z3], [.inl 0], M)) sm_a49_30 rfl rfl (st_iconst (by decide)) ?_
    exact ru_ret sm_a49_31 (sm_rvz rfl (by decide)) h
  · have h := h.2 hc_2
    refine ru_go (t := (15, [some (.inr (some a0)), some (.inr r1), some (.inl ((sm_I M a0 1) - 16)), z3], [.inl ((sm_I M a0 1) - 16)], M)) sm_a49_14 rfl rfl rfl ?_
    refine ru_go (t := (18, [some (.inr (some a0)), some (.inr r1), some (.inl ((sm_I M a0 1) - 16)), z3], [.inl 528, .inl ((sm_I M a0 1) - 16)], M)) sm_a49_15 rfl rfl (st_sipush (by decide)) ?_
    refine ru_icmp (pc := 18) (p := 30) (p2 := 21) sm_a49_18 (by decide) rfl ⟨fun hc_3 => ?_, fun hc_3 => ?_⟩
    · have h := h.1 hc_3
      refine ru_go (t := (31, [some (.inr (some a0)), some (.inr r1), some (.inl ((sm_I M a0 1) - 16)), z3], [.inl 0], M)) sm_a49_30 rfl rfl (st_iconst (by decide)) ?_
      exact ru_ret sm_a49_31 (sm_rvz rfl (by decide)) h
    · have h := h.2 hc_3
      refine ru_go (t := (22, [some (.inr (some a0)), some (.inr r1), some (.inl ((sm_I M a0 1) - 16)), z3], [.inr (some a0)], M)) sm_a49_21 rfl rfl rfl ?_
      refine ru_go (t := (24, [some (.inr (some a0)), some (.inr r1), some (.inl ((sm_I M a0 1) - 16)), z3], [.inl 16, .inr (some a0)], M)) sm_a49_22 rfl rfl (st_bipush (by decide)) ?_
      exact ru_call (p := 27) sm_a49_24 rfl (sc_virt (Or.inl rfl) rfl rfl h_1 (Nat.le_of_ble_eq_true rfl)) rfl h
theorem bb_49_27 {d : Nat} {M : sm_M} {Q : Option sm_V → sm_M → Prop} {a0 : Nat} {r1 : Option Nat} {x2 : Int32} {z3 : Option sm_V} {y0 : Int32}
    (h : ((¬ y0 = 0 → sm_Run (d + 1) 49 35 [some (.inr (some a0)), some (.inr r1), some (.inl x2), some (.inl 16)] [] M Q) ∧ (¬ (¬ y0 = 0) → Q (some (.inl 0)) M))) :
    sm_Run (d + 1) 49 27 [some (.inr (some a0)), some (.inr r1), some (.inl x2), z3] [.inl y0] M Q := by
  refine ru_if (pc := 27) (p := 32) (p2 := 30) sm_a49_27 (by decide) rfl ⟨fun hc_1 => ?_, fun hc_1 => ?_⟩
  · have h := h.1 hc_1
    refine ru_go (t := (34, [some (.inr (some a0)), some (.inr r1), some (.inl x2), z3], [.inl 16], M)) sm_a49_32 rfl rfl (st_bipush (by decide)) ?_
    refine ru_go (t := (35, [some (.inr (some a0)), some (.inr r1), some (.inl x2), some (.inl 16)], [], M)) sm_a49_34 rfl rfl rfl ?_
    exact h
  · have h := h.2 hc_1
    refine ru_go (t := (31, [some (.inr (some a0)), some (.inr r1), some (.inl x2), z3], [.inl 0], M)) sm_a49_30 rfl rfl (st_iconst (by decide)) ?_
    exact ru_ret sm_a49_31 (sm_rvz rfl (by decide)) h
theorem bb_49_35 {d : Nat} {M : sm_M} {Q : Option sm_V → sm_M → Prop} {a0 : Nat} {r1 : Option Nat} {x2 : Int32} {x3 : Int32}
    (h : ((x2 ≤ x3 → Q (some (.inl 1)) M) ∧ (¬ (x2 ≤ x3) → sm_K M a0 = 9 ∧ sm_Run d 51 0 (sm_ent 51 [.inr (some a0), .inl x3, .inl 8]) [] M (fun v M1 => sm_Run (d + 1) 49 48 [some (.inr (some a0)), some (.inr r1), some (.inl x2), some (.inl x3)] (v.toList ++ [.inr r1]) M1 Q)))) :
    sm_Run (d + 1) 49 35 [some (.inr (some a0)), some (.inr r1), some (.inl x2), some (.inl x3)] [] M Q := by
  refine ru_go (t := (36, [some (.inr (some a0)), some (.inr r1), some (.inl x2), some (.inl x3)], [.inl x3], M)) sm_a49_35 rfl rfl rfl ?_
  refine ru_go (t := (37, [some (.inr (some a0)), some (.inr r1), some (.inl x2), some (.inl x3)], [.inl x2, .inl x3], M)) sm_a49_36 rfl rfl rfl ?_
  refine ru_icmp (pc := 37) (p := 57) (p2 := 40) sm_a49_37 (by decide) rfl ⟨fun hc_1 => ?_, fun hc_1 => ?_⟩
  · have h := h.1 hc_1
    refine ru_go (t := (58, [some (.inr (some a0)), some (.inr r1), some (.inl x2), some (.inl x3)], [.inl 1], M)) sm_a49_57 rfl rfl (st_iconst (by decide)) ?_
    exact ru_ret sm_a49_58 (sm_rvz rfl (by decide)) h
  · have h := h.2 hc_1
    refine ru_go (t := (41, [some (.inr (some a0)), some (.inr r1), some (.inl x2), some (.inl x3)], [.inr r1], M)) sm_a49_40 rfl rfl rfl ?_
    refine ru_go (t := (42, [some (.inr (some a0)), some (.inr r1), some (.inl x2), some (.inl x3)], [.inr (some a0), .inr r1], M)) sm_a49_41 rfl rfl rfl ?_
    refine ru_go (t := (43, [some (.inr (some a0)), some (.inr r1), some (.inl x2), some (.inl x3)], [.inl x3, .inr (some a0), .inr r1], M)) sm_a49_42 rfl rfl rfl ?_
    refine ru_go (t := (45, [some (.inr (some a0)), some (.inr r1), some (.inl x2), some (.inl x3)], [.inl 8, .inl x3, .inr (some a0), .inr r1], M)) sm_a49_43 rfl rfl (st_bipush (by decide)) ?_
    obtain ⟨h_2, h⟩ := h
    exact ru_call (p := 48) sm_a49_45 rfl (sc_virt (Or.inl rfl) rfl rfl h_2 (Nat.le_of_ble_eq_true rfl)) rfl h
theorem bb_49_48 {d : Nat} {M : sm_M} {Q : Option sm_V → sm_M → Prop} {a0 : Nat} {r1 : Option Nat} {x2 : Int32} {x3 : Int32} {y0 : Int32} {t1 : Option Nat}
    (h : ∃ b_1, t1 = some b_1 ∧ sm_K M b_1 = 24 ∧ sm_Run d 106 0 (sm_ent 106 [.inr (some b_1), .inl y0]) [] M (fun v M1 => sm_Run (d + 1) 49 51 [some (.inr (some a0)), some (.inr r1), some (.inl x2), some (.inl x3)] (v.toList ++ []) M1 Q)) :
    sm_Run (d + 1) 49 48 [some (.inr (some a0)), some (.inr r1), some (.inl x2), some (.inl x3)] [.inl y0, .inr t1] M Q := by
  obtain ⟨b_1, hb_2, h⟩ := h
  rw [hb_2]
  obtain ⟨h_3, h⟩ := h
  exact ru_call (p := 51) sm_a49_48 rfl (sc_virt (Or.inl rfl) rfl rfl h_3 (Nat.le_of_ble_eq_true rfl)) rfl h
theorem bb_49_51 {d : Nat} {M : sm_M} {Q : Option sm_V → sm_M → Prop} {a0 : Nat} {r1 : Option Nat} {x2 : Int32} {x3 : Int32}
    (h : sm_Run (d + 1) 49 35 [some (.inr (some a0)), some (.inr r1), some (.inl x2), some (.inl (x3 + 8))] [] M Q) :
    sm_Run (d + 1) 49 51 [some (.inr (some a0)), some (.inr r1), some (.inl x2), some (.inl x3)] [] M Q := by
  refine ru_go (t := (54, [some (.inr (some a0)), some (.inr r1), some (.inl x2), some (.inl (x3 + 8))], [], M)) sm_a49_51 rfl rfl (st_iinc rfl (by decide)) ?_
  refine ru_go (t := (35, [some (.inr (some a0)), some (.inr r1), some (.inl x2), some (.inl (x3 + 8))], [], M)) sm_a49_54 rfl rfl (st_goto (pc := 54) (by decide)) ?_
  exact h

/-! WireBus$Coder.isChecked:(I)Z -/
theorem sm_a50_0 : sm_at 50 0 = some (.aload_n 0, 1, (0, 0, 0, 0)) := by decide +kernel
theorem sm_a50_1 : sm_at 50 1 = some (.getfield 18, 3, (2, 1, 0, 192)) := by decide +kernel
theorem sm_a50_4 : sm_at 50 4 = some (.iload_n 1, 1, (0, 0, 0, 0)) := by decide +kernel
theorem sm_a50_5 : sm_at 50 5 = some (.isub, 1, (0, 0, 0, 0)) := by decide +kernel
theorem sm_a50_6 : sm_at 50 6 = some (.istore_n 2, 1, (0, 0, 0, 0)) := by decide +kernel
theorem sm_a50_7 : sm_at 50 7 = some (.aload_n 0, 1, (0, 0, 0, 0)) := by decide +kernel
theorem sm_a50_8 : sm_at 50 8 = some (.iload_n 2, 1, (0, 0, 0, 0)) := by decide +kernel
theorem sm_a50_9 : sm_at 50 9 = some (.iload_n 1, 1, (0, 0, 0, 0)) := by decide +kernel
theorem sm_a50_10 : sm_at 50 10 = some (.invokevirtual 59, 3, (10, 42, 2, 799)) := by decide +kernel
theorem sm_a50_13 : sm_at 50 13 = some (.istore_n 3, 1, (0, 0, 0, 0)) := by decide +kernel
theorem sm_a50_14 : sm_at 50 14 = some (.iconst 0, 1, (0, 0, 0, 0)) := by decide +kernel
theorem sm_a50_15 : sm_at 50 15 = some (.istore 4, 2, (0, 0, 0, 0)) := by decide +kernel
theorem sm_a50_17 : sm_at 50 17 = some (.iload 4, 2, (0, 0, 0, 0)) := by decide +kernel
theorem sm_a50_19 : sm_at 50 19 = some (.iload_n 1, 1, (0, 0, 0, 0)) := by decide +kernel
theorem sm_a50_20 : sm_at 50 20 = some (.if_icmp .ge 37, 3, (0, 0, 0, 0)) := by decide +kernel
theorem sm_a50_23 : sm_at 50 23 = some (.iload_n 2, 1, (0, 0, 0, 0)) := by decide +kernel
theorem sm_a50_24 : sm_at 50 24 = some (.ifCond .lt 25, 3, (0, 0, 0, 0)) := by decide +kernel
theorem sm_a50_27 : sm_at 50 27 = some (.aload_n 0, 1, (0, 0, 0, 0)) := by decide +kernel
theorem sm_a50_28 : sm_at 50 28 = some (.getfield 9, 3, (2, 0, 0, 191)) := by decide +kernel
theorem sm_a50_31 : sm_at 50 31 = some (.iload_n 2, 1, (0, 0, 0, 0)) := by decide +kernel
theorem sm_a50_32 : sm_at 50 32 = some (.iload 4, 2, (0, 0, 0, 0)) := by decide +kernel
theorem sm_a50_34 : sm_at 50 34 = some (.iadd, 1, (0, 0, 0, 0)) := by decide +kernel
theorem sm_a50_35 : sm_at 50 35 = some (.iaload, 1, (0, 0, 0, 0)) := by decide +kernel
theorem sm_a50_36 : sm_at 50 36 = some (.iload_n 3, 1, (0, 0, 0, 0)) := by decide +kernel
theorem sm_a50_37 : sm_at 50 37 = some (.iload_n 1, 1, (0, 0, 0, 0)) := by decide +kernel
theorem sm_a50_38 : sm_at 50 38 = some (.iconst 1, 1, (0, 0, 0, 0)) := by decide +kernel
theorem sm_a50_39 : sm_at 50 39 = some (.isub, 1, (0, 0, 0, 0)) := by decide +kernel
theorem sm_a50_40 : sm_at 50 40 = some (.iload 4, 2, (0, 0, 0, 0)) := by decide +kernel
theorem sm_a50_42 : sm_at 50 42 = some (.isub, 1, (0, 0, 0, 0)) := by decide +kernel
theorem sm_a50_43 : sm_at 50 43 = some (.ishr, 1, (0, 0, 0, 0)) := by decide +kernel
theorem sm_a50_44 : sm_at 50 44 = some (.iconst 1, 1, (0, 0, 0, 0)) := by decide +kernel
theorem sm_a50_45 : sm_at 50 45 = some (.iand, 1, (0, 0, 0, 0)) := by decide +kernel
theorem sm_a50_46 : sm_at 50 46 = some (.if_icmp .eq 5, 3, (0, 0, 0, 0)) := by decide +kernel
theorem sm_a50_49 : sm_at 50 49 = some (.iconst 0, 1, (0, 0, 0, 0)) := by decide +kernel
theorem sm_a50_50 : sm_at 50 50 = some (.ireturn, 1, (0, 0, 0, 0)) := by decide +kernel
theorem sm_a50_51 : sm_at 50 51 = some (.iinc 4 1, 3, (0, 0, 0, 0)) := by decide +kernel
theorem sm_a50_54 : sm_at 50 54 = some (.goto (-37), 3, (0, 0, 0, 0)) := by decide +kernel
theorem sm_a50_57 : sm_at 50 57 = some (.iconst 1, 1, (0, 0, 0, 0)) := by decide +kernel
theorem sm_a50_58 : sm_at 50 58 = some (.ireturn, 1, (0, 0, 0, 0)) := by decide +kernel
theorem bb_50_0 {d : Nat} {M : sm_M} {Q : Option sm_V → sm_M → Prop} {a0 : Nat} {x1 : Int32} {z2 : Option sm_V} {z3 : Option sm_V} {z4 : Option sm_V}
    (h : sm_K M a0 = 9 ∧ sm_Run d 42 0 (sm_ent 42 [.inr (some a0), .inl ((sm_I M a0 1) - x1), .inl x1]) [] M (fun v M1 => sm_Run (d + 1) 50 13 [some (.inr (some a0)), some (.inl x1), some (.inl ((sm_I M a0 1) - x1)), z3, z4] (v.toList ++ []) M1 Q)) :
    sm_Run (d + 1) 50 0 [some (.inr (some a0)), some (.inl x1), z2, z3, z4] [] M Q := by
  refine ru_go (t := (1, [some (.inr (some a0)), some (.inl x1), z2, z3, z4], [.inr (some a0)], M)) sm_a50_0 rfl rfl rfl ?_
  obtain ⟨h_1, h⟩ := h
  refine ru_go (t := (4, [some (.inr (some a0)), some (.inl x1), z2, z3, z4], [.inl (sm_I M a0 1)], M)) sm_a50_1 rfl rfl (st_getI h_1 rfl) ?_
  refine ru_go (t := (5, [some (.inr (some a0)), some (.inl x1), z2, z3, z4], [.inl x1, .inl (sm_I M a0 1)], M)) sm_a50_4 rfl rfl rfl ?_
  refine ru_go (t := (6, [some (.inr (some a0)), some (.inl x1), z2, z3, z4], [.inl ((sm_I M a0 1) - x1)], M)) sm_a50_5 rfl rfl rfl ?_
  refine ru_go (t := (7, [some (.inr (some a0)), some (.inl x1), some (.inl ((sm_I M a0 1) - x1)), z3, z4], [], M)) sm_a50_6 rfl rfl rfl ?_
  refine ru_go (t := (8, [some (.inr (some a0)), some (.inl x1), some (.inl ((sm_I M a0 1) - x1)), z3, z4], [.inr (some a0)], M)) sm_a50_7 rfl rfl rfl ?_
  refine ru_go (t := (9, [some (.inr (some a0)), some (.inl x1), some (.inl ((sm_I M a0 1) - x1)), z3, z4], [.inl ((sm_I M a0 1) - x1), .inr (some a0)], M)) sm_a50_8 rfl rfl rfl ?_
  refine ru_go (t := (10, [some (.inr (some a0)), some (.inl x1), some (.inl ((sm_I M a0 1) - x1)), z3, z4], [.inl x1, .inl ((sm_I M a0 1) - x1), .inr (some a0)], M)) sm_a50_9 rfl rfl rfl ?_
  exact ru_call (p := 13) sm_a50_10 rfl (sc_virt (Or.inl rfl) rfl rfl h_1 (Nat.le_of_ble_eq_true rfl)) rfl h
theorem bb_50_13 {d : Nat} {M : sm_M} {Q : Option sm_V → sm_M → Prop} {a0 : Nat} {x1 : Int32} {x2 : Int32} {z3 : Option sm_V} {z4 : Option sm_V} {y0 : Int32}
    (h : sm_Run (d + 1) 50 17 [some (.inr (some a0)), some (.inl x1), some (.inl x2), some (.inl y0), some (.inl 0)] [] M Q) :
    sm_Run (d + 1) 50 13 [some (.inr (some a0)), some (.inl x1), some (.inl x2), z3, z4] [.inl y0] M Q := by
  refine ru_go (t := (14, [some (.inr (some a0)), some (.inl x1), some (.inl x2), some (.inl y0), z4], [], M)) sm_a50_13 rfl rfl rfl ?_
  refine ru_go (t := (15, [some (.inr (some a0)), some (.inl x1), some (.inl x2), some (.inl y0), z4], [.inl 0], M)) sm_a50_14 rfl rfl (st_iconst (by decide)) ?_
  refine ru_go (t := (17, [some (.inr (some a0)), some (.inl x1), some (.inl x2), some (.inl y0), some (.inl 0)], [], M)) sm_a50_15 rfl rfl rfl ?_
  exact h
theorem bb_50_17 {d : Nat} {M : sm_M} {Q : Option sm_V → sm_M → Prop} {a0 : Nat} {x1 : Int32} {x2 : Int32} {x3 : Int32} {x4 : Int32}
    (h : ((x1 ≤ x4 → Q (some (.inl 1)) M) ∧ (¬ (x1 ≤ x4) → ((x2 < 0 → Q (some (.inl 0)) M) ∧ (¬ (x2 < 0) → sm_K M a0 = 9 ∧ ∃ b_4, sm_R M a0 0 = some b_4 ∧ sm_iA M b_4 ∧ sm_in_ M b_4 (x2 + x4) ∧ (((sm_I M b_4 (x2 + x4).toNatClampNeg) = ((x3 >>> (((x1 - 1) - x4) &&& 31)) &&& 1) → sm_Run (d + 1) 50 17 [some (.inr (some a0)), some (.inl x1), some (.inl x2), some (.inl x3), some (.inl (x4 + 1))] [] M Q) ∧ (¬ ((sm_I M b_4 (x2 + x4).toNatClampNeg) = ((x3 >>> (((x1 - 1) - x4) &&& 31)) &&& 1)) → Q (some (.inl 0)) M))))))) :
    sm_Run (d + 1) 50 17 [some (.inr (some a0)), some (.inl x1), some (.inl x2), some (.inl x3), some (.inl x4)] [] M Q := by
  refine ru_go (t := (19, [some (.inr (some a0)), some (.inl x1), some (.inl x2), some (.inl x3), some (.inl x4)], [.inl x4], M)) sm_a50_17 rfl rfl rfl ?_
  refine ru_go (t := (20, [some (.inr (some a0)), some (.inl x1), some (.inl x2), some (.inl x3), some (.inl x4)], [.inl x1, .inl x4], M)) sm_a50_19 rfl rfl rfl ?_
  refine ru_icmp (pc := 20) (p := 57) (p2 := 23) sm_a50_20 (by decide) rfl ⟨fun hc_1 => ?_, fun hc_1 => ?_⟩
  · have h := h.1 hc_1
    refine ru_go (t := (58, [some (.inr (some a0)), some (.inl x1), some (.inl x2), some (.inl x3), some (.inl x4)], [.inl 1], M)) sm_a50_57 rfl rfl (st_iconst (by decide)) ?_
    exact ru_ret sm_a50_58 (sm_rvz rfl (by decide)) h
  · have h := h.2 hc_1
    refine ru_go (t := (24, [some (.inr (some a0)), some (.inl x1), some (.inl x2), some (.inl x3), some (.inl x4)], [.inl x2], M)) sm_a50_23 rfl rfl rfl ?_
    refine ru_if (pc := 24) (p := 49) (p2 := 27) sm_a50_24 (by decide) rfl ⟨fun hc_2 => ?_, fun hc_2 => ?_⟩
    · have h := h.1 hc_2
      refine ru_go (t := (50, [some (.inr (some a0)), some (.inl x1), some (.inl x2), some (.inl x3), some (.inl x4)], [.inl 0], M)) sm_a50_49 rfl rfl (st_iconst (by decide)) ?_
      exact ru_ret sm_a50_50 (sm_rvz rfl (by decide)) h
    · have h := h.2 hc_2
      refine ru_go (t := (28, [some (.inr (some a0)), some (.inl x1), some (.inl x2), some (.inl x3), some (.inl x4)], [.inr (some a0)], M)) sm_a50_27 rfl rfl rfl ?_
      obtain ⟨h_3, h⟩ := h
      refine ru_go (t := (31, [some (.inr (some a0)), some (.inl x1), some (.inl x2), some (.inl x3), some (.inl x4)], [.inr (sm_R M a0 0)], M)) sm_a50_28 rfl rfl (st_getR h_3 rfl rfl) ?_
      refine ru_go (t := (32, [some (.inr (some a0)), some (.inl x1), some (.inl x2), some (.inl x3), some (.inl x4)], [.inl x2, .inr (sm_R M a0 0)], M)) sm_a50_31 rfl rfl rfl ?_
      refine ru_go (t := (34, [some (.inr (some a0)), some (.inl x1), some (.inl x2), some (.inl x3), some (.inl x4)], [.inl x4, .inl x2, .inr (sm_R M a0 0)], M)) sm_a50_32 rfl rfl rfl ?_
      refine ru_go (t := (35, [some (.inr (some a0)), some (.inl x1), some (.inl x2), some (.inl x3), some (.inl x4)], [.inl (x2 + x4), .inr (sm_R M a0 0)], M)) sm_a50_34 rfl rfl rfl ?_
      obtain ⟨b_4, hb_5, h⟩ := h
      rw [hb_5]
      obtain ⟨h_6, h⟩ := h
      obtain ⟨h_7, h⟩ := h
      refine ru_go (t := (36, [some (.inr (some a0)), some (.inl x1), some (.inl x2), some (.inl x3), some (.inl x4)], [.inl (sm_I M b_4 (x2 + x4).toNatClampNeg)], M)) sm_a50_35 rfl rfl (st_iald h_6 h_7) ?_
      refine ru_go (t := (37, [some (.inr (some a0)), some (.inl x1), some (.inl x2), some (.inl x3), some (.inl x4)], [.inl x3, .inl (sm_I M b_4 (x2 + x4).toNatClampNeg)], M)) sm_a50_36 rfl rfl rfl ?_
      refine ru_go (t := (38, [some (.inr (some a0)), some (.inl x1), some (.inl x2), some (.inl x3), some (.inl x4)], [.inl x1, .inl x3, .inl (sm_I M b_4 (x2 + x4).toNatClampNeg)], M)) sm_a50_37 rfl rfl rfl ?_
      refine ru_go (t := (39, [some (.inr (some a0)), some (.inl x1), some (.inl x2), some (.inl x3), some (.inl x4)], [.inl 1, .inl x1, .inl x3, .inl (sm_I M b_4 (x2 + x4).toNatClampNeg)], M)) sm_a50_38 rfl rfl (st_iconst (by decide)) ?_
      refine ru_go (t := (40, [some (.inr (some a0)), some (.inl x1), some (.inl x2), some (.inl x3), some (.inl x4)], [.inl (x1 - 1), .inl x3, .inl (sm_I M b_4 (x2 + x4).toNatClampNeg)], M)) sm_a50_39 rfl rfl rfl ?_
      refine ru_go (t := (42, [some (.inr (some a0)), some (.inl x1), some (.inl x2), some (.inl x3), some (.inl x4)], [.inl x4, .inl (x1 - 1), .inl x3, .inl (sm_I M b_4 (x2 + x4).toNatClampNeg)], M)) sm_a50_40 rfl rfl rfl ?_
      refine ru_go (t := (43, [some (.inr (some a0)), some (.inl x1), some (.inl x2), some (.inl x3), some (.inl x4)], [.inl ((x1 - 1) - x4), .inl x3, .inl (sm_I M b_4 (x2 + x4).toNatClampNeg)], M)) sm_a50_42 rfl rfl rfl ?_
      refine ru_go (t := (44, [some (.inr (some a0)), some (.inl x1), some (.inl x2), some (.inl x3), some (.inl x4)], [.inl (x3 >>> (((x1 - 1) - x4) &&& 31)), .inl (sm_I M b_4 (x2 + x4).toNatClampNeg)], M)) sm_a50_43 rfl rfl rfl ?_
      refine ru_go (t := (45, [some (.inr (some a0)), some (.inl x1), some (.inl x2), some (.inl x3), some (.inl x4)], [.inl 1, .inl (x3 >>> (((x1 - 1) - x4) &&& 31)), .inl (sm_I M b_4 (x2 + x4).toNatClampNeg)], M)) sm_a50_44 rfl rfl (st_iconst (by decide)) ?_
      refine ru_go (t := (46, [some (.inr (some a0)), some (.inl x1), some (.inl x2), some (.inl x3), some (.inl x4)], [.inl ((x3 >>> (((x1 - 1) - x4) &&& 31)) &&& 1), .inl (sm_I M b_4 (x2 + x4).toNatClampNeg)], M)) sm_a50_45 rfl rfl rfl ?_
      refine ru_icmp (pc := 46) (p := 51) (p2 := 49) sm_a50_46 (by decide) rfl ⟨fun hc_8 => ?_, fun hc_8 => ?_⟩
      · have h := h.1 hc_8
        refine ru_go (t := (54, [some (.inr (some a0)), some (.inl x1), some (.inl x2), some (.inl x3), some (.inl (x4 + 1))], [], M)) sm_a50_51 rfl rfl (st_iinc rfl (by decide)) ?_
        refine ru_go (t := (17, [some (.inr (some a0)), some (.inl x1), some (.inl x2), some (.inl x3), some (.inl (x4 + 1))], [], M)) sm_a50_54 rfl rfl (st_goto (pc := 54) (by decide)) ?_
        exact h
      · have h := h.2 hc_8
        refine ru_go (t := (50, [some (.inr (some a0)), some (.inl x1), some (.inl x2), some (.inl x3), some (.inl x4)], [.inl 0], M)) sm_a50_49 rfl rfl (st_iconst (by decide)) ?_
        exact ru_ret sm_a50_50 (sm_rvz rfl (by decide)) h

/-! WireBus$Coder.numberAt:(II)I -/
theorem sm_a51_0 : sm_at 51 0 = some (.iconst 0, 1, (0, 0, 0, 0)) := by decide +kernel
theorem sm_a51_1 : sm_at 51 1 = some (.istore_n 3, 1, (0, 0, 0, 0)) := by decide +kernel
theorem sm_a51_2 : sm_at 51 2 = some (.iconst 0, 1, (0, 0, 0, 0)) := by decide +kernel
theorem sm_a51_3 : sm_at 51 3 = some (.istore 4, 2, (0, 0, 0, 0)) := by decide +kernel
theorem sm_a51_5 : sm_at 51 5 = some (.iload 4, 2, (0, 0, 0, 0)) := by decide +kernel
theorem sm_a51_7 : sm_at 51 7 = some (.iload_n 2, 1, (0, 0, 0, 0)) := by decide +kernel
theorem sm_a51_8 : sm_at 51 8 = some (.if_icmp .ge 35, 3, (0, 0, 0, 0)) := by decide +kernel
theorem sm_a51_11 : sm_at 51 11 = some (.iload_n 1, 1, (0, 0, 0, 0)) := by decide +kernel
theorem sm_a51_12 : sm_at 51 12 = some (.iload 4, 2, (0, 0, 0, 0)) := by decide +kernel
theorem sm_a51_14 : sm_at 51 14 = some (.iadd, 1, (0, 0, 0, 0)) := by decide +kernel
theorem sm_a51_15 : sm_at 51 15 = some (.aload_n 0, 1, (0, 0, 0, 0)) := by decide +kernel
theorem sm_a51_16 : sm_at 51 16 = some (.getfield 18, 3, (2, 1, 0, 192)) := by decide +kernel
theorem sm_a51_19 : sm_at 51 19 = some (.if_icmp .ge 24, 3, (0, 0, 0, 0)) := by decide +kernel
theorem sm_a51_22 : sm_at 51 22 = some (.iload_n 3, 1, (0, 0, 0, 0)) := by decide +kernel
theorem sm_a51_23 : sm_at 51 23 = some (.aload_n 0, 1, (0, 0, 0, 0)) := by decide +kernel
theorem sm_a51_24 : sm_at 51 24 = some (.getfield 9, 3, (2, 0, 0, 191)) := by decide +kernel
theorem sm_a51_27 : sm_at 51 27 = some (.iload_n 1, 1, (0, 0, 0, 0)) := by decide +kernel
theorem sm_a51_28 : sm_at 51 28 = some (.iload 4, 2, (0, 0, 0, 0)) := by decide +kernel
theorem sm_a51_30 : sm_at 51 30 = some (.iadd, 1, (0, 0, 0, 0)) := by decide +kernel
theorem sm_a51_31 : sm_at 51 31 = some (.iaload, 1, (0, 0, 0, 0)) := by decide +kernel
theorem sm_a51_32 : sm_at 51 32 = some (.iload 4, 2, (0, 0, 0, 0)) := by decide +kernel
theorem sm_a51_34 : sm_at 51 34 = some (.ishl, 1, (0, 0, 0, 0)) := by decide +kernel
theorem sm_a51_35 : sm_at 51 35 = some (.ior, 1, (0, 0, 0, 0)) := by decide +kernel
theorem sm_a51_36 : sm_at 51 36 = some (.istore_n 3, 1, (0, 0, 0, 0)) := by decide +kernel
theorem sm_a51_37 : sm_at 51 37 = some (.iinc 4 1, 3, (0, 0, 0, 0)) := by decide +kernel
theorem sm_a51_40 : sm_at 51 40 = some (.goto (-35), 3, (0, 0, 0, 0)) := by decide +kernel
theorem sm_a51_43 : sm_at 51 43 = some (.iload_n 3, 1, (0, 0, 0, 0)) := by decide +kernel
theorem sm_a51_44 : sm_at 51 44 = some (.ireturn, 1, (0, 0, 0, 0)) := by decide +kernel
theorem bb_51_0 {d : Nat} {M : sm_M} {Q : Option sm_V → sm_M → Prop} {a0 : Nat} {x1 : Int32} {x2 : Int32} {z3 : Option sm_V} {z4 : Option sm_V}
    (h : sm_Run d 51 5 [some (.inr (some a0)), some (.inl x1), some (.inl x2), some (.inl 0), some (.inl 0)] [] M Q) :
    sm_Run d 51 0 [some (.inr (some a0)), some (.inl x1), some (.inl x2), z3, z4] [] M Q := by
  refine ru_go (t := (1, [some (.inr (some a0)), some (.inl x1), some (.inl x2), z3, z4], [.inl 0], M)) sm_a51_0 rfl rfl (st_iconst (by decide)) ?_
  refine ru_go (t := (2, [some (.inr (some a0)), some (.inl x1), some (.inl x2), some (.inl 0), z4], [], M)) sm_a51_1 rfl rfl rfl ?_
  refine ru_go (t := (3, [some (.inr (some a0)), some (.inl x1), some (.inl x2), some (.inl 0), z4], [.inl 0], M)) sm_a51_2 rfl rfl (st_iconst (by decide)) ?_
  refine ru_go (t := (5, [some (.inr (some a0)), some (.inl x1), some (.inl x2), some (.inl 0), some (.inl 0)], [], M)) sm_a51_3 rfl rfl rfl ?_
  exact h
theorem bb_51_5 {d : Nat} {M : sm_M} {Q : Option sm_V → sm_M → Prop} {a0 : Nat} {x1 : Int32} {x2 : Int32} {x3 : Int32} {x4 : Int32}
    (h : ((x2 ≤ x4 → Q (some (.inl x3)) M) ∧ (¬ (x2 ≤ x4) → sm_K M a0 = 9 ∧ (((sm_I M a0 1) ≤ (x1 + x4) → Q (some (.inl x3)) M) ∧ (¬ ((sm_I M a0 1) ≤ (x1 + x4)) → ∃ b_4, sm_R M a0 0 = some b_4 ∧ sm_iA M b_4 ∧ sm_in_ M b_4 (x1 + x4) ∧ sm_Run d 51 5 [some (.inr (some a0)), some (.inl x1), some (.inl x2), some (.inl (x3 ||| ((sm_I M b_4 (x1 + x4).toNatClampNeg) <<< (x4 &&& 31)))), some (.inl (x4 + 1))] [] M Q))))) :
    sm_Run d 51 5 [some (.inr (some a0)), some (.inl x1), some (.inl x2), some (.inl x3), some (.inl x4)] [] M Q := by
  refine ru_go (t := (7, [some (.inr (some a0)), some (.inl x1), some (.inl x2), some (.inl x3), some (.inl x4)], [.inl x4], M)) sm_a51_5 rfl rfl rfl ?_
  refine ru_go (t := (8, [some (.inr (some a0)), some (.inl x1), some (.inl x2), some (.inl x3), some (.inl x4)], [.inl x2, .inl x4], M)) sm_a51_7 rfl rfl rfl ?_
  refine ru_icmp (pc := 8) (p := 43) (p2 := 11) sm_a51_8 (by decide) rfl ⟨fun hc_1 => ?_, fun hc_1 => ?_⟩
  · have h := h.1 hc_1
    refine ru_go (t := (44, [some (.inr (some a0)), some (.inl x1), some (.inl x2), some (.inl x3), some (.inl x4)], [.inl x3], M)) sm_a51_43 rfl rfl rfl ?_
    exact ru_ret sm_a51_44 rfl h
  · have h := h.2 hc_1
    refine ru_go (t := (12, [some (.inr (some a0)), some (.inl x1), some (.inl x2), some (.inl x3), some (.inl x4)], [.inl x1], M)) sm_a51_11 rfl rfl rfl ?_
    refine ru_go (t := (14, [some (.inr (some a0)), some (.inl x1), some (.inl x2), some (.inl x3), some (.inl x4)], [.inl x4, .inl x1], M)) sm_a51_12 rfl rfl rfl ?_
    refine ru_go (t := (15, [some (.inr (some a0)), some (.inl x1), some (.inl x2), some (.inl x3), some (.inl x4)], [.inl (x1 + x4)], M)) sm_a51_14 rfl rfl rfl ?_
    refine ru_go (t := (16, [some (.inr (some a0)), some (.inl x1), some (.inl x2), some (.inl x3), some (.inl x4)], [.inr (some a0), .inl (x1 + x4)], M)) sm_a51_15 rfl rfl rfl ?_
    obtain ⟨h_2, h⟩ := h
    refine ru_go (t := (19, [some (.inr (some a0)), some (.inl x1), some (.inl x2), some (.inl x3), some (.inl x4)], [.inl (sm_I M a0 1), .inl (x1 + x4)], M)) sm_a51_16 rfl rfl (st_getI h_2 rfl) ?_
    refine ru_icmp (pc := 19) (p := 43) (p2 := 22) sm_a51_19 (by decide) rfl ⟨fun hc_3 => ?_, fun hc_3 => ?_⟩
    · have h := h.1 hc_3
      refine ru_go (t := (44, [some (.inr (some a0)), some (.inl x1), some (.inl x2), some (.inl x3), some (.inl x4)], [.inl x3], M)) sm_a51_43 rfl rfl rfl ?_
      exact ru_ret sm_a51_44 rfl h
    · have h := h.2 hc_3
      refine ru_go (t := (23, [some (.inr (some a0)), some (.inl x1), some (.inl x2), some (.inl x3), some (.inl x4)], [.inl x3], M)) sm_a51_22 rfl rfl rfl ?_
      refine ru_go (t := (24, [some (.inr (some a0)), some (.inl x1), some (.inl x2), some (.inl x3), some (.inl x4)], [.inr (some a0), .inl x3], M)) sm_a51_23 rfl rfl rfl ?_
      refine ru_go (t := (27, [some (.inr (some a0)), some (.inl x1), some (.inl x2), some (.inl x3), some (.inl x4)], [.inr (sm_R M a0 0), .inl x3], M)) sm_a51_24 rfl rfl (st_getR h_2 rfl rfl) ?_
      refine ru_go (t := (28, [some (.inr (some a0)), some (.inl x1), some (.inl x2), some (.inl x3), some (.inl x4)], [.inl x1, .inr (sm_R M a0 0), .inl x3], M)) sm_a51_27 rfl rfl rfl ?_
      refine ru_go (t := (30, [some (.inr (some a0)), some (.inl x1), some (.inl x2), some (.inl x3), some (.inl x4)], [.inl x4, .inl x1, .inr (sm_R M a0 0), .inl x3], M)) sm_a51_28 rfl rfl rfl ?_
      refine ru_go (t := (31, [some (.inr (some a0)), some (.inl x1), some (.inl x2), some (.inl x3), some (.inl x4)], [.inl (x1 + x4), .inr (sm_R M a0 0), .inl x3], M)) sm_a51_30 rfl rfl rfl ?_
      obtain ⟨b_4, hb_5, h⟩ := h
      rw [hb_5]
      obtain ⟨h_6, h⟩ := h
      obtain ⟨h_7, h⟩ := h
      refine ru_go (t := (32, [some (.inr (some a0)), some (.inl x1), some (.inl x2), some (.inl x3), some (.inl x4)], [.inl (sm_I M b_4 (x1 + x4).toNatClampNeg), .inl x3], M)) sm_a51_31 rfl rfl (st_iald h_6 h_7) ?_
      refine ru_go (t := (34, [some (.inr (some a0)), some (.inl x1), some (.inl x2), some (.inl x3), some (.inl x4)], [.inl x4, .inl (sm_I M b_4 (x1 + x4).toNatClampNeg), .inl x3], M)) sm_a51_32 rfl rfl rfl ?_
      refine ru_go (t := (35, [some (.inr (some a0)), some (.inl x1), some (.inl x2), some (.inl x3), some (.inl x4)], [.inl ((sm_I M b_4 (x1 + x4).toNatClampNeg) <<< (x4 &&& 31)), .inl x3], M)) sm_a51_34 rfl rfl rfl ?_
      refine ru_go (t := (36, [some (.inr (some a0)), some (.inl x1), some (.inl x2), some (.inl x3), some (.inl x4)], [.inl (x3 ||| ((sm_I M b_4 (x1 + x4).toNatClampNeg) <<< (x4 &&& 31)))], M)) sm_a51_35 rfl rfl rfl ?_
      refine ru_go (t := (37, [some (.inr (some a0)), some (.inl x1), some (.inl x2), some (.inl (x3 ||| ((sm_I M b_4 (x1 + x4).toNatClampNeg) <<< (x4 &&& 31)))), some (.inl x4)], [], M)) sm_a51_36 rfl rfl rfl ?_
      refine ru_go (t := (40, [some (.inr (some a0)), some (.inl x1), some (.inl x2), some (.inl (x3 ||| ((sm_I M b_4 (x1 + x4).toNatClampNeg) <<< (x4 &&& 31)))), some (.inl (x4 + 1))], [], M)) sm_a51_37 rfl rfl (st_iinc rfl (by decide)) ?_
      refine ru_go (t := (5, [some (.inr (some a0)), some (.inl x1), some (.inl x2), some (.inl (x3 ||| ((sm_I M b_4 (x1 + x4).toNatClampNeg) <<< (x4 &&& 31)))), some (.inl (x4 + 1))], [], M)) sm_a51_40 rfl rfl (st_goto (pc := 40) (by decide)) ?_
      exact h
