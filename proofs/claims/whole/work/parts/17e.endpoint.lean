/-! WireBus$Endpoint.<init>:()V -/
theorem sm_a78_0 : sm_at 78 0 = some (.aload_n 0, 1, (0, 0, 0, 0)) := by decide +kernel
theorem sm_a78_1 : sm_at 78 1 = some (.invokespecial 3, 3, (1, 0, 0, 535)) := by decide +kernel
theorem sm_a78_4 : sm_at 78 4 = some (.aload_n 0, 1, (0, 0, 0, 0)) := by decide +kernel
theorem sm_a78_5 : sm_at 78 5 = some (.new 9, 3, (1, 0, 0, 536)) := by decide +kernel
theorem sm_a78_8 : sm_at 78 8 = some (.dup, 1, (0, 0, 0, 0)) := by decide +kernel
theorem sm_a78_9 : sm_at 78 9 = some (.sipush 256, 3, (0, 0, 0, 0)) := by decide +kernel
theorem sm_a78_12 : sm_at 78 12 = some (.invokespecial 13, 3, (14, 29, 1, 537)) := by decide +kernel
theorem sm_a78_15 : sm_at 78 15 = some (.putfield 16, 3, (5, 6, 0, 550)) := by decide +kernel
theorem sm_a78_18 : sm_at 78 18 = some (.return_, 1, (0, 0, 0, 0)) := by decide +kernel
theorem bb_78_0 {d : Nat} {M : sm_M} {Q : Option sm_V → sm_M → Prop} {a0 : Nat}
    (h : sm_Run d 29 0 (sm_ent 29 [.inr (some (sm_N M)), .inl 256]) [] (sm_new M 6 0 3) (fun v M1 => sm_Run (d + 1) 78 15 [some (.inr (some a0))] (v.toList ++ [.inr (some (sm_N M)), .inr (some a0)]) M1 Q)) :
    sm_Run (d + 1) 78 0 [some (.inr (some a0))] [] M Q := by
  refine ru_go (t := (1, [some (.inr (some a0))], [.inr (some a0)], M)) sm_a78_0 rfl rfl rfl ?_
  refine ru_go (t := (4, [some (.inr (some a0))], [], M)) sm_a78_1 rfl rfl (st_oi (Nat.le_of_ble_eq_true rfl)) ?_
  refine ru_go (t := (5, [some (.inr (some a0))], [.inr (some a0)], M)) sm_a78_4 rfl rfl rfl ?_
  refine ru_go (t := (8, [some (.inr (some a0))], [.inr (some (sm_N M)), .inr (some a0)], sm_new M 6 0 3)) sm_a78_5 rfl rfl rfl ?_
  refine ru_go (t := (9, [some (.inr (some a0))], [.inr (some (sm_N M)), .inr (some (sm_N M)), .inr (some a0)], sm_new M 6 0 3)) sm_a78_8 rfl rfl rfl ?_
  refine ru_go (t := (12, [some (.inr (some a0))], [.inl 256, .inr (some (sm_N M)), .inr (some (sm_N M)), .inr (some a0)], sm_new M 6 0 3)) sm_a78_9 rfl rfl (st_sipush (by decide)) ?_
  exact ru_call (p := 15) sm_a78_12 rfl (sc_spec (Or.inl rfl) rfl rfl (Nat.le_of_ble_eq_true rfl)) rfl h
theorem bb_78_15 {d : Nat} {M : sm_M} {Q : Option sm_V → sm_M → Prop} {a0 : Nat} {t0 : Option Nat} {b1 : Nat}
    (h : sm_K M b1 = 18 ∧ Q none (sm_putR M b1 6 t0)) :
    sm_Run (d + 1) 78 15 [some (.inr (some a0))] [.inr t0, .inr (some b1)] M Q := by
  obtain ⟨h_1, h⟩ := h
  refine ru_go (t := (18, [some (.inr (some a0))], [], sm_putR M b1 6 t0)) sm_a78_15 rfl rfl (st_putR h_1 rfl) ?_
  exact ru_ret sm_a78_18 (sm_rvv rfl) h

/-! WireBus$Endpoint.become:(III)V -/
theorem sm_a79_0 : sm_at 79 0 = some (.aload_n 0, 1, (0, 0, 0, 0)) := by decide +kernel
theorem sm_a79_1 : sm_at 79 1 = some (.iload_n 1, 1, (0, 0, 0, 0)) := by decide +kernel
theorem sm_a79_2 : sm_at 79 2 = some (.putfield 20, 3, (5, 0, 0, 538)) := by decide +kernel
theorem sm_a79_5 : sm_at 79 5 = some (.aload_n 0, 1, (0, 0, 0, 0)) := by decide +kernel
theorem sm_a79_6 : sm_at 79 6 = some (.iload_n 2, 1, (0, 0, 0, 0)) := by decide +kernel
theorem sm_a79_7 : sm_at 79 7 = some (.putfield 24, 3, (5, 1, 0, 540)) := by decide +kernel
theorem sm_a79_10 : sm_at 79 10 = some (.aload_n 0, 1, (0, 0, 0, 0)) := by decide +kernel
theorem sm_a79_11 : sm_at 79 11 = some (.iload_n 3, 1, (0, 0, 0, 0)) := by decide +kernel
theorem sm_a79_12 : sm_at 79 12 = some (.putfield 27, 3, (5, 2, 0, 542)) := by decide +kernel
theorem sm_a79_15 : sm_at 79 15 = some (.aload_n 0, 1, (0, 0, 0, 0)) := by decide +kernel
theorem sm_a79_16 : sm_at 79 16 = some (.getfield 16, 3, (5, 6, 0, 550)) := by decide +kernel
theorem sm_a79_19 : sm_at 79 19 = some (.invokevirtual 30, 3, (10, 31, 1, 572)) := by decide +kernel
theorem sm_a79_22 : sm_at 79 22 = some (.aload_n 0, 1, (0, 0, 0, 0)) := by decide +kernel
theorem sm_a79_23 : sm_at 79 23 = some (.invokevirtual 33, 3, (10, 80, 5, 576)) := by decide +kernel
theorem sm_a79_26 : sm_at 79 26 = some (.return_, 1, (0, 0, 0, 0)) := by decide +kernel
theorem bb_79_0 {d : Nat} {M : sm_M} {Q : Option sm_V → sm_M → Prop} {a0 : Nat} {x1 : Int32} {x2 : Int32} {x3 : Int32}
    (h : sm_K M a0 = 18 ∧ ∃ b_2, sm_R (sm_putI (sm_putI (sm_putI M a0 0 x1) a0 1 x2) a0 2 x3) a0 6 = some b_2 ∧ sm_K M b_2 = 6 ∧ sm_Run d 31 0 (sm_ent 31 [.inr (some b_2)]) [] (sm_putI (sm_putI (sm_putI M a0 0 x1) a0 1 x2) a0 2 x3) (fun v M1 => sm_Run (d + 1) 79 22 [some (.inr (some a0)), some (.inl x1), some (.inl x2), some (.inl x3)] (v.toList ++ []) M1 Q)) :
    sm_Run (d + 1) 79 0 [some (.inr (some a0)), some (.inl x1), some (.inl x2), some (.inl x3)] [] M Q := by
  refine ru_go (t := (1, [some (.inr (some a0)), some (.inl x1), some (.inl x2), some (.inl x3)], [.inr (some a0)], M)) sm_a79_0 rfl rfl rfl ?_
  refine ru_go (t := (2, [some (.inr (some a0)), some (.inl x1), some (.inl x2), some (.inl x3)], [.inl x1, .inr (some a0)], M)) sm_a79_1 rfl rfl rfl ?_
  obtain ⟨h_1, h⟩ := h
  refine ru_go (t := (5, [some (.inr (some a0)), some (.inl x1), some (.inl x2), some (.inl x3)], [], sm_putI M a0 0 x1)) sm_a79_2 rfl rfl (st_putI h_1 rfl) ?_
  refine ru_go (t := (6, [some (.inr (some a0)), some (.inl x1), some (.inl x2), some (.inl x3)], [.inr (some a0)], sm_putI M a0 0 x1)) sm_a79_5 rfl rfl rfl ?_
  refine ru_go (t := (7, [some (.inr (some a0)), some (.inl x1), some (.inl x2), some (.inl x3)], [.inl x2, .inr (some a0)], sm_putI M a0 0 x1)) sm_a79_6 rfl rfl rfl ?_
  refine ru_go (t := (10, [some (.inr (some a0)), some (.inl x1), some (.inl x2), some (.inl x3)], [], sm_putI (sm_putI M a0 0 x1) a0 1 x2)) sm_a79_7 rfl rfl (st_putI h_1 rfl) ?_
  refine ru_go (t := (11, [some (.inr (some a0)), some (.inl x1), some (.inl x2), some (.inl x3)], [.inr (some a0)], sm_putI (sm_putI M a0 0 x1) a0 1 x2)) sm_a79_10 rfl rfl rfl ?_
  refine ru_go (t := (12, [some (.inr (some a0)), some (.inl x1), some (.inl x2), some (.inl x3)], [.inl x3, .inr (some a0)], sm_putI (sm_putI M a0 0 x1) a0 1 x2)) sm_a79_11 rfl rfl rfl ?_
  refine ru_go (t := (15, [some (.inr (some a0)), some (.inl x1), some (.inl x2), some (.inl x3)], [], sm_putI (sm_putI (sm_putI M a0 0 x1) a0 1 x2) a0 2 x3)) sm_a79_12 rfl rfl (st_putI h_1 rfl) ?_
  refine ru_go (t := (16, [some (.inr (some a0)), some (.inl x1), some (.inl x2), some (.inl x3)], [.inr (some a0)], sm_putI (sm_putI (sm_putI M a0 0 x1) a0 1 x2) a0 2 x3)) sm_a79_15 rfl rfl rfl ?_
  refine ru_go (t := (19, [some (.inr (some a0)), some (.inl x1), some (.inl x2), some (.inl x3)], [.inr (sm_R (sm_putI (sm_putI (sm_putI M a0 0 x1) a0 1 x2) a0 2 x3) a0 6)], sm_putI (sm_putI (sm_putI M a0 0 x1) a0 1 x2) a0 2 x3)) sm_a79_16 rfl rfl (st_getR h_1 rfl rfl) ?_
  obtain ⟨b_2, hb_3, h⟩ := h
  rw [hb_3]
  obtain ⟨h_4, h⟩ := h
  exact ru_call (p := 22) sm_a79_19 rfl (sc_virt (Or.inl rfl) rfl rfl h_4 (Nat.le_of_ble_eq_true rfl)) rfl h
theorem bb_79_22 {d : Nat} {M : sm_M} {Q : Option sm_V → sm_M → Prop} {a0 : Nat} {x1 : Int32} {x2 : Int32} {x3 : Int32}
    (h : sm_K M a0 = 18 ∧ sm_Run d 80 0 (sm_ent 80 [.inr (some a0)]) [] M (fun v M1 => sm_Run (d + 1) 79 26 [some (.inr (some a0)), some (.inl x1), some (.inl x2), some (.inl x3)] (v.toList ++ []) M1 Q)) :
    sm_Run (d + 1) 79 22 [some (.inr (some a0)), some (.inl x1), some (.inl x2), some (.inl x3)] [] M Q := by
  refine ru_go (t := (23, [some (.inr (some a0)), some (.inl x1), some (.inl x2), some (.inl x3)], [.inr (some a0)], M)) sm_a79_22 rfl rfl rfl ?_
  obtain ⟨h_1, h⟩ := h
  exact ru_call (p := 26) sm_a79_23 rfl (sc_virt (Or.inl rfl) rfl rfl h_1 (Nat.le_of_ble_eq_true rfl)) rfl h
theorem bb_79_26 {d : Nat} {M : sm_M} {Q : Option sm_V → sm_M → Prop} {a0 : Nat} {x1 : Int32} {x2 : Int32} {x3 : Int32}
    (h : Q none M) :
    sm_Run (d + 1) 79 26 [some (.inr (some a0)), some (.inl x1), some (.inl x2), some (.inl x3)] [] M Q := by
  exact ru_ret sm_a79_26 (sm_rvv rfl) h

/-! WireBus$Endpoint.restart:()V -/
theorem sm_a80_0 : sm_at 80 0 = some (.aload_n 0, 1, (0, 0, 0, 0)) := by decide +kernel
theorem sm_a80_1 : sm_at 80 1 = some (.iconst 0, 1, (0, 0, 0, 0)) := by decide +kernel
theorem sm_a80_2 : sm_at 80 2 = some (.putfield 36, 3, (5, 3, 0, 544)) := by decide +kernel
theorem sm_a80_5 : sm_at 80 5 = some (.aload_n 0, 1, (0, 0, 0, 0)) := by decide +kernel
theorem sm_a80_6 : sm_at 80 6 = some (.iconst 0, 1, (0, 0, 0, 0)) := by decide +kernel
theorem sm_a80_7 : sm_at 80 7 = some (.putfield 39, 3, (5, 4, 0, 546)) := by decide +kernel
theorem sm_a80_10 : sm_at 80 10 = some (.aload_n 0, 1, (0, 0, 0, 0)) := by decide +kernel
theorem sm_a80_11 : sm_at 80 11 = some (.iconst 0, 1, (0, 0, 0, 0)) := by decide +kernel
theorem sm_a80_12 : sm_at 80 12 = some (.putfield 43, 3, (5, 5, 0, 549)) := by decide +kernel
theorem sm_a80_15 : sm_at 80 15 = some (.return_, 1, (0, 0, 0, 0)) := by decide +kernel
theorem bb_80_0 {d : Nat} {M : sm_M} {Q : Option sm_V → sm_M → Prop} {a0 : Nat}
    (h : sm_K M a0 = 18 ∧ Q none (sm_putI (sm_putI (sm_putI M a0 3 0) a0 4 0) a0 5 0)) :
    sm_Run d 80 0 [some (.inr (some a0))] [] M Q := by
  refine ru_go (t := (1, [some (.inr (some a0))], [.inr (some a0)], M)) sm_a80_0 rfl rfl rfl ?_
  refine ru_go (t := (2, [some (.inr (some a0))], [.inl 0, .inr (some a0)], M)) sm_a80_1 rfl rfl (st_iconst (by decide)) ?_
  obtain ⟨h_1, h⟩ := h
  refine ru_go (t := (5, [some (.inr (some a0))], [], sm_putI M a0 3 0)) sm_a80_2 rfl rfl (st_putI h_1 rfl) ?_
  refine ru_go (t := (6, [some (.inr (some a0))], [.inr (some a0)], sm_putI M a0 3 0)) sm_a80_5 rfl rfl rfl ?_
  refine ru_go (t := (7, [some (.inr (some a0))], [.inl 0, .inr (some a0)], sm_putI M a0 3 0)) sm_a80_6 rfl rfl (st_iconst (by decide)) ?_
  refine ru_go (t := (10, [some (.inr (some a0))], [], sm_putI (sm_putI M a0 3 0) a0 4 0)) sm_a80_7 rfl rfl (st_putI h_1 (by decide)) ?_
  refine ru_go (t := (11, [some (.inr (some a0))], [.inr (some a0)], sm_putI (sm_putI M a0 3 0) a0 4 0)) sm_a80_10 rfl rfl rfl ?_
  refine ru_go (t := (12, [some (.inr (some a0))], [.inl 0, .inr (some a0)], sm_putI (sm_putI M a0 3 0) a0 4 0)) sm_a80_11 rfl rfl (st_iconst (by decide)) ?_
  refine ru_go (t := (15, [some (.inr (some a0))], [], sm_putI (sm_putI (sm_putI M a0 3 0) a0 4 0) a0 5 0)) sm_a80_12 rfl rfl (st_putI h_1 rfl) ?_
  exact ru_ret sm_a80_15 (sm_rvv rfl) h

/-! WireBus$Endpoint.hearOut:(LWireBus$Device;LWireBus$Packet;)V -/
theorem sm_a81_0 : sm_at 81 0 = some (.aload_n 0, 1, (0, 0, 0, 0)) := by decide +kernel
theorem sm_a81_1 : sm_at 81 1 = some (.getfield 39, 3, (5, 4, 0, 546)) := by decide +kernel
theorem sm_a81_4 : sm_at 81 4 = some (.ifCond .eq 12, 3, (0, 0, 0, 0)) := by decide +kernel
theorem sm_a81_7 : sm_at 81 7 = some (.aload_n 1, 1, (0, 0, 0, 0)) := by decide +kernel
theorem sm_a81_8 : sm_at 81 8 = some (.bipush 14, 2, (0, 0, 0, 0)) := by decide +kernel
theorem sm_a81_10 : sm_at 81 10 = some (.invokevirtual 46, 3, (10, 65, 4, 881)) := by decide +kernel
theorem sm_a81_13 : sm_at 81 13 = some (.goto 102, 3, (0, 0, 0, 0)) := by decide +kernel
theorem sm_a81_16 : sm_at 81 16 = some (.aload_n 2, 1, (0, 0, 0, 0)) := by decide +kernel
theorem sm_a81_17 : sm_at 81 17 = some (.getfield 51, 3, (7, 1, 1, 145)) := by decide +kernel
theorem sm_a81_20 : sm_at 81 20 = some (.invokestatic 56, 3, (13, 28, 0, 958)) := by decide +kernel
theorem sm_a81_23 : sm_at 81 23 = some (.aload_n 0, 1, (0, 0, 0, 0)) := by decide +kernel
theorem sm_a81_24 : sm_at 81 24 = some (.getfield 36, 3, (5, 3, 0, 544)) := by decide +kernel
theorem sm_a81_27 : sm_at 81 27 = some (.if_icmp .eq 11, 3, (0, 0, 0, 0)) := by decide +kernel
theorem sm_a81_30 : sm_at 81 30 = some (.aload_n 1, 1, (0, 0, 0, 0)) := by decide +kernel
theorem sm_a81_31 : sm_at 81 31 = some (.iconst 2, 1, (0, 0, 0, 0)) := by decide +kernel
theorem sm_a81_32 : sm_at 81 32 = some (.invokevirtual 46, 3, (10, 65, 4, 881)) := by decide +kernel
theorem sm_a81_35 : sm_at 81 35 = some (.goto 80, 3, (0, 0, 0, 0)) := by decide +kernel
theorem sm_a81_38 : sm_at 81 38 = some (.aload_n 2, 1, (0, 0, 0, 0)) := by decide +kernel
theorem sm_a81_39 : sm_at 81 39 = some (.getfield 60, 3, (7, 4, 1, 159)) := by decide +kernel
theorem sm_a81_42 : sm_at 81 42 = some (.aload_n 0, 1, (0, 0, 0, 0)) := by decide +kernel
theorem sm_a81_43 : sm_at 81 43 = some (.getfield 24, 3, (5, 1, 0, 540)) := by decide +kernel
theorem sm_a81_46 : sm_at 81 46 = some (.if_icmp .gt 17, 3, (0, 0, 0, 0)) := by decide +kernel
theorem sm_a81_49 : sm_at 81 49 = some (.aload_n 2, 1, (0, 0, 0, 0)) := by decide +kernel
theorem sm_a81_50 : sm_at 81 50 = some (.getfield 60, 3, (7, 4, 1, 159)) := by decide +kernel
theorem sm_a81_53 : sm_at 81 53 = some (.aload_n 0, 1, (0, 0, 0, 0)) := by decide +kernel
theorem sm_a81_54 : sm_at 81 54 = some (.getfield 16, 3, (5, 6, 0, 550)) := by decide +kernel
theorem sm_a81_57 : sm_at 81 57 = some (.invokevirtual 63, 3, (10, 30, 1, 959)) := by decide +kernel
theorem sm_a81_60 : sm_at 81 60 = some (.if_icmp .le 12, 3, (0, 0, 0, 0)) := by decide +kernel
theorem sm_a81_63 : sm_at 81 63 = some (.aload_n 1, 1, (0, 0, 0, 0)) := by decide +kernel
theorem sm_a81_64 : sm_at 81 64 = some (.bipush 10, 2, (0, 0, 0, 0)) := by decide +kernel
theorem sm_a81_66 : sm_at 81 66 = some (.invokevirtual 46, 3, (10, 65, 4, 881)) := by decide +kernel
theorem sm_a81_69 : sm_at 81 69 = some (.goto 46, 3, (0, 0, 0, 0)) := by decide +kernel
theorem sm_a81_72 : sm_at 81 72 = some (.iconst 0, 1, (0, 0, 0, 0)) := by decide +kernel
theorem sm_a81_73 : sm_at 81 73 = some (.istore_n 3, 1, (0, 0, 0, 0)) := by decide +kernel
theorem sm_a81_74 : sm_at 81 74 = some (.iload_n 3, 1, (0, 0, 0, 0)) := by decide +kernel
theorem sm_a81_75 : sm_at 81 75 = some (.aload_n 2, 1, (0, 0, 0, 0)) := by decide +kernel
theorem sm_a81_76 : sm_at 81 76 = some (.getfield 60, 3, (7, 4, 1, 159)) := by decide +kernel
theorem sm_a81_79 : sm_at 81 79 = some (.if_icmp .ge 21, 3, (0, 0, 0, 0)) := by decide +kernel
theorem sm_a81_82 : sm_at 81 82 = some (.aload_n 0, 1, (0, 0, 0, 0)) := by decide +kernel
theorem sm_a81_83 : sm_at 81 83 = some (.getfield 16, 3, (5, 6, 0, 550)) := by decide +kernel
theorem sm_a81_86 : sm_at 81 86 = some (.aload_n 2, 1, (0, 0, 0, 0)) := by decide +kernel
theorem sm_a81_87 : sm_at 81 87 = some (.iload_n 3, 1, (0, 0, 0, 0)) := by decide +kernel
theorem sm_a81_88 : sm_at 81 88 = some (.invokevirtual 67, 3, (10, 107, 7, 960)) := by decide +kernel
theorem sm_a81_91 : sm_at 81 91 = some (.invokevirtual 70, 3, (10, 33, 1, 961)) := by decide +kernel
theorem sm_a81_94 : sm_at 81 94 = some (.iinc 3 1, 3, (0, 0, 0, 0)) := by decide +kernel
theorem sm_a81_97 : sm_at 81 97 = some (.goto (-23), 3, (0, 0, 0, 0)) := by decide +kernel
theorem sm_a81_100 : sm_at 81 100 = some (.aload_n 0, 1, (0, 0, 0, 0)) := by decide +kernel
theorem sm_a81_101 : sm_at 81 101 = some (.iconst 1, 1, (0, 0, 0, 0)) := by decide +kernel
theorem sm_a81_102 : sm_at 81 102 = some (.aload_n 0, 1, (0, 0, 0, 0)) := by decide +kernel
theorem sm_a81_103 : sm_at 81 103 = some (.getfield 36, 3, (5, 3, 0, 544)) := by decide +kernel
theorem sm_a81_106 : sm_at 81 106 = some (.isub, 1, (0, 0, 0, 0)) := by decide +kernel
theorem sm_a81_107 : sm_at 81 107 = some (.putfield 36, 3, (5, 3, 0, 544)) := by decide +kernel
theorem sm_a81_110 : sm_at 81 110 = some (.aload_n 1, 1, (0, 0, 0, 0)) := by decide +kernel
theorem sm_a81_111 : sm_at 81 111 = some (.iconst 2, 1, (0, 0, 0, 0)) := by decide +kernel
theorem sm_a81_112 : sm_at 81 112 = some (.invokevirtual 46, 3, (10, 65, 4, 881)) := by decide +kernel
theorem sm_a81_115 : sm_at 81 115 = some (.return_, 1, (0, 0, 0, 0)) := by decide +kernel
theorem bb_81_0 {d : Nat} {M : sm_M} {Q : Option sm_V → sm_M → Prop} {a0 : Nat} {r1 : Option Nat} {r2 : Option Nat} {z3 : Option sm_V}
    (h : sm_K M a0 = 18 ∧ (((sm_I M a0 4) = 0 → ∃ b_3, r2 = some b_3 ∧ sm_K M b_3 = 24 ∧ sm_Run d 28 0 (sm_ent 28 [.inl (sm_I M b_3 1)]) [] M (fun v M1 => sm_Run (d + 1) 81 23 [some (.inr (some a0)), some (.inr r1), some (.inr (some b_3)), z3] (v.toList ++ []) M1 Q)) ∧ (¬ ((sm_I M a0 4) = 0) → ∃ b_6, r1 = some b_6 ∧ sm_K M b_6 = 15 ∧ sm_Run d 65 0 (sm_ent 65 [.inr (some b_6), .inl 14]) [] M (fun v M1 => sm_Run (d + 1) 81 13 [some (.inr (some a0)), some (.inr (some b_6)), some (.inr r2), z3] (v.toList ++ []) M1 Q)))) :
    sm_Run (d + 1) 81 0 [some (.inr (some a0)), some (.inr r1), some (.inr r2), z3] [] M Q := by
  refine ru_go (t := (1, [some (.inr (some a0)), some (.inr r1), some (.inr r2), z3], [.inr (some a0)], M)) sm_a81_0 rfl rfl rfl ?_
  obtain ⟨h_1, h⟩ := h
  refine ru_go (t := (4, [some (.inr (some a0)), some (.inr r1), some (.inr r2), z3], [.inl (sm_I M a0 4)], M)) sm_a81_1 rfl rfl (st_getI h_1 rfl) ?_
  refine ru_if (pc := 4) (p := 16) (p2 := 7) sm_a81_4 (by decide) rfl ⟨fun hc_2 => ?_, fun hc_2 => ?_⟩
  · have h := h.1 hc_2
    refine ru_go (t := (17, [some (.inr (some a0)), some (.inr r1), some (.inr r2), z3], [.inr r2], M)) sm_a81_16 rfl rfl rfl ?_
    obtain ⟨b_3, hb_4, h⟩ := h
    rw [hb_4]
    obtain ⟨h_5, h⟩ := h
    refine ru_go (t := (20, [some (.inr (some a0)), some (.inr r1), some (.inr (some b_3)), z3], [.inl (sm_I M b_3 1)], M)) sm_a81_17 rfl rfl (st_getI h_5 rfl) ?_
    exact ru_call (p := 23) sm_a81_20 rfl (sc_stat (Or.inr rfl) (Nat.le_of_ble_eq_true rfl) rfl rfl (Nat.le_of_ble_eq_true rfl)) rfl h
  · have h := h.2 hc_2
    refine ru_go (t := (8, [some (.inr (some a0)), some (.inr r1), some (.inr r2), z3], [.inr r1], M)) sm_a81_7 rfl rfl rfl ?_
    refine ru_go (t := (10, [some (.inr (some a0)), some (.inr r1), some (.inr r2), z3], [.inl 14, .inr r1], M)) sm_a81_8 rfl rfl (st_bipush (by decide)) ?_
    obtain ⟨b_6, hb_7, h⟩ := h
    rw [hb_7]
    obtain ⟨h_8, h⟩ := h
    exact ru_call (p := 13) sm_a81_10 rfl (sc_virt (Or.inl rfl) rfl rfl h_8 (Nat.le_of_ble_eq_true rfl)) rfl h
theorem bb_81_13 {d : Nat} {M : sm_M} {Q : Option sm_V → sm_M → Prop} {a0 : Nat} {r1 : Option Nat} {r2 : Option Nat} {z3 : Option sm_V}
    (h : Q none M) :
    sm_Run (d + 1) 81 13 [some (.inr (some a0)), some (.inr r1), some (.inr r2), z3] [] M Q := by
  refine ru_go (t := (115, [some (.inr (some a0)), some (.inr r1), some (.inr r2), z3], [], M)) sm_a81_13 rfl rfl (st_goto (pc := 13) (by decide)) ?_
  exact ru_ret sm_a81_115 (sm_rvv rfl) h
theorem bb_81_23 {d : Nat} {M : sm_M} {Q : Option sm_V → sm_M → Prop} {a0 : Nat} {r1 : Option Nat} {r2 : Option Nat} {z3 : Option sm_V} {y0 : Int32}
    (h : sm_K M a0 = 18 ∧ ((y0 = (sm_I M a0 3) → ∃ b_3, r2 = some b_3 ∧ sm_K M b_3 = 24 ∧ (((sm_I M a0 1) < (sm_I M b_3 4) → ∃ b_7, r1 = some b_7 ∧ sm_K M b_7 = 15 ∧ sm_Run d 65 0 (sm_ent 65 [.inr (some b_7), .inl 10]) [] M (fun v M1 => sm_Run (d + 1) 81 69 [some (.inr (some a0)), some (.inr (some b_7)), some (.inr (some b_3)), z3] (v.toList ++ []) M1 Q)) ∧ (¬ ((sm_I M a0 1) < (sm_I M b_3 4)) → ∃ b_10, sm_R M a0 6 = some b_10 ∧ sm_K M b_10 = 6 ∧ sm_Run d 30 0 (sm_ent 30 [.inr (some b_10)]) [] M (fun v M1 => sm_Run (d + 1) 81 60 [some (.inr (some a0)), some (.inr r1), some (.inr (some b_3)), z3] (v.toList ++ [.inl (sm_I M b_3 4)]) M1 Q)))) ∧ (¬ (y0 = (sm_I M a0 3)) → ∃ b_13, r1 = some b_13 ∧ sm_K M b_13 = 15 ∧ sm_Run d 65 0 (sm_ent 65 [.inr (some b_13), .inl 2]) [] M (fun v M1 => sm_Run (d + 1) 81 35 [some (.inr (some a0)), some (.inr (some b_13)), some (.inr r2), z3] (v.toList ++ []) M1 Q)))) :
    sm_Run (d + 1) 81 23 [some (.inr (some a0)), some (.inr r1), some (.inr r2), z3] [.inl y0] M Q := by
  refine ru_go (t := (24, [some (.inr (some a0)), some (.inr r1), some (.inr r2), z3], [.inr (some a0), .inl y0], M)) sm_a81_23 rfl rfl rfl ?_
  obtain ⟨h_1, h⟩ := h
  refine ru_go (t := (27, [some (.inr (some a0)), some (.inr r1), some (.inr r2), z3], [.inl (sm_I M a0 3), .inl y0], M)) sm_a81_24 rfl rfl (st_getI h_1 rfl) ?_
  refine ru_icmp (pc := 27) (p := 38) (p2 := 30) sm_a81_27 (by decide) rfl ⟨fun hc_2 => ?_, fun hc_2 => ?_⟩
  · have h := h.1 hc_2
    refine ru_go (t := (39, [some (.inr (some a0)), some (.inr r1), some (.inr r2), z3], [.inr r2], M)) sm_a81_38 rfl rfl rfl ?_
    obtain ⟨b_3, hb_4, h⟩ := h
    rw [hb_4]
    obtain ⟨h_5, h⟩ := h
    refine ru_go (t := (42, [some (.inr (some a0)), some (.inr r1), some (.inr (some b_3)), z3], [.inl (sm_I M b_3 4)], M)) sm_a81_39 rfl rfl (st_getI h_5 rfl) ?_
    refine ru_go (t := (43, [some (.inr (some a0)), some (.inr r1), some (.inr (some b_3)), z3], [.inr (some a0), .inl (sm_I M b_3 4)], M)) sm_a81_42 rfl rfl rfl ?_
    refine ru_go (t := (46, [some (.inr (some a0)), some (.inr r1), some (.inr (some b_3)), z3], [.inl (sm_I M a0 1), .inl (sm_I M b_3 4)], M)) sm_a81_43 rfl rfl (st_getI h_1 rfl) ?_
    refine ru_icmp (pc := 46) (p := 63) (p2 := 49) sm_a81_46 (by decide) rfl ⟨fun hc_6 => ?_, fun hc_6 => ?_⟩
    · have h := h.1 hc_6
      refine ru_go (t := (64, [some (.inr (some a0)), some (.inr r1), some (.inr (some b_3)), z3], [.inr r1], M)) sm_a81_63 rfl rfl rfl ?_
      refine ru_go (t := (66, [some (.inr (some a0)), some (.inr r1), some (.inr (some b_3)), z3], [.inl 10, .inr r1], M)) sm_a81_64 rfl rfl (st_bipush (by decide)) ?_
      obtain ⟨b_7, hb_8, h⟩ := h
      rw [hb_8]
      obtain ⟨h_9, h⟩ := h
      exact ru_call (p := 69) sm_a81_66 rfl (sc_virt (Or.inl rfl) rfl rfl h_9 (Nat.le_of_ble_eq_true rfl)) rfl h
    · have h := h.2 hc_6
      refine ru_go (t := (50, [some (.inr (some a0)), some (.inr r1), some (.inr (some b_3)), z3], [.inr (some b_3)], M)) sm_a81_49 rfl rfl rfl ?_
      refine ru_go (t := (53, [some (.inr (some a0)), some (.inr r1), some (.inr (some b_3)), z3], [.inl (sm_I M b_3 4)], M)) sm_a81_50 rfl rfl (st_getI h_5 rfl) ?_
      refine ru_go (t := (54, [some (.inr (some a0)), some (.inr r1), some (.inr (some b_3)), z3], [.inr (some a0), .inl (sm_I M b_3 4)], M)) sm_a81_53 rfl rfl rfl ?_
      refine ru_go (t := (57, [some (.inr (some a0)), some (.inr r1), some (.inr (some b_3)), z3], [.inr (sm_R M a0 6), .inl (sm_I M b_3 4)], M)) sm_a81_54 rfl rfl (st_getR h_1 rfl rfl) ?_
      obtain ⟨b_10, hb_11, h⟩ := h
      rw [hb_11]
      obtain ⟨h_12, h⟩ := h
      exact ru_call (p := 60) sm_a81_57 rfl (sc_virt (Or.inl rfl) rfl rfl h_12 (Nat.le_of_ble_eq_true rfl)) rfl h
  · have h := h.2 hc_2
    refine ru_go (t := (31, [some (.inr (some a0)), some (.inr r1), some (.inr r2), z3], [.inr r1], M)) sm_a81_30 rfl rfl rfl ?_
    refine ru_go (t := (32, [some (.inr (some a0)), some (.inr r1), some (.inr r2), z3], [.inl 2, .inr r1], M)) sm_a81_31 rfl rfl (st_iconst (by decide)) ?_
    obtain ⟨b_13, hb_14, h⟩ := h
    rw [hb_14]
    obtain ⟨h_15, h⟩ := h
    exact ru_call (p := 35) sm_a81_32 rfl (sc_virt (Or.inl rfl) rfl rfl h_15 (Nat.le_of_ble_eq_true rfl)) rfl h
theorem bb_81_35 {d : Nat} {M : sm_M} {Q : Option sm_V → sm_M → Prop} {a0 : Nat} {r1 : Option Nat} {r2 : Option Nat} {z3 : Option sm_V}
    (h : Q none M) :
    sm_Run (d + 1) 81 35 [some (.inr (some a0)), some (.inr r1), some (.inr r2), z3] [] M Q := by
  refine ru_go (t := (115, [some (.inr (some a0)), some (.inr r1), some (.inr r2), z3], [], M)) sm_a81_35 rfl rfl (st_goto (pc := 35) (by decide)) ?_
  exact ru_ret sm_a81_115 (sm_rvv rfl) h
theorem bb_81_60 {d : Nat} {M : sm_M} {Q : Option sm_V → sm_M → Prop} {a0 : Nat} {r1 : Option Nat} {r2 : Option Nat} {z3 : Option sm_V} {y0 : Int32} {y1 : Int32}
    (h : ((y1 ≤ y0 → sm_Run (d + 1) 81 74 [some (.inr (some a0)), some (.inr r1), some (.inr r2), some (.inl 0)] [] M Q) ∧ (¬ (y1 ≤ y0) → ∃ b_2, r1 = some b_2 ∧ sm_K M b_2 = 15 ∧ sm_Run d 65 0 (sm_ent 65 [.inr (some b_2), .inl 10]) [] M (fun v M1 => sm_Run (d + 1) 81 69 [some (.inr (some a0)), some (.inr (some b_2)), some (.inr r2), z3] (v.toList ++ []) M1 Q)))) :
    sm_Run (d + 1) 81 60 [some (.inr (some a0)), some (.inr r1), some (.inr r2), z3] [.inl y0, .inl y1] M Q := by
  refine ru_icmp (pc := 60) (p := 72) (p2 := 63) sm_a81_60 (by decide) rfl ⟨fun hc_1 => ?_, fun hc_1 => ?_⟩
  · have h := h.1 hc_1
    refine ru_go (t := (73, [some (.inr (some a0)), some (.inr r1), some (.inr r2), z3], [.inl 0], M)) sm_a81_72 rfl rfl (st_iconst (by decide)) ?_
    refine ru_go (t := (74, [some (.inr (some a0)), some (.inr r1), some (.inr r2), some (.inl 0)], [], M)) sm_a81_73 rfl rfl rfl ?_
    exact h
  · have h := h.2 hc_1
    refine ru_go (t := (64, [some (.inr (some a0)), some (.inr r1), some (.inr r2), z3], [.inr r1], M)) sm_a81_63 rfl rfl rfl ?_
    refine ru_go (t := (66, [some (.inr (some a0)), some (.inr r1), some (.inr r2), z3], [.inl 10, .inr r1], M)) sm_a81_64 rfl rfl (st_bipush (by decide)) ?_
    obtain ⟨b_2, hb_3, h⟩ := h
    rw [hb_3]
    obtain ⟨h_4, h⟩ := h
    exact ru_call (p := 69) sm_a81_66 rfl (sc_virt (Or.inl rfl) rfl rfl h_4 (Nat.le_of_ble_eq_true rfl)) rfl h
theorem bb_81_69 {d : Nat} {M : sm_M} {Q : Option sm_V → sm_M → Prop} {a0 : Nat} {r1 : Option Nat} {r2 : Option Nat} {z3 : Option sm_V}
    (h : Q none M) :
    sm_Run (d + 1) 81 69 [some (.inr (some a0)), some (.inr r1), some (.inr r2), z3] [] M Q := by
  refine ru_go (t := (115, [some (.inr (some a0)), some (.inr r1), some (.inr r2), z3], [], M)) sm_a81_69 rfl rfl (st_goto (pc := 69) (by decide)) ?_
  exact ru_ret sm_a81_115 (sm_rvv rfl) h
theorem bb_81_74 {d : Nat} {M : sm_M} {Q : Option sm_V → sm_M → Prop} {a0 : Nat} {r1 : Option Nat} {r2 : Option Nat} {x3 : Int32}
    (h : ∃ b_1, r2 = some b_1 ∧ sm_K M b_1 = 24 ∧ (((sm_I M b_1 4) ≤ x3 → sm_K M a0 = 18 ∧ ∃ b_6, r1 = some b_6 ∧ sm_K M b_6 = 15 ∧ sm_Run d 65 0 (sm_ent 65 [.inr (some b_6), .inl 2]) [] (sm_putI M a0 3 (1 - (sm_I M a0 3))) (fun v M1 => sm_Run (d + 1) 81 115 [some (.inr (some a0)), some (.inr (some b_6)), some (.inr (some b_1)), some (.inl x3)] (v.toList ++ []) M1 Q)) ∧ (¬ ((sm_I M b_1 4) ≤ x3) → sm_K M a0 = 18 ∧ sm_Run d 107 0 (sm_ent 107 [.inr (some b_1), .inl x3]) [] M (fun v M1 => sm_Run (d + 1) 81 91 [some (.inr (some a0)), some (.inr r1), some (.inr (some b_1)), some (.inl x3)] (v.toList ++ [.inr (sm_R M a0 6)]) M1 Q)))) :
    sm_Run (d + 1) 81 74 [some (.inr (some a0)), some (.inr r1), some (.inr r2), some (.inl x3)] [] M Q := by
  refine ru_go (t := (75, [some (.inr (some a0)), some (.inr r1), some (.inr r2), some (.inl x3)], [.inl x3], M)) sm_a81_74 rfl rfl rfl ?_
  refine ru_go (t := (76, [some (.inr (some a0)), some (.inr r1), some (.inr r2), some (.inl x3)], [.inr r2, .inl x3], M)) sm_a81_75 rfl rfl rfl ?_
  obtain ⟨b_1, hb_2, h⟩ := h
  rw [hb_2]
  obtain ⟨h_3, h⟩ := h
  refine ru_go (t := (79, [some (.inr (some a0)), some (.inr r1), some (.inr (some b_1)), some (.inl x3)], [.inl (sm_I M b_1 4), .inl x3], M)) sm_a81_76 rfl rfl (st_getI h_3 rfl) ?_
  refine ru_icmp (pc := 79) (p := 100) (p2 := 82) sm_a81_79 (by decide) rfl ⟨fun hc_4 => ?_, fun hc_4 => ?_⟩
  · have h := h.1 hc_4
    refine ru_go (t := (101, [some (.inr (some a0)), some (.inr r1), some (.inr (some b_1)), some (.inl x3)], [.inr (some a0)], M)) sm_a81_100 rfl rfl rfl ?_
    refine ru_go (t := (102, [some (.inr (some a0)), some (.inr r1), some (.inr (some b_1)), some (.inl x3)], [.inl 1, .inr (some a0)], M)) sm_a81_101 rfl rfl (st_iconst (by decide)) ?_
    refine ru_go (t := (103, [some (.inr (some a0)), some (.inr r1), some (.inr (some b_1)), some (.inl x3)], [.inr (some a0), .inl 1, .inr (some a0)], M)) sm_a81_102 rfl rfl rfl ?_
    obtain ⟨h_5, h⟩ := h
    refine ru_go (t := (106, [some (.inr (some a0)), some (.inr r1), some (.inr (some b_1)), some (.inl x3)], [.inl (sm_I M a0 3), .inl 1, .inr (some a0)], M)) sm_a81_103 rfl rfl (st_getI h_5 rfl) ?_
    refine ru_go (t := (107, [some (.inr (some a0)), some (.inr r1), some (.inr (some b_1)), some (.inl x3)], [.inl (1 - (sm_I M a0 3)), .inr (some a0)], M)) sm_a81_106 rfl rfl rfl ?_
    refine ru_go (t := (110, [some (.inr (some a0)), some (.inr r1), some (.inr (some b_1)), some (.inl x3)], [], sm_putI M a0 3 (1 - (sm_I M a0 3)))) sm_a81_107 rfl rfl (st_putI h_5 rfl) ?_
    refine ru_go (t := (111, [some (.inr (some a0)), some (.inr r1), some (.inr (some b_1)), some (.inl x3)], [.inr r1], sm_putI M a0 3 (1 - (sm_I M a0 3)))) sm_a81_110 rfl rfl rfl ?_
    refine ru_go (t := (112, [some (.inr (some a0)), some (.inr r1), some (.inr (some b_1)), some (.inl x3)], [.inl 2, .inr r1], sm_putI M a0 3 (1 - (sm_I M a0 3)))) sm_a81_111 rfl rfl (st_iconst (by decide)) ?_
    obtain ⟨b_6, hb_7, h⟩ := h
    rw [hb_7]
    obtain ⟨h_8, h⟩ := h
    exact ru_call (p := 115) sm_a81_112 rfl (sc_virt (Or.inl rfl) rfl rfl h_8 (Nat.le_of_ble_eq_true rfl)) rfl h
  · have h := h.2 hc_4
    refine ru_go (t := (83, [some (.inr (some a0)), some (.inr r1), some (.inr (some b_1)), some (.inl x3)], [.inr (some a0)], M)) sm_a81_82 rfl rfl rfl ?_
    obtain ⟨h_9, h⟩ := h
    refine ru_go (t := (86, [some (.inr (some a0)), some (.inr r1), some (.inr (some b_1)), some (.inl x3)], [.inr (sm_R M a0 6)], M)) sm_a81_83 rfl rfl (st_getR h_9 rfl rfl) ?_
    refine ru_go (t := (87, [some (.inr (some a0)), some (.inr r1), some (.inr (some b_1)), some (.inl x3)], [.inr (some b_1), .inr (sm_R M a0 6)], M)) sm_a81_86 rfl rfl rfl ?_
    refine ru_go (t := (88, [some (.inr (some a0)), some (.inr r1), some (.inr (some b_1)), some (.inl x3)], [.inl x3, .inr (some b_1), .inr (sm_R M a0 6)], M)) sm_a81_87 rfl rfl rfl ?_
    exact ru_call (p := 91) sm_a81_88 rfl (sc_virt (Or.inl rfl) rfl rfl h_3 (Nat.le_of_ble_eq_true rfl)) rfl h
theorem bb_81_91 {d : Nat} {M : sm_M} {Q : Option sm_V → sm_M → Prop} {a0 : Nat} {r1 : Option Nat} {r2 : Option Nat} {x3 : Int32} {y0 : Int32} {t1 : Option Nat}
    (h : ∃ b_1, t1 = some b_1 ∧ sm_K M b_1 = 6 ∧ sm_Run d 33 0 (sm_ent 33 [.inr (some b_1), .inl y0]) [] M (fun v M1 => sm_Run (d + 1) 81 94 [some (.inr (some a0)), some (.inr r1), some (.inr r2), some (.inl x3)] (v.toList ++ []) M1 Q)) :
    sm_Run (d + 1) 81 91 [some (.inr (some a0)), some (.inr r1), some (.inr r2), some (.inl x3)] [.inl y0, .inr t1] M Q := by
  obtain ⟨b_1, hb_2, h⟩ := h
  rw [hb_2]
  obtain ⟨h_3, h⟩ := h
  exact ru_call (p := 94) sm_a81_91 rfl (sc_virt (Or.inl rfl) rfl rfl h_3 (Nat.le_of_ble_eq_true rfl)) rfl h
theorem bb_81_94 {d : Nat} {M : sm_M} {Q : Option sm_V → sm_M → Prop} {a0 : Nat} {r1 : Option Nat} {r2 : Option Nat} {x3 : Int32}
    (h : sm_Run (d + 1) 81 74 [some (.inr (some a0)), some (.inr r1), some (.inr r2), some (.inl (x3 + 1))] [] M Q) :
    sm_Run (d + 1) 81 94 [some (.inr (some a0)), some (.inr r1), some (.inr r2), some (.inl x3)] [] M Q := by
  refine ru_go (t := (97, [some (.inr (some a0)), some (.inr r1), some (.inr r2), some (.inl (x3 + 1))], [], M)) sm_a81_94 rfl rfl (st_iinc rfl (by decide)) ?_
  refine ru_go (t := (74, [some (.inr (some a0)), some (.inr r1), some (.inr r2), some (.inl (x3 + 1))], [], M)) sm_a81_97 rfl rfl (st_goto (pc := 97) (by decide)) ?_
  exact h
theorem bb_81_115 {d : Nat} {M : sm_M} {Q : Option sm_V → sm_M → Prop} {a0 : Nat} {r1 : Option Nat} {r2 : Option Nat} {z3 : Option sm_V}
    (h : Q none M) :
    sm_Run (d + 1) 81 115 [some (.inr (some a0)), some (.inr r1), some (.inr r2), z3] [] M Q := by
  exact ru_ret sm_a81_115 (sm_rvv rfl) h

/-! WireBus$Endpoint.hearIn:(LWireBus$Device;)V -/
theorem sm_a82_0 : sm_at 82 0 = some (.aload_n 0, 1, (0, 0, 0, 0)) := by decide +kernel
theorem sm_a82_1 : sm_at 82 1 = some (.getfield 39, 3, (5, 4, 0, 546)) := by decide +kernel
theorem sm_a82_4 : sm_at 82 4 = some (.ifCond .eq 10, 3, (0, 0, 0, 0)) := by decide +kernel
theorem sm_a82_7 : sm_at 82 7 = some (.aload_n 1, 1, (0, 0, 0, 0)) := by decide +kernel
theorem sm_a82_8 : sm_at 82 8 = some (.bipush 14, 2, (0, 0, 0, 0)) := by decide +kernel
theorem sm_a82_10 : sm_at 82 10 = some (.invokevirtual 46, 3, (10, 65, 4, 881)) := by decide +kernel
theorem sm_a82_13 : sm_at 82 13 = some (.return_, 1, (0, 0, 0, 0)) := by decide +kernel
theorem sm_a82_14 : sm_at 82 14 = some (.aload_n 0, 1, (0, 0, 0, 0)) := by decide +kernel
theorem sm_a82_15 : sm_at 82 15 = some (.getfield 43, 3, (5, 5, 0, 549)) := by decide +kernel
theorem sm_a82_18 : sm_at 82 18 = some (.ifCond .ne 21, 3, (0, 0, 0, 0)) := by decide +kernel
theorem sm_a82_21 : sm_at 82 21 = some (.aload_n 0, 1, (0, 0, 0, 0)) := by decide +kernel
theorem sm_a82_22 : sm_at 82 22 = some (.aload_n 0, 1, (0, 0, 0, 0)) := by decide +kernel
theorem sm_a82_23 : sm_at 82 23 = some (.getfield 24, 3, (5, 1, 0, 540)) := by decide +kernel
theorem sm_a82_26 : sm_at 82 26 = some (.aload_n 0, 1, (0, 0, 0, 0)) := by decide +kernel
theorem sm_a82_27 : sm_at 82 27 = some (.getfield 16, 3, (5, 6, 0, 550)) := by decide +kernel
theorem sm_a82_30 : sm_at 82 30 = some (.getfield 73, 3, (1, 2, 1, 118)) := by decide +kernel
theorem sm_a82_33 : sm_at 82 33 = some (.invokestatic 76, 3, (3, 0, 0, 882)) := by decide +kernel
theorem sm_a82_36 : sm_at 82 36 = some (.putfield 43, 3, (5, 5, 0, 549)) := by decide +kernel
theorem sm_a82_39 : sm_at 82 39 = some (.aload_n 0, 1, (0, 0, 0, 0)) := by decide +kernel
theorem sm_a82_40 : sm_at 82 40 = some (.getfield 43, 3, (5, 5, 0, 549)) := by decide +kernel
theorem sm_a82_43 : sm_at 82 43 = some (.ifCond .ne 10, 3, (0, 0, 0, 0)) := by decide +kernel
theorem sm_a82_46 : sm_at 82 46 = some (.aload_n 1, 1, (0, 0, 0, 0)) := by decide +kernel
theorem sm_a82_47 : sm_at 82 47 = some (.bipush 10, 2, (0, 0, 0, 0)) := by decide +kernel
theorem sm_a82_49 : sm_at 82 49 = some (.invokevirtual 46, 3, (10, 65, 4, 881)) := by decide +kernel
theorem sm_a82_52 : sm_at 82 52 = some (.return_, 1, (0, 0, 0, 0)) := by decide +kernel
theorem sm_a82_53 : sm_at 82 53 = some (.aload_n 1, 1, (0, 0, 0, 0)) := by decide +kernel
theorem sm_a82_54 : sm_at 82 54 = some (.aload_n 0, 1, (0, 0, 0, 0)) := by decide +kernel
theorem sm_a82_55 : sm_at 82 55 = some (.getfield 36, 3, (5, 3, 0, 544)) := by decide +kernel
theorem sm_a82_58 : sm_at 82 58 = some (.aload_n 0, 1, (0, 0, 0, 0)) := by decide +kernel
theorem sm_a82_59 : sm_at 82 59 = some (.getfield 20, 3, (5, 0, 0, 538)) := by decide +kernel
theorem sm_a82_62 : sm_at 82 62 = some (.invokevirtual 82, 3, (10, 66, 4, 883)) := by decide +kernel
theorem sm_a82_65 : sm_at 82 65 = some (.iconst 0, 1, (0, 0, 0, 0)) := by decide +kernel
theorem sm_a82_66 : sm_at 82 66 = some (.istore_n 2, 1, (0, 0, 0, 0)) := by decide +kernel
theorem sm_a82_67 : sm_at 82 67 = some (.iload_n 2, 1, (0, 0, 0, 0)) := by decide +kernel
theorem sm_a82_68 : sm_at 82 68 = some (.aload_n 0, 1, (0, 0, 0, 0)) := by decide +kernel
theorem sm_a82_69 : sm_at 82 69 = some (.getfield 43, 3, (5, 5, 0, 549)) := by decide +kernel
theorem sm_a82_72 : sm_at 82 72 = some (.if_icmp .ge 24, 3, (0, 0, 0, 0)) := by decide +kernel
theorem sm_a82_75 : sm_at 82 75 = some (.aload_n 1, 1, (0, 0, 0, 0)) := by decide +kernel
theorem sm_a82_76 : sm_at 82 76 = some (.getfield 86, 3, (4, 12, 1, 277)) := by decide +kernel
theorem sm_a82_79 : sm_at 82 79 = some (.aload_n 0, 1, (0, 0, 0, 0)) := by decide +kernel
theorem sm_a82_80 : sm_at 82 80 = some (.getfield 16, 3, (5, 6, 0, 550)) := by decide +kernel
theorem sm_a82_83 : sm_at 82 83 = some (.iload_n 2, 1, (0, 0, 0, 0)) := by decide +kernel
theorem sm_a82_84 : sm_at 82 84 = some (.invokevirtual 90, 3, (10, 34, 1, 884)) := by decide +kernel
theorem sm_a82_87 : sm_at 82 87 = some (.invokevirtual 91, 3, (10, 106, 7, 885)) := by decide +kernel
theorem sm_a82_90 : sm_at 82 90 = some (.iinc 2 1, 3, (0, 0, 0, 0)) := by decide +kernel
theorem sm_a82_93 : sm_at 82 93 = some (.goto (-26), 3, (0, 0, 0, 0)) := by decide +kernel
theorem sm_a82_96 : sm_at 82 96 = some (.return_, 1, (0, 0, 0, 0)) := by decide +kernel
theorem bb_82_0 {d : Nat} {M : sm_M} {Q : Option sm_V → sm_M → Prop} {a0 : Nat} {r1 : Option Nat} {z2 : Option sm_V}
    (h : sm_K M a0 = 18 ∧ (((sm_I M a0 4) = 0 → ((¬ (sm_I M a0 5) = 0 → sm_Run (d + 1) 82 39 [some (.inr (some a0)), some (.inr r1), z2] [] M Q) ∧ (¬ (¬ (sm_I M a0 5) = 0) → ∃ b_4, sm_R M a0 6 = some b_4 ∧ sm_K M b_4 = 6 ∧ sm_Run (d + 1) 82 39 [some (.inr (some a0)), some (.inr r1), z2] [] (sm_putI M a0 5 (if sm_I M b_4 2 < sm_I M a0 1 then sm_I M b_4 2 else sm_I M a0 1)) Q))) ∧ (¬ ((sm_I M a0 4) = 0) → ∃ b_7, r1 = some b_7 ∧ sm_K M b_7 = 15 ∧ sm_Run d 65 0 (sm_ent 65 [.inr (some b_7), .inl 14]) [] M (fun v M1 => sm_Run (d + 1) 82 13 [some (.inr (some a0)), some (.inr (some b_7)), z2] (v.toList ++ []) M1 Q)))) :
    sm_Run (d + 1) 82 0 [some (.inr (some a0)), some (.inr r1), z2] [] M Q := by
  refine ru_go (t := (1, [some (.inr (some a0)), some (.inr r1), z2], [.inr (some a0)], M)) sm_a82_0 rfl rfl rfl ?_
  obtain ⟨h_1, h⟩ := h
  refine ru_go (t := (4, [some (.inr (some a0)), some (.inr r1), z2], [.inl (sm_I M a0 4)], M)) sm_a82_1 rfl rfl (st_getI h_1 rfl) ?_
  refine ru_if (pc := 4) (p := 14) (p2 := 7) sm_a82_4 (by decide) rfl ⟨fun hc_2 => ?_, fun hc_2 => ?_⟩
  · have h := h.1 hc_2
    refine ru_go (t := (15, [some (.inr (some a0)), some (.inr r1), z2], [.inr (some a0)], M)) sm_a82_14 rfl rfl rfl ?_
    refine ru_go (t := (18, [some (.inr (some a0)), some (.inr r1), z2], [.inl (sm_I M a0 5)], M)) sm_a82_15 rfl rfl (st_getI h_1 rfl) ?_
    refine ru_if (pc := 18) (p := 39) (p2 := 21) sm_a82_18 (by decide) rfl ⟨fun hc_3 => ?_, fun hc_3 => ?_⟩
    · have h := h.1 hc_3
      exact h
    · have h := h.2 hc_3
      refine ru_go (t := (22, [some (.inr (some a0)), some (.inr r1), z2], [.inr (some a0)], M)) sm_a82_21 rfl rfl rfl ?_
      refine ru_go (t := (23, [some (.inr (some a0)), some (.inr r1), z2], [.inr (some a0), .inr (some a0)], M)) sm_a82_22 rfl rfl rfl ?_
      refine ru_go (t := (26, [some (.inr (some a0)), some (.inr r1), z2], [.inl (sm_I M a0 1), .inr (some a0)], M)) sm_a82_23 rfl rfl (st_getI h_1 rfl) ?_
      refine ru_go (t := (27, [some (.inr (some a0)), some (.inr r1), z2], [.inr (some a0), .inl (sm_I M a0 1), .inr (some a0)], M)) sm_a82_26 rfl rfl rfl ?_
      refine ru_go (t := (30, [some (.inr (some a0)), some (.inr r1), z2], [.inr (sm_R M a0 6), .inl (sm_I M a0 1), .inr (some a0)], M)) sm_a82_27 rfl rfl (st_getR h_1 rfl rfl) ?_
      obtain ⟨b_4, hb_5, h⟩ := h
      rw [hb_5]
      obtain ⟨h_6, h⟩ := h
      refine ru_go (t := (33, [some (.inr (some a0)), some (.inr r1), z2], [.inl (sm_I M b_4 2), .inl (sm_I M a0 1), .inr (some a0)], M)) sm_a82_30 rfl rfl (st_getI h_6 rfl) ?_
      refine ru_go (t := (36, [some (.inr (some a0)), some (.inr r1), z2], [.inl (if sm_I M b_4 2 < sm_I M a0 1 then sm_I M b_4 2 else sm_I M a0 1), .inr (some a0)], M)) sm_a82_33 rfl rfl (st_min (Nat.le_of_ble_eq_true rfl)) ?_
      refine ru_go (t := (39, [some (.inr (some a0)), some (.inr r1), z2], [], sm_putI M a0 5 (if sm_I M b_4 2 < sm_I M a0 1 then sm_I M b_4 2 else sm_I M a0 1))) sm_a82_36 rfl rfl (st_putI h_1 rfl) ?_
      exact h
  · have h := h.2 hc_2
    refine ru_go (t := (8, [some (.inr (some a0)), some (.inr r1), z2], [.inr r1], M)) sm_a82_7 rfl rfl rfl ?_
    refine ru_go (t := (10, [some (.inr (some a0)), some (.inr r1), z2], [.inl 14, .inr r1], M)) sm_a82_8 rfl rfl (st_bipush (by decide)) ?_
    obtain ⟨b_7, hb_8, h⟩ := h
    rw [hb_8]
    obtain ⟨h_9, h⟩ := h
    exact ru_call (p := 13) sm_a82_10 rfl (sc_virt (Or.inl rfl) rfl rfl h_9 (Nat.le_of_ble_eq_true rfl)) rfl h
theorem bb_82_13 {d : Nat} {M : sm_M} {Q : Option sm_V → sm_M → Prop} {a0 : Nat} {r1 : Option Nat} {z2 : Option sm_V}
    (h : Q none M) :
    sm_Run (d + 1) 82 13 [some (.inr (some a0)), some (.inr r1), z2] [] M Q := by
  exact ru_ret sm_a82_13 (sm_rvv rfl) h
theorem bb_82_39 {d : Nat} {M : sm_M} {Q : Option sm_V → sm_M → Prop} {a0 : Nat} {r1 : Option Nat} {z2 : Option sm_V}
    (h : sm_K M a0 = 18 ∧ ((¬ (sm_I M a0 5) = 0 → ∃ b_3, r1 = some b_3 ∧ sm_K M b_3 = 15 ∧ sm_Run d 66 0 (sm_ent 66 [.inr (some b_3), .inl (sm_I M a0 3), .inl (sm_I M a0 0)]) [] M (fun v M1 => sm_Run (d + 1) 82 65 [some (.inr (some a0)), some (.inr (some b_3)), z2] (v.toList ++ []) M1 Q)) ∧ (¬ (¬ (sm_I M a0 5) = 0) → ∃ b_6, r1 = some b_6 ∧ sm_K M b_6 = 15 ∧ sm_Run d 65 0 (sm_ent 65 [.inr (some b_6), .inl 10]) [] M (fun v M1 => sm_Run (d + 1) 82 52 [some (.inr (some a0)), some (.inr (some b_6)), z2] (v.toList ++ []) M1 Q)))) :
    sm_Run (d + 1) 82 39 [some (.inr (some a0)), some (.inr r1), z2] [] M Q := by
  refine ru_go (t := (40, [some (.inr (some a0)), some (.inr r1), z2], [.inr (some a0)], M)) sm_a82_39 rfl rfl rfl ?_
  obtain ⟨h_1, h⟩ := h
  refine ru_go (t := (43, [some (.inr (some a0)), some (.inr r1), z2], [.inl (sm_I M a0 5)], M)) sm_a82_40 rfl rfl (st_getI h_1 rfl) ?_
  refine ru_if (pc := 43) (p := 53) (p2 := 46) sm_a82_43 (by decide) rfl ⟨fun hc_2 => ?_, fun hc_2 => ?_⟩
  · have h := h.1 hc_2
    refine ru_go (t := (54, [some (.inr (some a0)), some (.inr r1), z2], [.inr r1], M)) sm_a82_53 rfl rfl rfl ?_
    refine ru_go (t := (55, [some (.inr (some a0)), some (.inr r1), z2], [.inr (some a0), .inr r1], M)) sm_a82_54 rfl rfl rfl ?_
    refine ru_go (t := (58, [some (.inr (some a0)), some (.inr r1), z2], [.inl (sm_I M a0 3), .inr r1], M)) sm_a82_55 rfl rfl (st_getI h_1 rfl) ?_
    refine ru_go (t := (59, [some (.inr (some a0)), some (.inr r1), z2], [.inr (some a0), .inl (sm_I M a0 3), .inr r1], M)) sm_a82_58 rfl rfl rfl ?_
    refine ru_go (t := (62, [some (.inr (some a0)), some (.inr r1), z2], [.inl (sm_I M a0 0), .inl (sm_I M a0 3), .inr r1], M)) sm_a82_59 rfl rfl (st_getI h_1 rfl) ?_
    obtain ⟨b_3, hb_4, h⟩ := h
    rw [hb_4]
    obtain ⟨h_5, h⟩ := h
    exact ru_call (p := 65) sm_a82_62 rfl (sc_virt (Or.inl rfl) rfl rfl h_5 (Nat.le_of_ble_eq_true rfl)) rfl h
  · have h := h.2 hc_2
    refine ru_go (t := (47, [some (.inr (some a0)), some (.inr r1), z2], [.inr r1], M)) sm_a82_46 rfl rfl rfl ?_
    refine ru_go (t := (49, [some (.inr (some a0)), some (.inr r1), z2], [.inl 10, .inr r1], M)) sm_a82_47 rfl rfl (st_bipush (by decide)) ?_
    obtain ⟨b_6, hb_7, h⟩ := h
    rw [hb_7]
    obtain ⟨h_8, h⟩ := h
    exact ru_call (p := 52) sm_a82_49 rfl (sc_virt (Or.inl rfl) rfl rfl h_8 (Nat.le_of_ble_eq_true rfl)) rfl h
theorem bb_82_52 {d : Nat} {M : sm_M} {Q : Option sm_V → sm_M → Prop} {a0 : Nat} {r1 : Option Nat} {z2 : Option sm_V}
    (h : Q none M) :
    sm_Run (d + 1) 82 52 [some (.inr (some a0)), some (.inr r1), z2] [] M Q := by
  exact ru_ret sm_a82_52 (sm_rvv rfl) h
theorem bb_82_65 {d : Nat} {M : sm_M} {Q : Option sm_V → sm_M → Prop} {a0 : Nat} {r1 : Option Nat} {z2 : Option sm_V}
    (h : sm_Run (d + 1) 82 67 [some (.inr (some a0)), some (.inr r1), some (.inl 0)] [] M Q) :
    sm_Run (d + 1) 82 65 [some (.inr (some a0)), some (.inr r1), z2] [] M Q := by
  refine ru_go (t := (66, [some (.inr (some a0)), some (.inr r1), z2], [.inl 0], M)) sm_a82_65 rfl rfl (st_iconst (by decide)) ?_
  refine ru_go (t := (67, [some (.inr (some a0)), some (.inr r1), some (.inl 0)], [], M)) sm_a82_66 rfl rfl rfl ?_
  exact h
theorem bb_82_67 {d : Nat} {M : sm_M} {Q : Option sm_V → sm_M → Prop} {a0 : Nat} {r1 : Option Nat} {x2 : Int32}
    (h : sm_K M a0 = 18 ∧ (((sm_I M a0 5) ≤ x2 → Q none M) ∧ (¬ ((sm_I M a0 5) ≤ x2) → ∃ b_3, r1 = some b_3 ∧ sm_K M b_3 = 15 ∧ ∃ b_6, sm_R M a0 6 = some b_6 ∧ sm_K M b_6 = 6 ∧ sm_Run d 34 0 (sm_ent 34 [.inr (some b_6), .inl x2]) [] M (fun v M1 => sm_Run (d + 1) 82 87 [some (.inr (some a0)), some (.inr (some b_3)), some (.inl x2)] (v.toList ++ [.inr (sm_R M b_3 12)]) M1 Q)))) :
    sm_Run (d + 1) 82 67 [some (.inr (some a0)), some (.inr r1), some (.inl x2)] [] M Q := by
  refine ru_go (t := (68, [some (.inr (some a0)), some (.inr r1), some (.inl x2)], [.inl x2], M)) sm_a82_67 rfl rfl rfl ?_
  refine ru_go (t := (69, [some (.inr (some a0)), some (.inr r1), some (.inl x2)], [.inr (some a0), .inl x2], M)) sm_a82_68 rfl rfl rfl ?_
  obtain ⟨h_1, h⟩ := h
  refine ru_go (t := (72, [some (.inr (some a0)), some (.inr r1), some (.inl x2)], [.inl (sm_I M a0 5), .inl x2], M)) sm_a82_69 rfl rfl (st_getI h_1 rfl) ?_
  refine ru_icmp (pc := 72) (p := 96) (p2 := 75) sm_a82_72 (by decide) rfl ⟨fun hc_2 => ?_, fun hc_2 => ?_⟩
  · have h := h.1 hc_2
    exact ru_ret sm_a82_96 (sm_rvv rfl) h
  · have h := h.2 hc_2
    refine ru_go (t := (76, [some (.inr (some a0)), some (.inr r1), some (.inl x2)], [.inr r1], M)) sm_a82_75 rfl rfl rfl ?_
    obtain ⟨b_3, hb_4, h⟩ := h
    rw [hb_4]
    obtain ⟨h_5, h⟩ := h
    refine ru_go (t := (79, [some (.inr (some a0)), some (.inr (some b_3)), some (.inl x2)], [.inr (sm_R M b_3 12)], M)) sm_a82_76 rfl rfl (st_getR h_5 rfl rfl) ?_
    refine ru_go (t := (80, [some (.inr (some a0)), some (.inr (some b_3)), some (.inl x2)], [.inr (some a0), .inr (sm_R M b_3 12)], M)) sm_a82_79 rfl rfl rfl ?_
    refine ru_go (t := (83, [some (.inr (some a0)), some (.inr (some b_3)), some (.inl x2)], [.inr (sm_R M a0 6), .inr (sm_R M b_3 12)], M)) sm_a82_80 rfl rfl (st_getR h_1 rfl rfl) ?_
    refine ru_go (t := (84, [some (.inr (some a0)), some (.inr (some b_3)), some (.inl x2)], [.inl x2, .inr (sm_R M a0 6), .inr (sm_R M b_3 12)], M)) sm_a82_83 rfl rfl rfl ?_
    obtain ⟨b_6, hb_7, h⟩ := h
    rw [hb_7]
    obtain ⟨h_8, h⟩ := h
    exact ru_call (p := 87) sm_a82_84 rfl (sc_virt (Or.inl rfl) rfl rfl h_8 (Nat.le_of_ble_eq_true rfl)) rfl h
theorem bb_82_87 {d : Nat} {M : sm_M} {Q : Option sm_V → sm_M → Prop} {a0 : Nat} {r1 : Option Nat} {x2 : Int32} {y0 : Int32} {t1 : Option Nat}
    (h : ∃ b_1, t1 = some b_1 ∧ sm_K M b_1 = 24 ∧ sm_Run d 106 0 (sm_ent 106 [.inr (some b_1), .inl y0]) [] M (fun v M1 => sm_Run (d + 1) 82 90 [some (.inr (some a0)), some (.inr r1), some (.inl x2)] (v.toList ++ []) M1 Q)) :
    sm_Run (d + 1) 82 87 [some (.inr (some a0)), some (.inr r1), some (.inl x2)] [.inl y0, .inr t1] M Q := by
  obtain ⟨b_1, hb_2, h⟩ := h
  rw [hb_2]
  obtain ⟨h_3, h⟩ := h
  exact ru_call (p := 90) sm_a82_87 rfl (sc_virt (Or.inl rfl) rfl rfl h_3 (Nat.le_of_ble_eq_true rfl)) rfl h
theorem bb_82_90 {d : Nat} {M : sm_M} {Q : Option sm_V → sm_M → Prop} {a0 : Nat} {r1 : Option Nat} {x2 : Int32}
    (h : sm_Run (d + 1) 82 67 [some (.inr (some a0)), some (.inr r1), some (.inl (x2 + 1))] [] M Q) :
    sm_Run (d + 1) 82 90 [some (.inr (some a0)), some (.inr r1), some (.inl x2)] [] M Q := by
  refine ru_go (t := (93, [some (.inr (some a0)), some (.inr r1), some (.inl (x2 + 1))], [], M)) sm_a82_90 rfl rfl (st_iinc rfl (by decide)) ?_
  refine ru_go (t := (67, [some (.inr (some a0)), some (.inr r1), some (.inl (x2 + 1))], [], M)) sm_a82_93 rfl rfl (st_goto (pc := 93) (by decide)) ?_
  exact h

/-! WireBus$Endpoint.hearAck:()V -/
theorem sm_a83_0 : sm_at 83 0 = some (.aload_n 0, 1, (0, 0, 0, 0)) := by decide +kernel
theorem sm_a83_1 : sm_at 83 1 = some (.getfield 16, 3, (5, 6, 0, 550)) := by decide +kernel
theorem sm_a83_4 : sm_at 83 4 = some (.aload_n 0, 1, (0, 0, 0, 0)) := by decide +kernel
theorem sm_a83_5 : sm_at 83 5 = some (.getfield 43, 3, (5, 5, 0, 549)) := by decide +kernel
theorem sm_a83_8 : sm_at 83 8 = some (.invokevirtual 92, 3, (10, 36, 1, 974)) := by decide +kernel
theorem sm_a83_11 : sm_at 83 11 = some (.aload_n 0, 1, (0, 0, 0, 0)) := by decide +kernel
theorem sm_a83_12 : sm_at 83 12 = some (.iconst 0, 1, (0, 0, 0, 0)) := by decide +kernel
theorem sm_a83_13 : sm_at 83 13 = some (.putfield 43, 3, (5, 5, 0, 549)) := by decide +kernel
theorem sm_a83_16 : sm_at 83 16 = some (.aload_n 0, 1, (0, 0, 0, 0)) := by decide +kernel
theorem sm_a83_17 : sm_at 83 17 = some (.iconst 1, 1, (0, 0, 0, 0)) := by decide +kernel
theorem sm_a83_18 : sm_at 83 18 = some (.aload_n 0, 1, (0, 0, 0, 0)) := by decide +kernel
theorem sm_a83_19 : sm_at 83 19 = some (.getfield 36, 3, (5, 3, 0, 544)) := by decide +kernel
theorem sm_a83_22 : sm_at 83 22 = some (.isub, 1, (0, 0, 0, 0)) := by decide +kernel
theorem sm_a83_23 : sm_at 83 23 = some (.putfield 36, 3, (5, 3, 0, 544)) := by decide +kernel
theorem sm_a83_26 : sm_at 83 26 = some (.return_, 1, (0, 0, 0, 0)) := by decide +kernel
theorem bb_83_0 {d : Nat} {M : sm_M} {Q : Option sm_V → sm_M → Prop} {a0 : Nat}
    (h : sm_K M a0 = 18 ∧ ∃ b_2, sm_R M a0 6 = some b_2 ∧ sm_K M b_2 = 6 ∧ sm_Run d 36 0 (sm_ent 36 [.inr (some b_2), .inl (sm_I M a0 5)]) [] M (fun v M1 => sm_Run (d + 1) 83 11 [some (.inr (some a0))] (v.toList ++ []) M1 Q)) :
    sm_Run (d + 1) 83 0 [some (.inr (some a0))] [] M Q := by
  refine ru_go (t := (1, [some (.inr (some a0))], [.inr (some a0)], M)) sm_a83_0 rfl rfl rfl ?_
  obtain ⟨h_1, h⟩ := h
  refine ru_go (t := (4, [some (.inr (some a0))], [.inr (sm_R M a0 6)], M)) sm_a83_1 rfl rfl (st_getR h_1 rfl rfl) ?_
  refine ru_go (t := (5, [some (.inr (some a0))], [.inr (some a0), .inr (sm_R M a0 6)], M)) sm_a83_4 rfl rfl rfl ?_
  refine ru_go (t := (8, [some (.inr (some a0))], [.inl (sm_I M a0 5), .inr (sm_R M a0 6)], M)) sm_a83_5 rfl rfl (st_getI h_1 rfl) ?_
  obtain ⟨b_2, hb_3, h⟩ := h
  rw [hb_3]
  obtain ⟨h_4, h⟩ := h
  exact ru_call (p := 11) sm_a83_8 rfl (sc_virt (Or.inl rfl) rfl rfl h_4 (Nat.le_of_ble_eq_true rfl)) rfl h
theorem bb_83_11 {d : Nat} {M : sm_M} {Q : Option sm_V → sm_M → Prop} {a0 : Nat}
    (h : sm_K M a0 = 18 ∧ Q none (sm_putI (sm_putI M a0 5 0) a0 3 (1 - (sm_I (sm_putI M a0 5 0) a0 3)))) :
    sm_Run (d + 1) 83 11 [some (.inr (some a0))] [] M Q := by
  refine ru_go (t := (12, [some (.inr (some a0))], [.inr (some a0)], M)) sm_a83_11 rfl rfl rfl ?_
  refine ru_go (t := (13, [some (.inr (some a0))], [.inl 0, .inr (some a0)], M)) sm_a83_12 rfl rfl (st_iconst (by decide)) ?_
  obtain ⟨h_1, h⟩ := h
  refine ru_go (t := (16, [some (.inr (some a0))], [], sm_putI M a0 5 0)) sm_a83_13 rfl rfl (st_putI h_1 rfl) ?_
  refine ru_go (t := (17, [some (.inr (some a0))], [.inr (some a0)], sm_putI M a0 5 0)) sm_a83_16 rfl rfl rfl ?_
  refine ru_go (t := (18, [some (.inr (some a0))], [.inl 1, .inr (some a0)], sm_putI M a0 5 0)) sm_a83_17 rfl rfl (st_iconst (by decide)) ?_
  refine ru_go (t := (19, [some (.inr (some a0))], [.inr (some a0), .inl 1, .inr (some a0)], sm_putI M a0 5 0)) sm_a83_18 rfl rfl rfl ?_
  refine ru_go (t := (22, [some (.inr (some a0))], [.inl (sm_I (sm_putI M a0 5 0) a0 3), .inl 1, .inr (some a0)], sm_putI M a0 5 0)) sm_a83_19 rfl rfl (st_getI h_1 rfl) ?_
  refine ru_go (t := (23, [some (.inr (some a0))], [.inl (1 - (sm_I (sm_putI M a0 5 0) a0 3)), .inr (some a0)], sm_putI M a0 5 0)) sm_a83_22 rfl rfl rfl ?_
  refine ru_go (t := (26, [some (.inr (some a0))], [], sm_putI (sm_putI M a0 5 0) a0 3 (1 - (sm_I (sm_putI M a0 5 0) a0 3)))) sm_a83_23 rfl rfl (st_putI h_1 rfl) ?_
  exact ru_ret sm_a83_26 (sm_rvv rfl) h
