/-! WireBus$Host.<init>:()V -/
theorem sm_a84_0 : sm_at 84 0 = some (.aload_n 0, 1, (0, 0, 0, 0)) := by decide +kernel
theorem sm_a84_1 : sm_at 84 1 = some (.invokespecial 7, 3, (1, 0, 0, 345)) := by decide +kernel
theorem sm_a84_4 : sm_at 84 4 = some (.aload_n 0, 1, (0, 0, 0, 0)) := by decide +kernel
theorem sm_a84_5 : sm_at 84 5 = some (.bipush 6, 2, (0, 0, 0, 0)) := by decide +kernel
theorem sm_a84_7 : sm_at 84 7 = some (.anewarray 13, 3, (8, 0, 0, 346)) := by decide +kernel
theorem sm_a84_10 : sm_at 84 10 = some (.putfield 15, 3, (6, 0, 0, 424)) := by decide +kernel
theorem sm_a84_13 : sm_at 84 13 = some (.aload_n 0, 1, (0, 0, 0, 0)) := by decide +kernel
theorem sm_a84_14 : sm_at 84 14 = some (.sipush 336, 3, (0, 0, 0, 0)) := by decide +kernel
theorem sm_a84_17 : sm_at 84 17 = some (.anewarray 19, 3, (10, 0, 0, 348)) := by decide +kernel
theorem sm_a84_20 : sm_at 84 20 = some (.putfield 21, 3, (6, 1, 0, 426)) := by decide +kernel
theorem sm_a84_23 : sm_at 84 23 = some (.aload_n 0, 1, (0, 0, 0, 0)) := by decide +kernel
theorem sm_a84_24 : sm_at 84 24 = some (.new 25, 3, (9, 0, 0, 350)) := by decide +kernel
theorem sm_a84_27 : sm_at 84 27 = some (.dup, 1, (0, 0, 0, 0)) := by decide +kernel
theorem sm_a84_28 : sm_at 84 28 = some (.iconst 0, 1, (0, 0, 0, 0)) := by decide +kernel
theorem sm_a84_29 : sm_at 84 29 = some (.iconst 0, 1, (0, 0, 0, 0)) := by decide +kernel
theorem sm_a84_30 : sm_at 84 30 = some (.iconst 0, 1, (0, 0, 0, 0)) := by decide +kernel
theorem sm_a84_31 : sm_at 84 31 = some (.iconst 0, 1, (0, 0, 0, 0)) := by decide +kernel
theorem sm_a84_32 : sm_at 84 32 = some (.invokespecial 27, 3, (14, 118, 9, 352)) := by decide +kernel
theorem sm_a84_35 : sm_at 84 35 = some (.putfield 30, 3, (6, 4, 0, 432)) := by decide +kernel
theorem sm_a84_38 : sm_at 84 38 = some (.aload_n 0, 1, (0, 0, 0, 0)) := by decide +kernel
theorem sm_a84_39 : sm_at 84 39 = some (.bipush 35, 2, (0, 0, 0, 0)) := by decide +kernel
theorem sm_a84_41 : sm_at 84 41 = some (.putfield 34, 3, (6, 8, 0, 437)) := by decide +kernel
theorem sm_a84_44 : sm_at 84 44 = some (.iconst 0, 1, (0, 0, 0, 0)) := by decide +kernel
theorem sm_a84_45 : sm_at 84 45 = some (.istore_n 1, 1, (0, 0, 0, 0)) := by decide +kernel
theorem sm_a84_46 : sm_at 84 46 = some (.iload_n 1, 1, (0, 0, 0, 0)) := by decide +kernel
theorem sm_a84_47 : sm_at 84 47 = some (.bipush 6, 2, (0, 0, 0, 0)) := by decide +kernel
theorem sm_a84_49 : sm_at 84 49 = some (.if_icmp .ge 22, 3, (0, 0, 0, 0)) := by decide +kernel
theorem sm_a84_52 : sm_at 84 52 = some (.aload_n 0, 1, (0, 0, 0, 0)) := by decide +kernel
theorem sm_a84_53 : sm_at 84 53 = some (.getfield 15, 3, (6, 0, 0, 424)) := by decide +kernel
theorem sm_a84_56 : sm_at 84 56 = some (.iload_n 1, 1, (0, 0, 0, 0)) := by decide +kernel
theorem sm_a84_57 : sm_at 84 57 = some (.new 13, 3, (8, 0, 0, 346)) := by decide +kernel
theorem sm_a84_60 : sm_at 84 60 = some (.dup, 1, (0, 0, 0, 0)) := by decide +kernel
theorem sm_a84_61 : sm_at 84 61 = some (.invokespecial 38, 3, (15, 111, 8, 392)) := by decide +kernel
theorem sm_a84_64 : sm_at 84 64 = some (.aastore, 1, (0, 0, 0, 0)) := by decide +kernel
theorem sm_a84_65 : sm_at 84 65 = some (.iinc 1 1, 3, (0, 0, 0, 0)) := by decide +kernel
theorem sm_a84_68 : sm_at 84 68 = some (.goto (-22), 3, (0, 0, 0, 0)) := by decide +kernel
theorem sm_a84_71 : sm_at 84 71 = some (.return_, 1, (0, 0, 0, 0)) := by decide +kernel
theorem bb_84_0 {d : Nat} {M : sm_M} {Q : Option sm_V → sm_M → Prop} {a0 : Nat} {z1 : Option sm_V}
    (h : sm_K (sm_new M 28 (6 : Int32).toNatClampNeg (6 : Int32).toNatClampNeg) a0 = 21 ∧ sm_K (sm_new (sm_putR (sm_new M 28 (6 : Int32).toNatClampNeg (6 : Int32).toNatClampNeg) a0 0 (some (sm_N M))) 34 (336 : Int32).toNatClampNeg (336 : Int32).toNatClampNeg) a0 = 21 ∧ sm_Run d 118 0 (sm_ent 118 [.inr (some (sm_N (sm_putR (sm_new (sm_putR (sm_new M 28 (6 : Int32).toNatClampNeg (6 : Int32).toNatClampNeg) a0 0 (some (sm_N M))) 34 (336 : Int32).toNatClampNeg (336 : Int32).toNatClampNeg) a0 1 (some (sm_N (sm_putR (sm_new M 28 (6 : Int32).toNatClampNeg (6 : Int32).toNatClampNeg) a0 0 (some (sm_N M)))))))), .inl 0, .inl 0, .inl 0, .inl 0]) [] (sm_new (sm_putR (sm_new (sm_putR (sm_new M 28 (6 : Int32).toNatClampNeg (6 : Int32).toNatClampNeg) a0 0 (some (sm_N M))) 34 (336 : Int32).toNatClampNeg (336 : Int32).toNatClampNeg) a0 1 (some (sm_N (sm_putR (sm_new M 28 (6 : Int32).toNatClampNeg (6 : Int32).toNatClampNeg) a0 0 (some (sm_N M)))))) 30 0 8) (fun v M1 => sm_Run (d + 1) 84 35 [some (.inr (some a0)), z1] (v.toList ++ [.inr (some (sm_N (sm_putR (sm_new (sm_putR (sm_new M 28 (6 : Int32).toNatClampNeg (6 : Int32).toNatClampNeg) a0 0 (some (sm_N M))) 34 (336 : Int32).toNatClampNeg (336 : Int32).toNatClampNeg) a0 1 (some (sm_N (sm_putR (sm_new M 28 (6 : Int32).toNatClampNeg (6 : Int32).toNatClampNeg) a0 0 (some (sm_N M)))))))), .inr (some a0)]) M1 Q)) :
    sm_Run (d + 1) 84 0 [some (.inr (some a0)), z1] [] M Q := by
  refine ru_go (t := (1, [some (.inr (some a0)), z1], [.inr (some a0)], M)) sm_a84_0 rfl rfl rfl ?_
  refine ru_go (t := (4, [some (.inr (some a0)), z1], [], M)) sm_a84_1 rfl rfl (st_oi (Nat.le_of_ble_eq_true rfl)) ?_
  refine ru_go (t := (5, [some (.inr (some a0)), z1], [.inr (some a0)], M)) sm_a84_4 rfl rfl rfl ?_
  refine ru_go (t := (7, [some (.inr (some a0)), z1], [.inl 6, .inr (some a0)], M)) sm_a84_5 rfl rfl (st_bipush (by decide)) ?_
  refine ru_go (t := (10, [some (.inr (some a0)), z1], [.inr (some (sm_N M)), .inr (some a0)], sm_new M 28 (6 : Int32).toNatClampNeg (6 : Int32).toNatClampNeg)) sm_a84_7 rfl rfl (st_newq (by decide)) ?_
  obtain ⟨h_1, h⟩ := h
  refine ru_go (t := (13, [some (.inr (some a0)), z1], [], sm_putR (sm_new M 28 (6 : Int32).toNatClampNeg (6 : Int32).toNatClampNeg) a0 0 (some (sm_N M)))) sm_a84_10 rfl rfl (st_putR h_1 rfl) ?_
  refine ru_go (t := (14, [some (.inr (some a0)), z1], [.inr (some a0)], sm_putR (sm_new M 28 (6 : Int32).toNatClampNeg (6 : Int32).toNatClampNeg) a0 0 (some (sm_N M)))) sm_a84_13 rfl rfl rfl ?_
  refine ru_go (t := (17, [some (.inr (some a0)), z1], [.inl 336, .inr (some a0)], sm_putR (sm_new M 28 (6 : Int32).toNatClampNeg (6 : Int32).toNatClampNeg) a0 0 (some (sm_N M)))) sm_a84_14 rfl rfl (st_sipush (by decide)) ?_
  refine ru_go (t := (20, [some (.inr (some a0)), z1], [.inr (some (sm_N (sm_putR (sm_new M 28 (6 : Int32).toNatClampNeg (6 : Int32).toNatClampNeg) a0 0 (some (sm_N M))))), .inr (some a0)], sm_new (sm_putR (sm_new M 28 (6 : Int32).toNatClampNeg (6 : Int32).toNatClampNeg) a0 0 (some (sm_N M))) 34 (336 : Int32).toNatClampNeg (336 : Int32).toNatClampNeg)) sm_a84_17 rfl rfl (st_newq (by decide)) ?_
  obtain ⟨h_2, h⟩ := h
  refine ru_go (t := (23, [some (.inr (some a0)), z1], [], sm_putR (sm_new (sm_putR (sm_new M 28 (6 : Int32).toNatClampNeg (6 : Int32).toNatClampNeg) a0 0 (some (sm_N M))) 34 (336 : Int32).toNatClampNeg (336 : Int32).toNatClampNeg) a0 1 (some (sm_N (sm_putR (sm_new M 28 (6 : Int32).toNatClampNeg (6 : Int32).toNatClampNeg) a0 0 (some (sm_N M))))))) sm_a84_20 rfl rfl (st_putR h_2 rfl) ?_
  refine ru_go (t := (24, [some (.inr (some a0)), z1], [.inr (some a0)], sm_putR (sm_new (sm_putR (sm_new M 28 (6 : Int32).toNatClampNeg (6 : Int32).toNatClampNeg) a0 0 (some (sm_N M))) 34 (336 : Int32).toNatClampNeg (336 : Int32).toNatClampNeg) a0 1 (some (sm_N (sm_putR (sm_new M 28 (6 : Int32).toNatClampNeg (6 : Int32).toNatClampNeg) a0 0 (some (sm_N M))))))) sm_a84_23 rfl rfl rfl ?_
  refine ru_go (t := (27, [some (.inr (some a0)), z1], [.inr (some (sm_N (sm_putR (sm_new (sm_putR (sm_new M 28 (6 : Int32).toNatClampNeg (6 : Int32).toNatClampNeg) a0 0 (some (sm_N M))) 34 (336 : Int32).toNatClampNeg (336 : Int32).toNatClampNeg) a0 1 (some (sm_N (sm_putR (sm_new M 28 (6 : Int32).toNatClampNeg (6 : Int32).toNatClampNeg) a0 0 (some (sm_N M)))))))), .inr (some a0)], sm_new (sm_putR (sm_new (sm_putR (sm_new M 28 (6 : Int32).toNatClampNeg (6 : Int32).toNatClampNeg) a0 0 (some (sm_N M))) 34 (336 : Int32).toNatClampNeg (336 : Int32).toNatClampNeg) a0 1 (some (sm_N (sm_putR (sm_new M 28 (6 : Int32).toNatClampNeg (6 : Int32).toNatClampNeg) a0 0 (some (sm_N M)))))) 30 0 8)) sm_a84_24 rfl rfl rfl ?_
  refine ru_go (t := (28, [some (.inr (some a0)), z1], [.inr (some (sm_N (sm_putR (sm_new (sm_putR (sm_new M 28 (6 : Int32).toNatClampNeg (6 : Int32).toNatClampNeg) a0 0 (some (sm_N M))) 34 (336 : Int32).toNatClampNeg (336 : Int32).toNatClampNeg) a0 1 (some (sm_N (sm_putR (sm_new M 28 (6 : Int32).toNatClampNeg (6 : Int32).toNatClampNeg) a0 0 (some (sm_N M)))))))), .inr (some (sm_N (sm_putR (sm_new (sm_putR (sm_new M 28 (6 : Int32).toNatClampNeg (6 : Int32).toNatClampNeg) a0 0 (some (sm_N M))) 34 (336 : Int32).toNatClampNeg (336 : Int32).toNatClampNeg) a0 1 (some (sm_N (sm_putR (sm_new M 28 (6 : Int32).toNatClampNeg (6 : Int32).toNatClampNeg) a0 0 (some (sm_N M)))))))), .inr (some a0)], sm_new (sm_putR (sm_new (sm_putR (sm_new M 28 (6 : Int32).toNatClampNeg (6 : Int32).toNatClampNeg) a0 0 (some (sm_N M))) 34 (336 : Int32).toNatClampNeg (336 : Int32).toNatClampNeg) a0 1 (some (sm_N (sm_putR (sm_new M 28 (6 : Int32).toNatClampNeg (6 : Int32).toNatClampNeg) a0 0 (some (sm_N M)))))) 30 0 8)) sm_a84_27 rfl rfl rfl ?_
  refine ru_go (t := (29, [some (.inr (some a0)), z1], [.inl 0, .inr (some (sm_N (sm_putR (sm_new (sm_putR (sm_new M 28 (6 : Int32).toNatClampNeg (6 : Int32).toNatClampNeg) a0 0 (some (sm_N M))) 34 (336 : Int32).toNatClampNeg (336 : Int32).toNatClampNeg) a0 1 (some (sm_N (sm_putR (sm_new M 28 (6 : Int32).toNatClampNeg (6 : Int32).toNatClampNeg) a0 0 (some (sm_N M)))))))), .inr (some (sm_N (sm_putR (sm_new (sm_putR (sm_new M 28 (6 : Int32).toNatClampNeg (6 : Int32).toNatClampNeg) a0 0 (some (sm_N M))) 34 (336 : Int32).toNatClampNeg (336 : Int32).toNatClampNeg) a0 1 (some (sm_N (sm_putR (sm_new M 28 (6 : Int32).toNatClampNeg (6 : Int32).toNatClampNeg) a0 0 (some (sm_N M)))))))), .inr (some a0)], sm_new (sm_putR (sm_new (sm_putR (sm_new M 28 (6 : Int32).toNatClampNeg (6 : Int32).toNatClampNeg) a0 0 (some (sm_N M))) 34 (336 : Int32).toNatClampNeg (336 : Int32).toNatClampNeg) a0 1 (some (sm_N (sm_putR (sm_new M 28 (6 : Int32).toNatClampNeg (6 : Int32).toNatClampNeg) a0 0 (some (sm_N M)))))) 30 0 8)) sm_a84_28 rfl rfl (st_iconst (by decide)) ?_
  refine ru_go (t := (30, [some (.inr (some a0)), z1], [.inl 0, .inl 0, .inr (some (sm_N (sm_putR (sm_new (sm_putR (sm_new M 28 (6 : Int32).toNatClampNeg (6 : Int32).toNatClampNeg) a0 0 (some (sm_N M))) 34 (336 : Int32).toNatClampNeg (336 : Int32).toNatClampNeg) a0 1 (some (sm_N (sm_putR (sm_new M 28 (6 : Int32).toNatClampNeg (6 : Int32).toNatClampNeg) a0 0 (some (sm_N M)))))))), .inr (some (sm_N (sm_putR (sm_new (sm_putR (sm_new M 28 (6 : Int32).toNatClampNeg (6 : Int32).toNatClampNeg) a0 0 (some (sm_N M))) 34 (336 : Int32).toNatClampNeg (336 : Int32).toNatClampNeg) a0 1 (some (sm_N (sm_putR (sm_new M 28 (6 : Int32).toNatClampNeg (6 : Int32).toNatClampNeg) a0 0 (some (sm_N M)))))))), .inr (some a0)], sm_new (sm_putR (sm_new (sm_putR (sm_new M 28 (6 : Int32).toNatClampNeg (6 : Int32).toNatClampNeg) a0 0 (some (sm_N M))) 34 (336 : Int32).toNatClampNeg (336 : Int32).toNatClampNeg) a0 1 (some (sm_N (sm_putR (sm_new M 28 (6 : Int32).toNatClampNeg (6 : Int32).toNatClampNeg) a0 0 (some (sm_N M)))))) 30 0 8)) sm_a84_29 rfl rfl (st_iconst (by decide)) ?_
  refine ru_go (t := (31, [some (.inr (some a0)), z1], [.inl 0, .inl 0, .inl 0, .inr (some (sm_N (sm_putR (sm_new (sm_putR (sm_new M 28 (6 : Int32).toNatClampNeg (6 : Int32).toNatClampNeg) a0 0 (some (sm_N M))) 34 (336 : Int32).toNatClampNeg (336 : Int32).toNatClampNeg) a0 1 (some (sm_N (sm_putR (sm_new M 28 (6 : Int32).toNatClampNeg (6 : Int32).toNatClampNeg) a0 0 (some (sm_N M)))))))), .inr (some (sm_N (sm_putR (sm_new (sm_putR (sm_new M 28 (6 : Int32).toNatClampNeg (6 : Int32).toNatClampNeg) a0 0 (some (sm_N M))) 34 (336 : Int32).toNatClampNeg (336 : Int32).toNatClampNeg) a0 1 (some (sm_N (sm_putR (sm_new M 28 (6 : Int32).toNatClampNeg (6 : Int32).toNatClampNeg) a0 0 (some (sm_N M)))))))), .inr (some a0)], sm_new (sm_putR (sm_new (sm_putR (sm_new M 28 (6 : Int32).toNatClampNeg (6 : Int32).toNatClampNeg) a0 0 (some (sm_N M))) 34 (336 : Int32).toNatClampNeg (336 : Int32).toNatClampNeg) a0 1 (some (sm_N (sm_putR (sm_new M 28 (6 : Int32).toNatClampNeg (6 : Int32).toNatClampNeg) a0 0 (some (sm_N M)))))) 30 0 8)) sm_a84_30 rfl rfl (st_iconst (by decide)) ?_
  refine ru_go (t := (32, [some (.inr (some a0)), z1], [.inl 0, .inl 0, .inl 0, .inl 0, .inr (some (sm_N (sm_putR (sm_new (sm_putR (sm_new M 28 (6 : Int32).toNatClampNeg (6 : Int32).toNatClampNeg) a0 0 (some (sm_N M))) 34 (336 : Int32).toNatClampNeg (336 : Int32).toNatClampNeg) a0 1 (some (sm_N (sm_putR (sm_new M 28 (6 : Int32).toNatClampNeg (6 : Int32).toNatClampNeg) a0 0 (some (sm_N M)))))))), .inr (some (sm_N (sm_putR (sm_new (sm_putR (sm_new M 28 (6 : Int32).toNatClampNeg (6 : Int32).toNatClampNeg) a0 0 (some (sm_N M))) 34 (336 : Int32).toNatClampNeg (336 : Int32).toNatClampNeg) a0 1 (some (sm_N (sm_putR (sm_new M 28 (6 : Int32).toNatClampNeg (6 : Int32).toNatClampNeg) a0 0 (some (sm_N M)))))))), .inr (some a0)], sm_new (sm_putR (sm_new (sm_putR (sm_new M 28 (6 : Int32).toNatClampNeg (6 : Int32).toNatClampNeg) a0 0 (some (sm_N M))) 34 (336 : Int32).toNatClampNeg (336 : Int32).toNatClampNeg) a0 1 (some (sm_N (sm_putR (sm_new M 28 (6 : Int32).toNatClampNeg (6 : Int32).toNatClampNeg) a0 0 (some (sm_N M)))))) 30 0 8)) sm_a84_31 rfl rfl (st_iconst (by decide)) ?_
  exact ru_call (p := 35) sm_a84_32 rfl (sc_spec (Or.inl rfl) rfl rfl (Nat.le_of_ble_eq_true rfl)) rfl h
theorem bb_84_35 {d : Nat} {M : sm_M} {Q : Option sm_V → sm_M → Prop} {a0 : Nat} {z1 : Option sm_V} {t0 : Option Nat} {b1 : Nat}
    (h : sm_K M b1 = 21 ∧ sm_K M a0 = 21 ∧ sm_Run (d + 1) 84 46 [some (.inr (some a0)), some (.inl 0)] [] (sm_putI (sm_putR M b1 4 t0) a0 8 35) Q) :
    sm_Run (d + 1) 84 35 [some (.inr (some a0)), z1] [.inr t0, .inr (some b1)] M Q := by
  obtain ⟨h_1, h⟩ := h
  refine ru_go (t := (38, [some (.inr (some a0)), z1], [], sm_putR M b1 4 t0)) sm_a84_35 rfl rfl (st_putR h_1 rfl) ?_
  refine ru_go (t := (39, [some (.inr (some a0)), z1], [.inr (some a0)], sm_putR M b1 4 t0)) sm_a84_38 rfl rfl rfl ?_
  refine ru_go (t := (41, [some (.inr (some a0)), z1], [.inl 35, .inr (some a0)], sm_putR M b1 4 t0)) sm_a84_39 rfl rfl (st_bipush (by decide)) ?_
  obtain ⟨h_2, h⟩ := h
  refine ru_go (t := (44, [some (.inr (some a0)), z1], [], sm_putI (sm_putR M b1 4 t0) a0 8 35)) sm_a84_41 rfl rfl (st_putI h_2 rfl) ?_
  refine ru_go (t := (45, [some (.inr (some a0)), z1], [.inl 0], sm_putI (sm_putR M b1 4 t0) a0 8 35)) sm_a84_44 rfl rfl (st_iconst (by decide)) ?_
  refine ru_go (t := (46, [some (.inr (some a0)), some (.inl 0)], [], sm_putI (sm_putR M b1 4 t0) a0 8 35)) sm_a84_45 rfl rfl rfl ?_
  exact h
theorem bb_84_46 {d : Nat} {M : sm_M} {Q : Option sm_V → sm_M → Prop} {a0 : Nat} {x1 : Int32}
    (h : ((6 ≤ x1 → Q none M) ∧ (¬ (6 ≤ x1) → sm_K M a0 = 21 ∧ sm_Run d 111 0 (sm_ent 111 [.inr (some (sm_N M))]) [] (sm_new M 27 0 6) (fun v M1 => sm_Run (d + 1) 84 64 [some (.inr (some a0)), some (.inl x1)] (v.toList ++ [.inr (some (sm_N M)), .inl x1, .inr (sm_R M a0 0)]) M1 Q)))) :
    sm_Run (d + 1) 84 46 [some (.inr (some a0)), some (.inl x1)] [] M Q := by
  refine ru_go (t := (47, [some (.inr (some a0)), some (.inl x1)], [.inl x1], M)) sm_a84_46 rfl rfl rfl ?_
  refine ru_go (t := (49, [some (.inr (some a0)), some (.inl x1)], [.inl 6, .inl x1], M)) sm_a84_47 rfl rfl (st_bipush (by decide)) ?_
  refine ru_icmp (pc := 49) (p := 71) (p2 := 52) sm_a84_49 (by decide) rfl ⟨fun hc_1 => ?_, fun hc_1 => ?_⟩
  · have h := h.1 hc_1
    exact ru_ret sm_a84_71 (sm_rvv rfl) h
  · have h := h.2 hc_1
    refine ru_go (t := (53, [some (.inr (some a0)), some (.inl x1)], [.inr (some a0)], M)) sm_a84_52 rfl rfl rfl ?_
    obtain ⟨h_2, h⟩ := h
    refine ru_go (t := (56, [some (.inr (some a0)), some (.inl x1)], [.inr (sm_R M a0 0)], M)) sm_a84_53 rfl rfl (st_getR h_2 rfl rfl) ?_
    refine ru_go (t := (57, [some (.inr (some a0)), some (.inl x1)], [.inl x1, .inr (sm_R M a0 0)], M)) sm_a84_56 rfl rfl rfl ?_
    refine ru_go (t := (60, [some (.inr (some a0)), some (.inl x1)], [.inr (some (sm_N M)), .inl x1, .inr (sm_R M a0 0)], sm_new M 27 0 6)) sm_a84_57 rfl rfl rfl ?_
    refine ru_go (t := (61, [some (.inr (some a0)), some (.inl x1)], [.inr (some (sm_N M)), .inr (some (sm_N M)), .inl x1, .inr (sm_R M a0 0)], sm_new M 27 0 6)) sm_a84_60 rfl rfl rfl ?_
    exact ru_call (p := 64) sm_a84_61 rfl (sc_spec (Or.inr rfl) rfl rfl (Nat.le_of_ble_eq_true rfl)) rfl h
theorem bb_84_64 {d : Nat} {M : sm_M} {Q : Option sm_V → sm_M → Prop} {a0 : Nat} {x1 : Int32} {t0 : Option Nat} {y1 : Int32} {t2 : Option Nat}
    (h : ∃ b_1, t2 = some b_1 ∧ (∃ ci, sm_K M b_1 = 4 + 3 * ci ∧ sm_grp (4 + 3 * ci) = 0 ∧ ∀ q, t0 = some q → sm_K M q = 3 + 3 * ci) ∧ sm_in_ M b_1 y1 ∧ sm_Run (d + 1) 84 46 [some (.inr (some a0)), some (.inl (x1 + 1))] [] (sm_putR M b_1 (y1).toNatClampNeg t0) Q) :
    sm_Run (d + 1) 84 64 [some (.inr (some a0)), some (.inl x1)] [.inr t0, .inl y1, .inr t2] M Q := by
  obtain ⟨b_1, hb_2, h⟩ := h
  rw [hb_2]
  obtain ⟨⟨ci_4, h_3, h_5, h_6⟩, h⟩ := h
  obtain ⟨h_7, h⟩ := h
  refine ru_go (t := (65, [some (.inr (some a0)), some (.inl x1)], [], sm_putR M b_1 (y1).toNatClampNeg t0)) sm_a84_64 rfl rfl (st_aast h_3 h_5 h_7 h_6) ?_
  refine ru_go (t := (68, [some (.inr (some a0)), some (.inl (x1 + 1))], [], sm_putR M b_1 (y1).toNatClampNeg t0)) sm_a84_65 rfl rfl (st_iinc rfl (by decide)) ?_
  refine ru_go (t := (46, [some (.inr (some a0)), some (.inl (x1 + 1))], [], sm_putR M b_1 (y1).toNatClampNeg t0)) sm_a84_68 rfl rfl (st_goto (pc := 68) (by decide)) ?_
  exact h

/-! WireBus$Host.mayFind:()Z -/
theorem sm_a85_0 : sm_at 85 0 = some (.aload_n 0, 1, (0, 0, 0, 0)) := by decide +kernel
theorem sm_a85_1 : sm_at 85 1 = some (.getfield 39, 3, (6, 2, 0, 428)) := by decide +kernel
theorem sm_a85_4 : sm_at 85 4 = some (.sipush 290, 3, (0, 0, 0, 0)) := by decide +kernel
theorem sm_a85_7 : sm_at 85 7 = some (.if_icmp .ge 7, 3, (0, 0, 0, 0)) := by decide +kernel
theorem sm_a85_10 : sm_at 85 10 = some (.iconst 1, 1, (0, 0, 0, 0)) := by decide +kernel
theorem sm_a85_11 : sm_at 85 11 = some (.goto 4, 3, (0, 0, 0, 0)) := by decide +kernel
theorem sm_a85_14 : sm_at 85 14 = some (.iconst 0, 1, (0, 0, 0, 0)) := by decide +kernel
theorem sm_a85_15 : sm_at 85 15 = some (.ireturn, 1, (0, 0, 0, 0)) := by decide +kernel
theorem bb_85_0 {d : Nat} {M : sm_M} {Q : Option sm_V → sm_M → Prop} {a0 : Nat}
    (h : sm_K M a0 = 21 ∧ ((290 ≤ (sm_I M a0 2) → Q (some (.inl 0)) M) ∧ (¬ (290 ≤ (sm_I M a0 2)) → Q (some (.inl 1)) M))) :
    sm_Run d 85 0 [some (.inr (some a0))] [] M Q := by
  refine ru_go (t := (1, [some (.inr (some a0))], [.inr (some a0)], M)) sm_a85_0 rfl rfl rfl ?_
  obtain ⟨h_1, h⟩ := h
  refine ru_go (t := (4, [some (.inr (some a0))], [.inl (sm_I M a0 2)], M)) sm_a85_1 rfl rfl (st_getI h_1 rfl) ?_
  refine ru_go (t := (7, [some (.inr (some a0))], [.inl 290, .inl (sm_I M a0 2)], M)) sm_a85_4 rfl rfl (st_sipush (by decide)) ?_
  refine ru_icmp (pc := 7) (p := 14) (p2 := 10) sm_a85_7 (by decide) rfl ⟨fun hc_2 => ?_, fun hc_2 => ?_⟩
  · have h := h.1 hc_2
    refine ru_go (t := (15, [some (.inr (some a0))], [.inl 0], M)) sm_a85_14 rfl rfl (st_iconst (by decide)) ?_
    exact ru_ret sm_a85_15 (sm_rvz rfl (by decide)) h
  · have h := h.2 hc_2
    refine ru_go (t := (11, [some (.inr (some a0))], [.inl 1], M)) sm_a85_10 rfl rfl (st_iconst (by decide)) ?_
    refine ru_go (t := (15, [some (.inr (some a0))], [.inl 1], M)) sm_a85_11 rfl rfl (st_goto (pc := 11) (by decide)) ?_
    exact ru_ret sm_a85_15 (sm_rvz rfl (by decide)) h

/-! WireBus$Host.keep:(LWireBus$Transfer;)LWireBus$Transfer; -/
theorem sm_a86_0 : sm_at 86 0 = some (.aload_n 0, 1, (0, 0, 0, 0)) := by decide +kernel
theorem sm_a86_1 : sm_at 86 1 = some (.getfield 39, 3, (6, 2, 0, 428)) := by decide +kernel
theorem sm_a86_4 : sm_at 86 4 = some (.sipush 336, 3, (0, 0, 0, 0)) := by decide +kernel
theorem sm_a86_7 : sm_at 86 7 = some (.if_icmp .lt 5, 3, (0, 0, 0, 0)) := by decide +kernel
theorem sm_a86_10 : sm_at 86 10 = some (.aconst_null, 1, (0, 0, 0, 0)) := by decide +kernel
theorem sm_a86_11 : sm_at 86 11 = some (.areturn, 1, (0, 0, 0, 0)) := by decide +kernel
theorem sm_a86_12 : sm_at 86 12 = some (.aload_n 0, 1, (0, 0, 0, 0)) := by decide +kernel
theorem sm_a86_13 : sm_at 86 13 = some (.getfield 21, 3, (6, 1, 0, 426)) := by decide +kernel
theorem sm_a86_16 : sm_at 86 16 = some (.aload_n 0, 1, (0, 0, 0, 0)) := by decide +kernel
theorem sm_a86_17 : sm_at 86 17 = some (.getfield 39, 3, (6, 2, 0, 428)) := by decide +kernel
theorem sm_a86_20 : sm_at 86 20 = some (.aload_n 1, 1, (0, 0, 0, 0)) := by decide +kernel
theorem sm_a86_21 : sm_at 86 21 = some (.aastore, 1, (0, 0, 0, 0)) := by decide +kernel
theorem sm_a86_22 : sm_at 86 22 = some (.aload_n 0, 1, (0, 0, 0, 0)) := by decide +kernel
theorem sm_a86_23 : sm_at 86 23 = some (.dup, 1, (0, 0, 0, 0)) := by decide +kernel
theorem sm_a86_24 : sm_at 86 24 = some (.getfield 39, 3, (6, 2, 0, 428)) := by decide +kernel
theorem sm_a86_27 : sm_at 86 27 = some (.iconst 1, 1, (0, 0, 0, 0)) := by decide +kernel
theorem sm_a86_28 : sm_at 86 28 = some (.iadd, 1, (0, 0, 0, 0)) := by decide +kernel
theorem sm_a86_29 : sm_at 86 29 = some (.putfield 39, 3, (6, 2, 0, 428)) := by decide +kernel
theorem sm_a86_32 : sm_at 86 32 = some (.aload_n 0, 1, (0, 0, 0, 0)) := by decide +kernel
theorem sm_a86_33 : sm_at 86 33 = some (.dup, 1, (0, 0, 0, 0)) := by decide +kernel
theorem sm_a86_34 : sm_at 86 34 = some (.getfield 42, 3, (6, 3, 0, 430)) := by decide +kernel
theorem sm_a86_37 : sm_at 86 37 = some (.iconst 1, 1, (0, 0, 0, 0)) := by decide +kernel
theorem sm_a86_38 : sm_at 86 38 = some (.iadd, 1, (0, 0, 0, 0)) := by decide +kernel
theorem sm_a86_39 : sm_at 86 39 = some (.putfield 42, 3, (6, 3, 0, 430)) := by decide +kernel
theorem sm_a86_42 : sm_at 86 42 = some (.aload_n 1, 1, (0, 0, 0, 0)) := by decide +kernel
theorem sm_a86_43 : sm_at 86 43 = some (.areturn, 1, (0, 0, 0, 0)) := by decide +kernel
theorem bb_86_0 {d : Nat} {M : sm_M} {Q : Option sm_V → sm_M → Prop} {a0 : Nat} {r1 : Option Nat}
    (h : sm_K M a0 = 21 ∧ (((sm_I M a0 2) < 336 → ∃ b_3, sm_R M a0 1 = some b_3 ∧ (∃ ci, sm_K M b_3 = 4 + 3 * ci ∧ sm_grp (4 + 3 * ci) = 0 ∧ ∀ q, r1 = some q → sm_K M q = 3 + 3 * ci) ∧ sm_in_ M b_3 (sm_I M a0 2) ∧ Q (some (.inr r1)) (sm_putI (sm_putI (sm_putR M b_3 (sm_I M a0 2).toNatClampNeg r1) a0 2 ((sm_I (sm_putR M b_3 (sm_I M a0 2).toNatClampNeg r1) a0 2) + 1)) a0 3 ((sm_I (sm_putI (sm_putR M b_3 (sm_I M a0 2).toNatClampNeg r1) a0 2 ((sm_I (sm_putR M b_3 (sm_I M a0 2).toNatClampNeg r1) a0 2) + 1)) a0 3) + 1))) ∧ (¬ ((sm_I M a0 2) < 336) → Q (some (.inr none)) M))) :
    sm_Run d 86 0 [some (.inr (some a0)), some (.inr r1)] [] M Q := by
  refine ru_go (t := (1, [some (.inr (some a0)), some (.inr r1)], [.inr (some a0)], M)) sm_a86_0 rfl rfl rfl ?_
  obtain ⟨h_1, h⟩ := h
  refine ru_go (t := (4, [some (.inr (some a0)), some (.inr r1)], [.inl (sm_I M a0 2)], M)) sm_a86_1 rfl rfl (st_getI h_1 rfl) ?_
  refine ru_go (t := (7, [some (.inr (some a0)), some (.inr r1)], [.inl 336, .inl (sm_I M a0 2)], M)) sm_a86_4 rfl rfl (st_sipush (by decide)) ?_
  refine ru_icmp (pc := 7) (p := 12) (p2 := 10) sm_a86_7 (by decide) rfl ⟨fun hc_2 => ?_, fun hc_2 => ?_⟩
  · have h := h.1 hc_2
    refine ru_go (t := (13, [some (.inr (some a0)), some (.inr r1)], [.inr (some a0)], M)) sm_a86_12 rfl rfl rfl ?_
    refine ru_go (t := (16, [some (.inr (some a0)), some (.inr r1)], [.inr (sm_R M a0 1)], M)) sm_a86_13 rfl rfl (st_getR h_1 rfl rfl) ?_
    refine ru_go (t := (17, [some (.inr (some a0)), some (.inr r1)], [.inr (some a0), .inr (sm_R M a0 1)], M)) sm_a86_16 rfl rfl rfl ?_
    refine ru_go (t := (20, [some (.inr (some a0)), some (.inr r1)], [.inl (sm_I M a0 2), .inr (sm_R M a0 1)], M)) sm_a86_17 rfl rfl (st_getI h_1 rfl) ?_
    refine ru_go (t := (21, [some (.inr (some a0)), some (.inr r1)], [.inr r1, .inl (sm_I M a0 2), .inr (sm_R M a0 1)], M)) sm_a86_20 rfl rfl rfl ?_
    obtain ⟨b_3, hb_4, h⟩ := h
    rw [hb_4]
    obtain ⟨⟨ci_6, h_5, h_7, h_8⟩, h⟩ := h
    obtain ⟨h_9, h⟩ := h
    refine ru_go (t := (22, [some (.inr (some a0)), some (.inr r1)], [], sm_putR M b_3 (sm_I M a0 2).toNatClampNeg r1)) sm_a86_21 rfl rfl (st_aast h_5 h_7 h_9 h_8) ?_
    refine ru_go (t := (23, [some (.inr (some a0)), some (.inr r1)], [.inr (some a0)], sm_putR M b_3 (sm_I M a0 2).toNatClampNeg r1)) sm_a86_22 rfl rfl rfl ?_
    refine ru_go (t := (24, [some (.inr (some a0)), some (.inr r1)], [.inr (some a0), .inr (some a0)], sm_putR M b_3 (sm_I M a0 2).toNatClampNeg r1)) sm_a86_23 rfl rfl rfl ?_
    refine ru_go (t := (27, [some (.inr (some a0)), some (.inr r1)], [.inl (sm_I (sm_putR M b_3 (sm_I M a0 2).toNatClampNeg r1) a0 2), .inr (some a0)], sm_putR M b_3 (sm_I M a0 2).toNatClampNeg r1)) sm_a86_24 rfl rfl (st_getI h_1 rfl) ?_
    refine ru_go (t := (28, [some (.inr (some a0)), some (.inr r1)], [.inl 1, .inl (sm_I (sm_putR M b_3 (sm_I M a0 2).toNatClampNeg r1) a0 2), .inr (some a0)], sm_putR M b_3 (sm_I M a0 2).toNatClampNeg r1)) sm_a86_27 rfl rfl (st_iconst (by decide)) ?_
    refine ru_go (t := (29, [some (.inr (some a0)), some (.inr r1)], [.inl ((sm_I (sm_putR M b_3 (sm_I M a0 2).toNatClampNeg r1) a0 2) + 1), .inr (some a0)], sm_putR M b_3 (sm_I M a0 2).toNatClampNeg r1)) sm_a86_28 rfl rfl rfl ?_
    refine ru_go (t := (32, [some (.inr (some a0)), some (.inr r1)], [], sm_putI (sm_putR M b_3 (sm_I M a0 2).toNatClampNeg r1) a0 2 ((sm_I (sm_putR M b_3 (sm_I M a0 2).toNatClampNeg r1) a0 2) + 1))) sm_a86_29 rfl rfl (st_putI h_1 rfl) ?_
    refine ru_go (t := (33, [some (.inr (some a0)), some (.inr r1)], [.inr (some a0)], sm_putI (sm_putR M b_3 (sm_I M a0 2).toNatClampNeg r1) a0 2 ((sm_I (sm_putR M b_3 (sm_I M a0 2).toNatClampNeg r1) a0 2) + 1))) sm_a86_32 rfl rfl rfl ?_
    refine ru_go (t := (34, [some (.inr (some a0)), some (.inr r1)], [.inr (some a0), .inr (some a0)], sm_putI (sm_putR M b_3 (sm_I M a0 2).toNatClampNeg r1) a0 2 ((sm_I (sm_putR M b_3 (sm_I M a0 2).toNatClampNeg r1) a0 2) + 1))) sm_a86_33 rfl rfl rfl ?_
    refine ru_go (t := (37, [some (.inr (some a0)), some (.inr r1)], [.inl (sm_I (sm_putI (sm_putR M b_3 (sm_I M a0 2).toNatClampNeg r1) a0 2 ((sm_I (sm_putR M b_3 (sm_I M a0 2).toNatClampNeg r1) a0 2) + 1)) a0 3), .inr (some a0)], sm_putI (sm_putR M b_3 (sm_I M a0 2).toNatClampNeg r1) a0 2 ((sm_I (sm_putR M b_3 (sm_I M a0 2).toNatClampNeg r1) a0 2) + 1))) sm_a86_34 rfl rfl (st_getI h_1 rfl) ?_
    refine ru_go (t := (38, [some (.inr (some a0)), some (.inr r1)], [.inl 1, .inl (sm_I (sm_putI (sm_putR M b_3 (sm_I M a0 2).toNatClampNeg r1) a0 2 ((sm_I (sm_putR M b_3 (sm_I M a0 2).toNatClampNeg r1) a0 2) + 1)) a0 3), .inr (some a0)], sm_putI (sm_putR M b_3 (sm_I M a0 2).toNatClampNeg r1) a0 2 ((sm_I (sm_putR M b_3 (sm_I M a0 2).toNatClampNeg r1) a0 2) + 1))) sm_a86_37 rfl rfl (st_iconst (by decide)) ?_
    refine ru_go (t := (39, [some (.inr (some a0)), some (.inr r1)], [.inl ((sm_I (sm_putI (sm_putR M b_3 (sm_I M a0 2).toNatClampNeg r1) a0 2 ((sm_I (sm_putR M b_3 (sm_I M a0 2).toNatClampNeg r1) a0 2) + 1)) a0 3) + 1), .inr (some a0)], sm_putI (sm_putR M b_3 (sm_I M a0 2).toNatClampNeg r1) a0 2 ((sm_I (sm_putR M b_3 (sm_I M a0 2).toNatClampNeg r1) a0 2) + 1))) sm_a86_38 rfl rfl rfl ?_
    refine ru_go (t := (42, [some (.inr (some a0)), some (.inr r1)], [], sm_putI (sm_putI (sm_putR M b_3 (sm_I M a0 2).toNatClampNeg r1) a0 2 ((sm_I (sm_putR M b_3 (sm_I M a0 2).toNatClampNeg r1) a0 2) + 1)) a0 3 ((sm_I (sm_putI (sm_putR M b_3 (sm_I M a0 2).toNatClampNeg r1) a0 2 ((sm_I (sm_putR M b_3 (sm_I M a0 2).toNatClampNeg r1) a0 2) + 1)) a0 3) + 1))) sm_a86_39 rfl rfl (st_putI h_1 rfl) ?_
    refine ru_go (t := (43, [some (.inr (some a0)), some (.inr r1)], [.inr r1], sm_putI (sm_putI (sm_putR M b_3 (sm_I M a0 2).toNatClampNeg r1) a0 2 ((sm_I (sm_putR M b_3 (sm_I M a0 2).toNatClampNeg r1) a0 2) + 1)) a0 3 ((sm_I (sm_putI (sm_putR M b_3 (sm_I M a0 2).toNatClampNeg r1) a0 2 ((sm_I (sm_putR M b_3 (sm_I M a0 2).toNatClampNeg r1) a0 2) + 1)) a0 3) + 1))) sm_a86_42 rfl rfl rfl ?_
    exact ru_ret sm_a86_43 rfl h
  · have h := h.2 hc_2
    refine ru_go (t := (11, [some (.inr (some a0)), some (.inr r1)], [.inr none], M)) sm_a86_10 rfl rfl rfl ?_
    exact ru_ret sm_a86_11 rfl h

/-! WireBus$Host.makeForPipe:(III)LWireBus$Transfer; -/
theorem sm_a87_0 : sm_at 87 0 = some (.iload_n 1, 1, (0, 0, 0, 0)) := by decide +kernel
theorem sm_a87_1 : sm_at 87 1 = some (.invokestatic 45, 3, (13, 21, 0, 705)) := by decide +kernel
theorem sm_a87_4 : sm_at 87 4 = some (.ifCond .eq 19, 3, (0, 0, 0, 0)) := by decide +kernel
theorem sm_a87_7 : sm_at 87 7 = some (.iload_n 3, 1, (0, 0, 0, 0)) := by decide +kernel
theorem sm_a87_8 : sm_at 87 8 = some (.bipush 100, 2, (0, 0, 0, 0)) := by decide +kernel
theorem sm_a87_10 : sm_at 87 10 = some (.if_icmp .gt 13, 3, (0, 0, 0, 0)) := by decide +kernel
theorem sm_a87_13 : sm_at 87 13 = some (.aload_n 0, 1, (0, 0, 0, 0)) := by decide +kernel
theorem sm_a87_14 : sm_at 87 14 = some (.getfield 39, 3, (6, 2, 0, 428)) := by decide +kernel
theorem sm_a87_17 : sm_at 87 17 = some (.sipush 300, 3, (0, 0, 0, 0)) := by decide +kernel
theorem sm_a87_20 : sm_at 87 20 = some (.if_icmp .lt 5, 3, (0, 0, 0, 0)) := by decide +kernel
theorem sm_a87_23 : sm_at 87 23 = some (.aconst_null, 1, (0, 0, 0, 0)) := by decide +kernel
theorem sm_a87_24 : sm_at 87 24 = some (.areturn, 1, (0, 0, 0, 0)) := by decide +kernel
theorem sm_a87_25 : sm_at 87 25 = some (.aload_n 0, 1, (0, 0, 0, 0)) := by decide +kernel
theorem sm_a87_26 : sm_at 87 26 = some (.getfield 15, 3, (6, 0, 0, 424)) := by decide +kernel
theorem sm_a87_29 : sm_at 87 29 = some (.iload_n 1, 1, (0, 0, 0, 0)) := by decide +kernel
theorem sm_a87_30 : sm_at 87 30 = some (.aaload, 1, (0, 0, 0, 0)) := by decide +kernel
theorem sm_a87_31 : sm_at 87 31 = some (.iload_n 2, 1, (0, 0, 0, 0)) := by decide +kernel
theorem sm_a87_32 : sm_at 87 32 = some (.invokevirtual 49, 3, (10, 114, 8, 706)) := by decide +kernel
theorem sm_a87_35 : sm_at 87 35 = some (.astore 4, 2, (0, 0, 0, 0)) := by decide +kernel
theorem sm_a87_37 : sm_at 87 37 = some (.aload 4, 2, (0, 0, 0, 0)) := by decide +kernel
theorem sm_a87_39 : sm_at 87 39 = some (.ifnull 11, 3, (0, 0, 0, 0)) := by decide +kernel
theorem sm_a87_42 : sm_at 87 42 = some (.aload 4, 2, (0, 0, 0, 0)) := by decide +kernel
theorem sm_a87_44 : sm_at 87 44 = some (.getfield 53, 3, (9, 4, 1, 366)) := by decide +kernel
theorem sm_a87_47 : sm_at 87 47 = some (.ifCond .ne 5, 3, (0, 0, 0, 0)) := by decide +kernel
theorem sm_a87_50 : sm_at 87 50 = some (.aconst_null, 1, (0, 0, 0, 0)) := by decide +kernel
theorem sm_a87_51 : sm_at 87 51 = some (.areturn, 1, (0, 0, 0, 0)) := by decide +kernel
theorem sm_a87_52 : sm_at 87 52 = some (.aload_n 0, 1, (0, 0, 0, 0)) := by decide +kernel
theorem sm_a87_53 : sm_at 87 53 = some (.new 19, 3, (10, 0, 0, 348)) := by decide +kernel
theorem sm_a87_56 : sm_at 87 56 = some (.dup, 1, (0, 0, 0, 0)) := by decide +kernel
theorem sm_a87_57 : sm_at 87 57 = some (.iload_n 1, 1, (0, 0, 0, 0)) := by decide +kernel
theorem sm_a87_58 : sm_at 87 58 = some (.aload 4, 2, (0, 0, 0, 0)) := by decide +kernel
theorem sm_a87_60 : sm_at 87 60 = some (.aload 4, 2, (0, 0, 0, 0)) := by decide +kernel
theorem sm_a87_62 : sm_at 87 62 = some (.getfield 57, 3, (9, 2, 1, 363)) := by decide +kernel
theorem sm_a87_65 : sm_at 87 65 = some (.iload_n 2, 1, (0, 0, 0, 0)) := by decide +kernel
theorem sm_a87_66 : sm_at 87 66 = some (.sipush 128, 3, (0, 0, 0, 0)) := by decide +kernel
theorem sm_a87_69 : sm_at 87 69 = some (.if_icmp .lt 7, 3, (0, 0, 0, 0)) := by decide +kernel
theorem sm_a87_72 : sm_at 87 72 = some (.iconst 1, 1, (0, 0, 0, 0)) := by decide +kernel
theorem sm_a87_73 : sm_at 87 73 = some (.goto 4, 3, (0, 0, 0, 0)) := by decide +kernel
theorem sm_a87_76 : sm_at 87 76 = some (.iconst 0, 1, (0, 0, 0, 0)) := by decide +kernel
theorem sm_a87_77 : sm_at 87 77 = some (.iload_n 3, 1, (0, 0, 0, 0)) := by decide +kernel
theorem sm_a87_78 : sm_at 87 78 = some (.invokespecial 60, 3, (14, 121, 10, 617)) := by decide +kernel
theorem sm_a87_81 : sm_at 87 81 = some (.invokevirtual 63, 3, (10, 86, 6, 681)) := by decide +kernel
theorem sm_a87_84 : sm_at 87 84 = some (.areturn, 1, (0, 0, 0, 0)) := by decide +kernel
theorem bb_87_0 {d : Nat} {M : sm_M} {Q : Option sm_V → sm_M → Prop} {a0 : Nat} {x1 : Int32} {x2 : Int32} {x3 : Int32} {z4 : Option sm_V}
    (h : sm_Run d 21 0 (sm_ent 21 [.inl x1]) [] M (fun v M1 => sm_Run (d + 1) 87 4 [some (.inr (some a0)), some (.inl x1), some (.inl x2), some (.inl x3), z4] (v.toList ++ []) M1 Q)) :
    sm_Run (d + 1) 87 0 [some (.inr (some a0)), some (.inl x1), some (.inl x2), some (.inl x3), z4] [] M Q := by
  refine ru_go (t := (1, [some (.inr (some a0)), some (.inl x1), some (.inl x2), some (.inl x3), z4], [.inl x1], M)) sm_a87_0 rfl rfl rfl ?_
  exact ru_call (p := 4) sm_a87_1 rfl (sc_stat (Or.inr rfl) (Nat.le_of_ble_eq_true rfl) rfl rfl (Nat.le_of_ble_eq_true rfl)) rfl h
theorem bb_87_4 {d : Nat} {M : sm_M} {Q : Option sm_V → sm_M → Prop} {a0 : Nat} {x1 : Int32} {x2 : Int32} {x3 : Int32} {z4 : Option sm_V} {y0 : Int32}
    (h : ((y0 = 0 → Q (some (.inr none)) M) ∧ (¬ (y0 = 0) → ((100 < x3 → Q (some (.inr none)) M) ∧ (¬ (100 < x3) → sm_K M a0 = 21 ∧ (((sm_I M a0 2) < 300 → ∃ b_5, sm_R M a0 0 = some b_5 ∧ (∃ ci, sm_K M b_5 = 4 + 3 * ci) ∧ sm_in_ M b_5 x1 ∧ ∃ b_9, sm_R M b_5 (x1).toNatClampNeg = some b_9 ∧ sm_K M b_9 = 27 ∧ sm_Run d 114 0 (sm_ent 114 [.inr (some b_9), .inl x2]) [] M (fun v M1 => sm_Run (d + 1) 87 35 [some (.inr (some a0)), some (.inl x1), some (.inl x2), some (.inl x3), z4] (v.toList ++ []) M1 Q)) ∧ (¬ ((sm_I M a0 2) < 300) → Q (some (.inr none)) M))))))) :
    sm_Run (d + 1) 87 4 [some (.inr (some a0)), some (.inl x1), some (.inl x2), some (.inl x3), z4] [.inl y0] M Q := by
  refine ru_if (pc := 4) (p := 23) (p2 := 7) sm_a87_4 (by decide) rfl ⟨fun hc_1 => ?_, fun hc_1 => ?_⟩
  · have h := h.1 hc_1
    refine ru_go (t := (24, [some (.inr (some a0)), some (.inl x1), some (.inl x2), some (.inl x3), z4], [.inr none], M)) sm_a87_23 rfl rfl rfl ?_
    exact ru_ret sm_a87_24 rfl h
  · have h := h.2 hc_1
    refine ru_go (t := (8, [some (.inr (some a0)), some (.inl x1), some (.inl x2), some (.inl x3), z4], [.inl x3], M)) sm_a87_7 rfl rfl rfl ?_
    refine ru_go (t := (10, [some (.inr (some a0)), some (.inl x1), some (.inl x2), some (.inl x3), z4], [.inl 100, .inl x3], M)) sm_a87_8 rfl rfl (st_bipush (by decide)) ?_
    refine ru_icmp (pc := 10) (p := 23) (p2 := 13) sm_a87_10 (by decide) rfl ⟨fun hc_2 => ?_, fun hc_2 => ?_⟩
    · have h := h.1 hc_2
      refine ru_go (t := (24, [some (.inr (some a0)), some (.inl x1), some (.inl x2), some (.inl x3), z4], [.inr none], M)) sm_a87_23 rfl rfl rfl ?_
      exact ru_ret sm_a87_24 rfl h
    · have h := h.2 hc_2
      refine ru_go (t := (14, [some (.inr (some a0)), some (.inl x1), some (.inl x2), some (.inl x3), z4], [.inr (some a0)], M)) sm_a87_13 rfl rfl rfl ?_
      obtain ⟨h_3, h⟩ := h
      refine ru_go (t := (17, [some (.inr (some a0)), some (.inl x1), some (.inl x2), some (.inl x3), z4], [.inl (sm_I M a0 2)], M)) sm_a87_14 rfl rfl (st_getI h_3 rfl) ?_
      refine ru_go (t := (20, [some (.inr (some a0)), some (.inl x1), some (.inl x2), some (.inl x3), z4], [.inl 300, .inl (sm_I M a0 2)], M)) sm_a87_17 rfl rfl (st_sipush (by decide)) ?_
      refine ru_icmp (pc := 20) (p := 25) (p2 := 23) sm_a87_20 (by decide) rfl ⟨fun hc_4 => ?_, fun hc_4 => ?_⟩
      · have h := h.1 hc_4
        refine ru_go (t := (26, [some (.inr (some a0)), some (.inl x1), some (.inl x2), some (.inl x3), z4], [.inr (some a0)], M)) sm_a87_25 rfl rfl rfl ?_
        refine ru_go (t := (29, [some (.inr (some a0)), some (.inl x1), some (.inl x2), some (.inl x3), z4], [.inr (sm_R M a0 0)], M)) sm_a87_26 rfl rfl (st_getR h_3 rfl rfl) ?_
        refine ru_go (t := (30, [some (.inr (some a0)), some (.inl x1), some (.inl x2), some (.inl x3), z4], [.inl x1, .inr (sm_R M a0 0)], M)) sm_a87_29 rfl rfl rfl ?_
        obtain ⟨b_5, hb_6, h⟩ := h
        rw [hb_6]
        obtain ⟨h_7, h⟩ := h
        obtain ⟨h_8, h⟩ := h
        refine ru_go (t := (31, [some (.inr (some a0)), some (.inl x1), some (.inl x2), some (.inl x3), z4], [.inr (sm_R M b_5 (x1).toNatClampNeg)], M)) sm_a87_30 rfl rfl (st_aald h_7.choose_spec h_8 rfl) ?_
        refine ru_go (t := (32, [some (.inr (some a0)), some (.inl x1), some (.inl x2), some (.inl x3), z4], [.inl x2, .inr (sm_R M b_5 (x1).toNatClampNeg)], M)) sm_a87_31 rfl rfl rfl ?_
        obtain ⟨b_9, hb_10, h⟩ := h
        rw [hb_10]
        obtain ⟨h_11, h⟩ := h
        exact ru_call (p := 35) sm_a87_32 rfl (sc_virt (Or.inl rfl) rfl rfl h_11 (Nat.le_of_ble_eq_true rfl)) rfl h
      · have h := h.2 hc_4
        refine ru_go (t := (24, [some (.inr (some a0)), some (.inl x1), some (.inl x2), some (.inl x3), z4], [.inr none], M)) sm_a87_23 rfl rfl rfl ?_
        exact ru_ret sm_a87_24 rfl h
theorem bb_87_35 {d : Nat} {M : sm_M} {Q : Option sm_V → sm_M → Prop} {a0 : Nat} {x1 : Int32} {x2 : Int32} {x3 : Int32} {z4 : Option sm_V} {t0 : Option Nat}
    (h : ((t0 = none → Q (some (.inr none)) M) ∧ (∀ b_1, t0 = some b_1 → sm_K M b_1 = 30 ∧ ((¬ (sm_I M b_1 4) = 0 → sm_K (sm_new M 33 0 13) b_1 = 30 ∧ ((x2 < 128 → sm_Run d 121 0 (sm_ent 121 [.inr (some (sm_N M)), .inl x1, .inr (some b_1), .inl (sm_I (sm_new M 33 0 13) b_1 2), .inl 0, .inl x3]) [] (sm_new M 33 0 13) (fun v M1 => sm_Run (d + 1) 87 81 [some (.inr (some a0)), some (.inl x1), some (.inl x2), some (.inl x3), some (.inr (some b_1))] (v.toList ++ [.inr (some (sm_N M)), .inr (some a0)]) M1 Q)) ∧ (¬ (x2 < 128) → sm_Run d 121 0 (sm_ent 121 [.inr (some (sm_N M)), .inl x1, .inr (some b_1), .inl (sm_I (sm_new M 33 0 13) b_1 2), .inl 1, .inl x3]) [] (sm_new M 33 0 13) (fun v M1 => sm_Run (d + 1) 87 81 [some (.inr (some a0)), some (.inl x1), some (.inl x2), some (.inl x3), some (.inr (some b_1))] (v.toList ++ [.inr (some (sm_N M)), .inr (some a0)]) M1 Q)))) ∧ (¬ (¬ (sm_I M b_1 4) = 0) → Q (some (.inr none)) M))))) :
    sm_Run (d + 1) 87 35 [some (.inr (some a0)), some (.inl x1), some (.inl x2), some (.inl x3), z4] [.inr t0] M Q := by
  refine ru_go (t := (37, [some (.inr (some a0)), some (.inl x1), some (.inl x2), some (.inl x3), some (.inr t0)], [], M)) sm_a87_35 rfl rfl rfl ?_
  refine ru_go (t := (39, [some (.inr (some a0)), some (.inl x1), some (.inl x2), some (.inl x3), some (.inr t0)], [.inr t0], M)) sm_a87_37 rfl rfl rfl ?_
  refine ru_ifnull (pc := 39) (p := 50) (p2 := 42) sm_a87_39 (by decide) rfl ⟨fun hc => ?_, fun b_1 hc => ?_⟩
  · have h := h.1 hc
    try rw [hc]
    refine ru_go (t := (51, [some (.inr (some a0)), some (.inl x1), some (.inl x2), some (.inl x3), some (.inr none)], [.inr none], M)) sm_a87_50 rfl rfl rfl ?_
    exact ru_ret sm_a87_51 rfl h
  · have h := h.2 b_1 hc
    try rw [hc]
    refine ru_go (t := (44, [some (.inr (some a0)), some (.inl x1), some (.inl x2), some (.inl x3), some (.inr (some b_1))], [.inr (some b_1)], M)) sm_a87_42 rfl rfl rfl ?_
    obtain ⟨h_3, h⟩ := h
    refine ru_go (t := (47, [some (.inr (some a0)), some (.inl x1), some (.inl x2), some (.inl x3), some (.inr (some b_1))], [.inl (sm_I M b_1 4)], M)) sm_a87_44 rfl rfl (st_getI h_3 rfl) ?_
    refine ru_if (pc := 47) (p := 52) (p2 := 50) sm_a87_47 (by decide) rfl ⟨fun hc_4 => ?_, fun hc_4 => ?_⟩
    · have h := h.1 hc_4
      refine ru_go (t := (53, [some (.inr (some a0)), some (.inl x1), some (.inl x2), some (.inl x3), some (.inr (some b_1))], [.inr (some a0)], M)) sm_a87_52 rfl rfl rfl ?_
      refine ru_go (t := (56, [some (.inr (some a0)), some (.inl x1), some (.inl x2), some (.inl x3), some (.inr (some b_1))], [.inr (some (sm_N M)), .inr (some a0)], sm_new M 33 0 13)) sm_a87_53 rfl rfl rfl ?_
      refine ru_go (t := (57, [some (.inr (some a0)), some (.inl x1), some (.inl x2), some (.inl x3), some (.inr (some b_1))], [.inr (some (sm_N M)), .inr (some (sm_N M)), .inr (some a0)], sm_new M 33 0 13)) sm_a87_56 rfl rfl rfl ?_
      refine ru_go (t := (58, [some (.inr (some a0)), some (.inl x1), some (.inl x2), some (.inl x3), some (.inr (some b_1))], [.inl x1, .inr (some (sm_N M)), .inr (some (sm_N M)), .inr (some a0)], sm_new M 33 0 13)) sm_a87_57 rfl rfl rfl ?_
      refine ru_go (t := (60, [some (.inr (some a0)), some (.inl x1), some (.inl x2), some (.inl x3), some (.inr (some b_1))], [.inr (some b_1), .inl x1, .inr (some (sm_N M)), .inr (some (sm_N M)), .inr (some a0)], sm_new M 33 0 13)) sm_a87_58 rfl rfl rfl ?_
      refine ru_go (t := (62, [some (.inr (some a0)), some (.inl x1), some (.inl x2), some (.inl x3), some (.inr (some b_1))], [.inr (some b_1), .inr (some b_1), .inl x1, .inr (some (sm_N M)), .inr (some (sm_N M)), .inr (some a0)], sm_new M 33 0 13)) sm_a87_60 rfl rfl rfl ?_
      obtain ⟨h_5, h⟩ := h
      refine ru_go (t := (65, [some (.inr (some a0)), some (.inl x1), some (.inl x2), some (.inl x3), some (.inr (some b_1))], [.inl (sm_I (sm_new M 33 0 13) b_1 2), .inr (some b_1), .inl x1, .inr (some (sm_N M)), .inr (some (sm_N M)), .inr (some a0)], sm_new M 33 0 13)) sm_a87_62 rfl rfl (st_getI h_5 rfl) ?_
      refine ru_go (t := (66, [some (.inr (some a0)), some (.inl x1), some (.inl x2), some (.inl x3), some (.inr (some b_1))], [.inl x2, .inl (sm_I (sm_new M 33 0 13) b_1 2), .inr (some b_1), .inl x1, .inr (some (sm_N M)), .inr (some (sm_N M)), .inr (some a0)], sm_new M 33 0 13)) sm_a87_65 rfl rfl rfl ?_
      refine ru_go (t := (69, [some (.inr (some a0)), some (.inl x1), some (.inl x2), some (.inl x3), some (.inr (some b_1))], [.inl 128, .inl x2, .inl (sm_I (sm_new M 33 0 13) b_1 2), .inr (some b_1), .inl x1, .inr (some (sm_N M)), .inr (some (sm_N M)), .inr (some a0)], sm_new M 33 0 13)) sm_a87_66 rfl rfl (st_sipush (by decide)) ?_
      refine ru_icmp (pc := 69) (p := 76) (p2 := 72) sm_a87_69 (by decide) rfl ⟨fun hc_6 => ?_, fun hc_6 => ?_⟩
      · have h := h.1 hc_6
        refine ru_go (t := (77, [some (.inr (some a0)), some (.inl x1), some (.inl x2), some (.inl x3), some (.inr (some b_1))], [.inl 0, .inl (sm_I (sm_new M 33 0 13) b_1 2), .inr (some b_1), .inl x1, .inr (some (sm_N M)), .inr (some (sm_N M)), .inr (some a0)], sm_new M 33 0 13)) sm_a87_76 rfl rfl (st_iconst (by decide)) ?_
        refine ru_go (t := (78, [some (.inr (some a0)), some (.inl x1), some (.inl x2), some (.inl x3), some (.inr (some b_1))], [.inl x3, .inl 0, .inl (sm_I (sm_new M 33 0 13) b_1 2), .inr (some b_1), .inl x1, .inr (some (sm_N M)), .inr (some (sm_N M)), .inr (some a0)], sm_new M 33 0 13)) sm_a87_77 rfl rfl rfl ?_
        exact ru_call (p := 81) sm_a87_78 rfl (sc_spec (Or.inl rfl) rfl rfl (Nat.le_of_ble_eq_true rfl)) rfl h
      · have h := h.2 hc_6
        refine ru_go (t := (73, [some (.inr (some a0)), some (.inl x1), some (.inl x2), some (.inl x3), some (.inr (some b_1))], [.inl 1, .inl (sm_I (sm_new M 33 0 13) b_1 2), .inr (some b_1), .inl x1, .inr (some (sm_N M)), .inr (some (sm_N M)), .inr (some a0)], sm_new M 33 0 13)) sm_a87_72 rfl rfl (st_iconst (by decide)) ?_
        refine ru_go (t := (77, [some (.inr (some a0)), some (.inl x1), some (.inl x2), some (.inl x3), some (.inr (some b_1))], [.inl 1, .inl (sm_I (sm_new M 33 0 13) b_1 2), .inr (some b_1), .inl x1, .inr (some (sm_N M)), .inr (some (sm_N M)), .inr (some a0)], sm_new M 33 0 13)) sm_a87_73 rfl rfl (st_goto (pc := 73) (by decide)) ?_
        refine ru_go (t := (78, [some (.inr (some a0)), some (.inl x1), some (.inl x2), some (.inl x3), some (.inr (some b_1))], [.inl x3, .inl 1, .inl (sm_I (sm_new M 33 0 13) b_1 2), .inr (some b_1), .inl x1, .inr (some (sm_N M)), .inr (some (sm_N M)), .inr (some a0)], sm_new M 33 0 13)) sm_a87_77 rfl rfl rfl ?_
        exact ru_call (p := 81) sm_a87_78 rfl (sc_spec (Or.inl rfl) rfl rfl (Nat.le_of_ble_eq_true rfl)) rfl h
    · have h := h.2 hc_4
      refine ru_go (t := (51, [some (.inr (some a0)), some (.inl x1), some (.inl x2), some (.inl x3), some (.inr (some b_1))], [.inr none], M)) sm_a87_50 rfl rfl rfl ?_
      exact ru_ret sm_a87_51 rfl h
theorem bb_87_81 {d : Nat} {M : sm_M} {Q : Option sm_V → sm_M → Prop} {a0 : Nat} {x1 : Int32} {x2 : Int32} {x3 : Int32} {r4 : Option Nat} {t0 : Option Nat} {b1 : Nat}
    (h : sm_K M b1 = 21 ∧ sm_Run d 86 0 (sm_ent 86 [.inr (some b1), .inr t0]) [] M (fun v M1 => sm_Run (d + 1) 87 84 [some (.inr (some a0)), some (.inl x1), some (.inl x2), some (.inl x3), some (.inr r4)] (v.toList ++ []) M1 Q)) :
    sm_Run (d + 1) 87 81 [some (.inr (some a0)), some (.inl x1), some (.inl x2), some (.inl x3), some (.inr r4)] [.inr t0, .inr (some b1)] M Q := by
  obtain ⟨h_1, h⟩ := h
  exact ru_call (p := 84) sm_a87_81 rfl (sc_virt (Or.inl rfl) rfl rfl h_1 (Nat.le_of_ble_eq_true rfl)) rfl h
theorem bb_87_84 {d : Nat} {M : sm_M} {Q : Option sm_V → sm_M → Prop} {a0 : Nat} {x1 : Int32} {x2 : Int32} {x3 : Int32} {r4 : Option Nat} {t0 : Option Nat}
    (h : Q (some (.inr t0)) M) :
    sm_Run (d + 1) 87 84 [some (.inr (some a0)), some (.inl x1), some (.inl x2), some (.inl x3), some (.inr r4)] [.inr t0] M Q := by
  exact ru_ret sm_a87_84 rfl h

/-! WireBus$Host.makeControl:(IIIII)LWireBus$Transfer; -/
theorem sm_a88_0 : sm_at 88 0 = some (.iload_n 1, 1, (0, 0, 0, 0)) := by decide +kernel
theorem sm_a88_1 : sm_at 88 1 = some (.invokestatic 45, 3, (13, 21, 0, 705)) := by decide +kernel
theorem sm_a88_4 : sm_at 88 4 = some (.ifCond .eq 25, 3, (0, 0, 0, 0)) := by decide +kernel
theorem sm_a88_7 : sm_at 88 7 = some (.iload 5, 2, (0, 0, 0, 0)) := by decide +kernel
theorem sm_a88_9 : sm_at 88 9 = some (.ifCond .lt 20, 3, (0, 0, 0, 0)) := by decide +kernel
theorem sm_a88_12 : sm_at 88 12 = some (.iload 5, 2, (0, 0, 0, 0)) := by decide +kernel
theorem sm_a88_14 : sm_at 88 14 = some (.bipush 100, 2, (0, 0, 0, 0)) := by decide +kernel
theorem sm_a88_16 : sm_at 88 16 = some (.if_icmp .gt 13, 3, (0, 0, 0, 0)) := by decide +kernel
theorem sm_a88_19 : sm_at 88 19 = some (.aload_n 0, 1, (0, 0, 0, 0)) := by decide +kernel
theorem sm_a88_20 : sm_at 88 20 = some (.getfield 39, 3, (6, 2, 0, 428)) := by decide +kernel
theorem sm_a88_23 : sm_at 88 23 = some (.sipush 300, 3, (0, 0, 0, 0)) := by decide +kernel
theorem sm_a88_26 : sm_at 88 26 = some (.if_icmp .lt 5, 3, (0, 0, 0, 0)) := by decide +kernel
theorem sm_a88_29 : sm_at 88 29 = some (.aconst_null, 1, (0, 0, 0, 0)) := by decide +kernel
theorem sm_a88_30 : sm_at 88 30 = some (.areturn, 1, (0, 0, 0, 0)) := by decide +kernel
theorem sm_a88_31 : sm_at 88 31 = some (.aload_n 0, 1, (0, 0, 0, 0)) := by decide +kernel
theorem sm_a88_32 : sm_at 88 32 = some (.getfield 15, 3, (6, 0, 0, 424)) := by decide +kernel
theorem sm_a88_35 : sm_at 88 35 = some (.iload_n 1, 1, (0, 0, 0, 0)) := by decide +kernel
theorem sm_a88_36 : sm_at 88 36 = some (.aaload, 1, (0, 0, 0, 0)) := by decide +kernel
theorem sm_a88_37 : sm_at 88 37 = some (.invokevirtual 67, 3, (10, 113, 8, 740)) := by decide +kernel
theorem sm_a88_40 : sm_at 88 40 = some (.ifCond .eq 8, 3, (0, 0, 0, 0)) := by decide +kernel
theorem sm_a88_43 : sm_at 88 43 = some (.iload_n 2, 1, (0, 0, 0, 0)) := by decide +kernel
theorem sm_a88_44 : sm_at 88 44 = some (.iconst 5, 1, (0, 0, 0, 0)) := by decide +kernel
theorem sm_a88_45 : sm_at 88 45 = some (.if_icmp .ne 5, 3, (0, 0, 0, 0)) := by decide +kernel
theorem sm_a88_48 : sm_at 88 48 = some (.aconst_null, 1, (0, 0, 0, 0)) := by decide +kernel
theorem sm_a88_49 : sm_at 88 49 = some (.areturn, 1, (0, 0, 0, 0)) := by decide +kernel
theorem sm_a88_50 : sm_at 88 50 = some (.aload_n 0, 1, (0, 0, 0, 0)) := by decide +kernel
theorem sm_a88_51 : sm_at 88 51 = some (.iload_n 1, 1, (0, 0, 0, 0)) := by decide +kernel
theorem sm_a88_52 : sm_at 88 52 = some (.iload_n 2, 1, (0, 0, 0, 0)) := by decide +kernel
theorem sm_a88_53 : sm_at 88 53 = some (.iload_n 3, 1, (0, 0, 0, 0)) := by decide +kernel
theorem sm_a88_54 : sm_at 88 54 = some (.iload 4, 2, (0, 0, 0, 0)) := by decide +kernel
theorem sm_a88_56 : sm_at 88 56 = some (.iload 5, 2, (0, 0, 0, 0)) := by decide +kernel
theorem sm_a88_58 : sm_at 88 58 = some (.invokevirtual 71, 3, (10, 89, 6, 611)) := by decide +kernel
theorem sm_a88_61 : sm_at 88 61 = some (.areturn, 1, (0, 0, 0, 0)) := by decide +kernel
theorem bb_88_0 {d : Nat} {M : sm_M} {Q : Option sm_V → sm_M → Prop} {a0 : Nat} {x1 : Int32} {x2 : Int32} {x3 : Int32} {x4 : Int32} {x5 : Int32}
    (h : sm_Run d 21 0 (sm_ent 21 [.inl x1]) [] M (fun v M1 => sm_Run (d + 1) 88 4 [some (.inr (some a0)), some (.inl x1), some (.inl x2), some (.inl x3), some (.inl x4), some (.inl x5)] (v.toList ++ []) M1 Q)) :
    sm_Run (d + 1) 88 0 [some (.inr (some a0)), some (.inl x1), some (.inl x2), some (.inl x3), some (.inl x4), some (.inl x5)] [] M Q := by
  refine ru_go (t := (1, [some (.inr (some a0)), some (.inl x1), some (.inl x2), some (.inl x3), some (.inl x4), some (.inl x5)], [.inl x1], M)) sm_a88_0 rfl rfl rfl ?_
  exact ru_call (p := 4) sm_a88_1 rfl (sc_stat (Or.inr rfl) (Nat.le_of_ble_eq_true rfl) rfl rfl (Nat.le_of_ble_eq_true rfl)) rfl h
theorem bb_88_4 {d : Nat} {M : sm_M} {Q : Option sm_V → sm_M → Prop} {a0 : Nat} {x1 : Int32} {x2 : Int32} {x3 : Int32} {x4 : Int32} {x5 : Int32} {y0 : Int32}
    (h : ((y0 = 0 → Q (some (.inr none)) M) ∧ (¬ (y0 = 0) → ((x5 < 0 → Q (some (.inr none)) M) ∧ (¬ (x5 < 0) → ((100 < x5 → Q (some (.inr none)) M) ∧ (¬ (100 < x5) → sm_K M a0 = 21 ∧ (((sm_I M a0 2) < 300 → ∃ b_6, sm_R M a0 0 = some b_6 ∧ (∃ ci, sm_K M b_6 = 4 + 3 * ci) ∧ sm_in_ M b_6 x1 ∧ ∃ b_10, sm_R M b_6 (x1).toNatClampNeg = some b_10 ∧ sm_K M b_10 = 27 ∧ sm_Run d 113 0 (sm_ent 113 [.inr (some b_10)]) [] M (fun v M1 => sm_Run (d + 1) 88 40 [some (.inr (some a0)), some (.inl x1), some (.inl x2), some (.inl x3), some (.inl x4), some (.inl x5)] (v.toList ++ []) M1 Q)) ∧ (¬ ((sm_I M a0 2) < 300) → Q (some (.inr none)) M))))))))) :
    sm_Run (d + 1) 88 4 [some (.inr (some a0)), some (.inl x1), some (.inl x2), some (.inl x3), some (.inl x4), some (.inl x5)] [.inl y0] M Q := by
  refine ru_if (pc := 4) (p := 29) (p2 := 7) sm_a88_4 (by decide) rfl ⟨fun hc_1 => ?_, fun hc_1 => ?_⟩
  · have h := h.1 hc_1
    refine ru_go (t := (30, [some (.inr (some a0)), some (.inl x1), some (.inl x2), some (.inl x3), some (.inl x4), some (.inl x5)], [.inr none], M)) sm_a88_29 rfl rfl rfl ?_
    exact ru_ret sm_a88_30 rfl h
  · have h := h.2 hc_1
    refine ru_go (t := (9, [some (.inr (some a0)), some (.inl x1), some (.inl x2), some (.inl x3), some (.inl x4), some (.inl x5)], [.inl x5], M)) sm_a88_7 rfl rfl rfl ?_
    refine ru_if (pc := 9) (p := 29) (p2 := 12) sm_a88_9 (by decide) rfl ⟨fun hc_2 => ?_, fun hc_2 => ?_⟩
    · have h := h.1 hc_2
      refine ru_go (t := (30, [some (.inr (some a0)), some (.inl x1), some (.inl x2), some (.inl x3), some (.inl x4), some (.inl x5)], [.inr none], M)) sm_a88_29 rfl rfl rfl ?_
      exact ru_ret sm_a88_30 rfl h
    · have h := h.2 hc_2
      refine ru_go (t := (14, [some (.inr (some a0)), some (.inl x1), some (.inl x2), some (.inl x3), some (.inl x4), some (.inl x5)], [.inl x5], M)) sm_a88_12 rfl rfl rfl ?_
      refine ru_go (t := (16, [some (.inr (some a0)), some (.inl x1), some (.inl x2), some (.inl x3), some (.inl x4), some (.inl x5)], [.inl 100, .inl x5], M)) sm_a88_14 rfl rfl (st_bipush (by decide)) ?_
      refine ru_icmp (pc := 16) (p := 29) (p2 := 19) sm_a88_16 (by decide) rfl ⟨fun hc_3 => ?_, fun hc_3 => ?_⟩
      · have h := h.1 hc_3
        refine ru_go (t := (30, [some (.inr (some a0)), some (.inl x1), some (.inl x2), some (.inl x3), some (.inl x4), some (.inl x5)], [.inr none], M)) sm_a88_29 rfl rfl rfl ?_
        exact ru_ret sm_a88_30 rfl h
      · have h := h.2 hc_3
        refine ru_go (t := (20, [some (.inr (some a0)), some (.inl x1), some (.inl x2), some (.inl x3), some (.inl x4), some (.inl x5)], [.inr (some a0)], M)) sm_a88_19 rfl rfl rfl ?_
        obtain ⟨h_4, h⟩ := h
        refine ru_go (t := (23, [some (.inr (some a0)), some (.inl x1), some (.inl x2), some (.inl x3), some (.inl x4), some (.inl x5)], [.inl (sm_I M a0 2)], M)) sm_a88_20 rfl rfl (st_getI h_4 rfl) ?_
        refine ru_go (t := (26, [some (.inr (some a0)), some (.inl x1), some (.inl x2), some (.inl x3), some (.inl x4), some (.inl x5)], [.inl 300, .inl (sm_I M a0 2)], M)) sm_a88_23 rfl rfl (st_sipush (by decide)) ?_
        refine ru_icmp (pc := 26) (p := 31) (p2 := 29) sm_a88_26 (by decide) rfl ⟨fun hc_5 => ?_, fun hc_5 => ?_⟩
        · have h := h.1 hc_5
          refine ru_go (t := (32, [some (.inr (some a0)), some (.inl x1), some (.inl x2), some (.inl x3), some (.inl x4), some (.inl x5)], [.inr (some a0)], M)) sm_a88_31 rfl rfl rfl ?_
          refine ru_go (t := (35, [some (.inr (some a0)), some (.inl x1), some (.inl x2), some (.inl x3), some (.inl x4), some (.inl x5)], [.inr (sm_R M a0 0)], M)) sm_a88_32 rfl rfl (st_getR h_4 rfl rfl) ?_
          refine ru_go (t := (36, [some (.inr (some a0)), some (.inl x1), some (.inl x2), some (.inl x3), some (.inl x4), some (.inl x5)], [.inl x1, .inr (sm_R M a0 0)], M)) sm_a88_35 rfl rfl rfl ?_
          obtain ⟨b_6, hb_7, h⟩ := h
          rw [hb_7]
          obtain ⟨h_8, h⟩ := h
          obtain ⟨h_9, h⟩ := h
          refine ru_go (t := (37, [some (.inr (some a0)), some (.inl x1), some (.inl x2), some (.inl x3), some (.inl x4), some (.inl x5)], [.inr (sm_R M b_6 (x1).toNatClampNeg)], M)) sm_a88_36 rfl rfl (st_aald h_8.choose_spec h_9 rfl) ?_
          obtain ⟨b_10, hb_11, h⟩ := h
          rw [hb_11]
          obtain ⟨h_12, h⟩ := h
          exact ru_call (p := 40) sm_a88_37 rfl (sc_virt (Or.inl rfl) rfl rfl h_12 (Nat.le_of_ble_eq_true rfl)) rfl h
        · have h := h.2 hc_5
          refine ru_go (t := (30, [some (.inr (some a0)), some (.inl x1), some (.inl x2), some (.inl x3), some (.inl x4), some (.inl x5)], [.inr none], M)) sm_a88_29 rfl rfl rfl ?_
          exact ru_ret sm_a88_30 rfl h
theorem bb_88_40 {d : Nat} {M : sm_M} {Q : Option sm_V → sm_M → Prop} {a0 : Nat} {x1 : Int32} {x2 : Int32} {x3 : Int32} {x4 : Int32} {x5 : Int32} {y0 : Int32}
    (h : ((y0 = 0 → Q (some (.inr none)) M) ∧ (¬ (y0 = 0) → ((¬ x2 = 5 → sm_K M a0 = 21 ∧ sm_Run d 89 0 (sm_ent 89 [.inr (some a0), .inl x1, .inl x2, .inl x3, .inl x4, .inl x5]) [] M (fun v M1 => sm_Run (d + 1) 88 61 [some (.inr (some a0)), some (.inl x1), some (.inl x2), some (.inl x3), some (.inl x4), some (.inl x5)] (v.toList ++ []) M1 Q)) ∧ (¬ (¬ x2 = 5) → Q (some (.inr none)) M))))) :
    sm_Run (d + 1) 88 40 [some (.inr (some a0)), some (.inl x1), some (.inl x2), some (.inl x3), some (.inl x4), some (.inl x5)] [.inl y0] M Q := by
  refine ru_if (pc := 40) (p := 48) (p2 := 43) sm_a88_40 (by decide) rfl ⟨fun hc_1 => ?_, fun hc_1 => ?_⟩
  · have h := h.1 hc_1
    refine ru_go (t := (49, [some (.inr (some a0)), some (.inl x1), some (.inl x2), some (.inl x3), some (.inl x4), some (.inl x5)], [.inr none], M)) sm_a88_48 rfl rfl rfl ?_
    exact ru_ret sm_a88_49 rfl h
  · have h := h.2 hc_1
    refine ru_go (t := (44, [some (.inr (some a0)), some (.inl x1), some (.inl x2), some (.inl x3), some (.inl x4), some (.inl x5)], [.inl x2], M)) sm_a88_43 rfl rfl rfl ?_
    refine ru_go (t := (45, [some (.inr (some a0)), some (.inl x1), some (.inl x2), some (.inl x3), some (.inl x4), some (.inl x5)], [.inl 5, .inl x2], M)) sm_a88_44 rfl rfl (st_iconst (by decide)) ?_
    refine ru_icmp (pc := 45) (p := 50) (p2 := 48) sm_a88_45 (by decide) rfl ⟨fun hc_2 => ?_, fun hc_2 => ?_⟩
    · have h := h.1 hc_2
      refine ru_go (t := (51, [some (.inr (some a0)), some (.inl x1), some (.inl x2), some (.inl x3), some (.inl x4), some (.inl x5)], [.inr (some a0)], M)) sm_a88_50 rfl rfl rfl ?_
      refine ru_go (t := (52, [some (.inr (some a0)), some (.inl x1), some (.inl x2), some (.inl x3), some (.inl x4), some (.inl x5)], [.inl x1, .inr (some a0)], M)) sm_a88_51 rfl rfl rfl ?_
      refine ru_go (t := (53, [some (.inr (some a0)), some (.inl x1), some (.inl x2), some (.inl x3), some (.inl x4), some (.inl x5)], [.inl x2, .inl x1, .inr (some a0)], M)) sm_a88_52 rfl rfl rfl ?_
      refine ru_go (t := (54, [some (.inr (some a0)), some (.inl x1), some (.inl x2), some (.inl x3), some (.inl x4), some (.inl x5)], [.inl x3, .inl x2, .inl x1, .inr (some a0)], M)) sm_a88_53 rfl rfl rfl ?_
      refine ru_go (t := (56, [some (.inr (some a0)), some (.inl x1), some (.inl x2), some (.inl x3), some (.inl x4), some (.inl x5)], [.inl x4, .inl x3, .inl x2, .inl x1, .inr (some a0)], M)) sm_a88_54 rfl rfl rfl ?_
      refine ru_go (t := (58, [some (.inr (some a0)), some (.inl x1), some (.inl x2), some (.inl x3), some (.inl x4), some (.inl x5)], [.inl x5, .inl x4, .inl x3, .inl x2, .inl x1, .inr (some a0)], M)) sm_a88_56 rfl rfl rfl ?_
      obtain ⟨h_3, h⟩ := h
      exact ru_call (p := 61) sm_a88_58 rfl (sc_virt (Or.inl rfl) rfl rfl h_3 (Nat.le_of_ble_eq_true rfl)) rfl h
    · have h := h.2 hc_2
      refine ru_go (t := (49, [some (.inr (some a0)), some (.inl x1), some (.inl x2), some (.inl x3), some (.inl x4), some (.inl x5)], [.inr none], M)) sm_a88_48 rfl rfl rfl ?_
      exact ru_ret sm_a88_49 rfl h
theorem bb_88_61 {d : Nat} {M : sm_M} {Q : Option sm_V → sm_M → Prop} {a0 : Nat} {x1 : Int32} {x2 : Int32} {x3 : Int32} {x4 : Int32} {x5 : Int32} {t0 : Option Nat}
    (h : Q (some (.inr t0)) M) :
    sm_Run (d + 1) 88 61 [some (.inr (some a0)), some (.inl x1), some (.inl x2), some (.inl x3), some (.inl x4), some (.inl x5)] [.inr t0] M Q := by
  exact ru_ret sm_a88_61 rfl h

/-! WireBus$Host.addControl:(IIIII)LWireBus$Transfer; -/
theorem sm_a89_0 : sm_at 89 0 = some (.new 19, 3, (10, 0, 0, 348)) := by decide +kernel
theorem sm_a89_3 : sm_at 89 3 = some (.dup, 1, (0, 0, 0, 0)) := by decide +kernel
theorem sm_a89_4 : sm_at 89 4 = some (.iload_n 1, 1, (0, 0, 0, 0)) := by decide +kernel
theorem sm_a89_5 : sm_at 89 5 = some (.aload_n 0, 1, (0, 0, 0, 0)) := by decide +kernel
theorem sm_a89_6 : sm_at 89 6 = some (.getfield 30, 3, (6, 4, 0, 432)) := by decide +kernel
theorem sm_a89_9 : sm_at 89 9 = some (.aload_n 0, 1, (0, 0, 0, 0)) := by decide +kernel
theorem sm_a89_10 : sm_at 89 10 = some (.getfield 15, 3, (6, 0, 0, 424)) := by decide +kernel
theorem sm_a89_13 : sm_at 89 13 = some (.iload_n 1, 1, (0, 0, 0, 0)) := by decide +kernel
theorem sm_a89_14 : sm_at 89 14 = some (.aaload, 1, (0, 0, 0, 0)) := by decide +kernel
theorem sm_a89_15 : sm_at 89 15 = some (.getfield 75, 3, (8, 2, 1, 404)) := by decide +kernel
theorem sm_a89_18 : sm_at 89 18 = some (.iload_n 2, 1, (0, 0, 0, 0)) := by decide +kernel
theorem sm_a89_19 : sm_at 89 19 = some (.ldc 78, 2, (32768, 0, 0, 616)) := by decide +kernel
theorem sm_a89_21 : sm_at 89 21 = some (.if_icmp .lt 7, 3, (0, 0, 0, 0)) := by decide +kernel
theorem sm_a89_24 : sm_at 89 24 = some (.iconst 1, 1, (0, 0, 0, 0)) := by decide +kernel
theorem sm_a89_25 : sm_at 89 25 = some (.goto 4, 3, (0, 0, 0, 0)) := by decide +kernel
theorem sm_a89_28 : sm_at 89 28 = some (.iconst 0, 1, (0, 0, 0, 0)) := by decide +kernel
theorem sm_a89_29 : sm_at 89 29 = some (.iload 5, 2, (0, 0, 0, 0)) := by decide +kernel
theorem sm_a89_31 : sm_at 89 31 = some (.invokespecial 60, 3, (14, 121, 10, 617)) := by decide +kernel
theorem sm_a89_34 : sm_at 89 34 = some (.astore 6, 2, (0, 0, 0, 0)) := by decide +kernel
theorem sm_a89_36 : sm_at 89 36 = some (.aload 6, 2, (0, 0, 0, 0)) := by decide +kernel
theorem sm_a89_38 : sm_at 89 38 = some (.iload_n 2, 1, (0, 0, 0, 0)) := by decide +kernel
theorem sm_a89_39 : sm_at 89 39 = some (.iload_n 3, 1, (0, 0, 0, 0)) := by decide +kernel
theorem sm_a89_40 : sm_at 89 40 = some (.iload 4, 2, (0, 0, 0, 0)) := by decide +kernel
theorem sm_a89_42 : sm_at 89 42 = some (.invokevirtual 79, 3, (10, 122, 10, 677)) := by decide +kernel
theorem sm_a89_45 : sm_at 89 45 = some (.aload_n 0, 1, (0, 0, 0, 0)) := by decide +kernel
theorem sm_a89_46 : sm_at 89 46 = some (.aload 6, 2, (0, 0, 0, 0)) := by decide +kernel
theorem sm_a89_48 : sm_at 89 48 = some (.invokevirtual 63, 3, (10, 86, 6, 681)) := by decide +kernel
theorem sm_a89_51 : sm_at 89 51 = some (.areturn, 1, (0, 0, 0, 0)) := by decide +kernel
theorem bb_89_0 {d : Nat} {M : sm_M} {Q : Option sm_V → sm_M → Prop} {a0 : Nat} {x1 : Int32} {x2 : Int32} {x3 : Int32} {x4 : Int32} {x5 : Int32} {z6 : Option sm_V}
    (h : sm_K (sm_new M 33 0 13) a0 = 21 ∧ ∃ b_2, sm_R (sm_new M 33 0 13) a0 0 = some b_2 ∧ (∃ ci, sm_K (sm_new M 33 0 13) b_2 = 4 + 3 * ci) ∧ sm_in_ (sm_new M 33 0 13) b_2 x1 ∧ ∃ b_6, sm_R (sm_new M 33 0 13) b_2 (x1).toNatClampNeg = some b_6 ∧ sm_K (sm_new M 33 0 13) b_6 = 27 ∧ ((x2 < 32768 → sm_Run d 121 0 (sm_ent 121 [.inr (some (sm_N M)), .inl x1, .inr (sm_R (sm_new M 33 0 13) a0 4), .inl (sm_I (sm_new M 33 0 13) b_6 2), .inl 0, .inl x5]) [] (sm_new M 33 0 13) (fun v M1 => sm_Run (d + 1) 89 34 [some (.inr (some a0)), some (.inl x1), some (.inl x2), some (.inl x3), some (.inl x4), some (.inl x5), z6] (v.toList ++ [.inr (some (sm_N M))]) M1 Q)) ∧ (¬ (x2 < 32768) → sm_Run d 121 0 (sm_ent 121 [.inr (some (sm_N M)), .inl x1, .inr (sm_R (sm_new M 33 0 13) a0 4), .inl (sm_I (sm_new M 33 0 13) b_6 2), .inl 1, .inl x5]) [] (sm_new M 33 0 13) (fun v M1 => sm_Run (d + 1) 89 34 [some (.inr (some a0)), some (.inl x1), some (.inl x2), some (.inl x3), some (.inl x4), some (.inl x5), z6] (v.toList ++ [.inr (some (sm_N M))]) M1 Q)))) :
    sm_Run (d + 1) 89 0 [some (.inr (some a0)), some (.inl x1), some (.inl x2), some (.inl x3), some (.inl x4), some (.inl x5), z6] [] M Q := by
  refine ru_go (t := (3, [some (.inr (some a0)), some (.inl x1), some (.inl x2), some (.inl x3), some (.inl x4), some (.inl x5), z6], [.inr (some (sm_N M))], sm_new M 33 0 13)) sm_a89_0 rfl rfl rfl ?_
  refine ru_go (t := (4, [some (.inr (some a0)), some (.inl x1), some (.inl x2), some (.inl x3), some (.inl x4), some (.inl x5), z6], [.inr (some (sm_N M)), .inr (some (sm_N M))], sm_new M 33 0 13)) sm_a89_3 rfl rfl rfl ?_
  refine ru_go (t := (5, [some (.inr (some a0)), some (.inl x1), some (.inl x2), some (.inl x3), some (.inl x4), some (.inl x5), z6], [.inl x1, .inr (some (sm_N M)), .inr (some (sm_N M))], sm_new M 33 0 13)) sm_a89_4 rfl rfl rfl ?_
  refine ru_go (t := (6, [some (.inr (some a0)), some (.inl x1), some (.inl x2), some (.inl x3), some (.inl x4), some (.inl x5), z6], [.inr (some a0), .inl x1, .inr (some (sm_N M)), .inr (some (sm_N M))], sm_new M 33 0 13)) sm_a89_5 rfl rfl rfl ?_
  obtain ⟨h_1, h⟩ := h
  refine ru_go (t := (9, [some (.inr (some a0)), some (.inl x1), some (.inl x2), some (.inl x3), some (.inl x4), some (.inl x5), z6], [.inr (sm_R (sm_new M 33 0 13) a0 4), .inl x1, .inr (some (sm_N M)), .inr (some (sm_N M))], sm_new M 33 0 13)) sm_a89_6 rfl rfl (st_getR h_1 rfl rfl) ?_
  refine ru_go (t := (10, [some (.inr (some a0)), some (.inl x1), some (.inl x2), some (.inl x3), some (.inl x4), some (.inl x5), z6], [.inr (some a0), .inr (sm_R (sm_new M 33 0 13) a0 4), .inl x1, .inr (some (sm_N M)), .inr (some (sm_N M))], sm_new M 33 0 13)) sm_a89_9 rfl rfl rfl ?_
  refine ru_go (t := (13, [some (.inr (some a0)), some (.inl x1), some (.inl x2), some (.inl x3), some (.inl x4), some (.inl x5), z6], [.inr (sm_R (sm_new M 33 0 13) a0 0), .inr (sm_R (sm_new M 33 0 13) a0 4), .inl x1, .inr (some (sm_N M)), .inr (some (sm_N M))], sm_new M 33 0 13)) sm_a89_10 rfl rfl (st_getR h_1 rfl rfl) ?_
  refine ru_go (t := (14, [some (.inr (some a0)), some (.inl x1), some (.inl x2), some (.inl x3), some (.inl x4), some (.inl x5), z6], [.inl x1, .inr (sm_R (sm_new M 33 0 13) a0 0), .inr (sm_R (sm_new M 33 0 13) a0 4), .inl x1, .inr (some (sm_N M)), .inr (some (sm_N M))], sm_new M 33 0 13)) sm_a89_13 rfl rfl rfl ?_
  obtain ⟨b_2, hb_3, h⟩ := h
  rw [hb_3]
  obtain ⟨h_4, h⟩ := h
  obtain ⟨h_5, h⟩ := h
  refine ru_go (t := (15, [some (.inr (some a0)), some (.inl x1), some (.inl x2), some (.inl x3), some (.inl x4), some (.inl x5), z6], [.inr (sm_R (sm_new M 33 0 13) b_2 (x1).toNatClampNeg), .inr (sm_R (sm_new M 33 0 13) a0 4), .inl x1, .inr (some (sm_N M)), .inr (some (sm_N M))], sm_new M 33 0 13)) sm_a89_14 rfl rfl (st_aald h_4.choose_spec h_5 rfl) ?_
  obtain ⟨b_6, hb_7, h⟩ := h
  rw [hb_7]
  obtain ⟨h_8, h⟩ := h
  refine ru_go (t := (18, [some (.inr (some a0)), some (.inl x1), some (.inl x2), some (.inl x3), some (.inl x4), some (.inl x5), z6], [.inl (sm_I (sm_new M 33 0 13) b_6 2), .inr (sm_R (sm_new M 33 0 13) a0 4), .inl x1, .inr (some (sm_N M)), .inr (some (sm_N M))], sm_new M 33 0 13)) sm_a89_15 rfl rfl (st_getI h_8 rfl) ?_
  refine ru_go (t := (19, [some (.inr (some a0)), some (.inl x1), some (.inl x2), some (.inl x3), some (.inl x4), some (.inl x5), z6], [.inl x2, .inl (sm_I (sm_new M 33 0 13) b_6 2), .inr (sm_R (sm_new M 33 0 13) a0 4), .inl x1, .inr (some (sm_N M)), .inr (some (sm_N M))], sm_new M 33 0 13)) sm_a89_18 rfl rfl rfl ?_
  refine ru_go (t := (21, [some (.inr (some a0)), some (.inl x1), some (.inl x2), some (.inl x3), some (.inl x4), some (.inl x5), z6], [.inl 32768, .inl x2, .inl (sm_I (sm_new M 33 0 13) b_6 2), .inr (sm_R (sm_new M 33 0 13) a0 4), .inl x1, .inr (some (sm_N M)), .inr (some (sm_N M))], sm_new M 33 0 13)) sm_a89_19 rfl rfl (st_ldc (by decide)) ?_
  refine ru_icmp (pc := 21) (p := 28) (p2 := 24) sm_a89_21 (by decide) rfl ⟨fun hc_9 => ?_, fun hc_9 => ?_⟩
  · have h := h.1 hc_9
    refine ru_go (t := (29, [some (.inr (some a0)), some (.inl x1), some (.inl x2), some (.inl x3), some (.inl x4), some (.inl x5), z6], [.inl 0, .inl (sm_I (sm_new M 33 0 13) b_6 2), .inr (sm_R (sm_new M 33 0 13) a0 4), .inl x1, .inr (some (sm_N M)), .inr (some (sm_N M))], sm_new M 33 0 13)) sm_a89_28 rfl rfl (st_iconst (by decide)) ?_
    refine ru_go (t := (31, [some (.inr (some a0)), some (.inl x1), some (.inl x2), some (.inl x3), some (.inl x4), some (.inl x5), z6], [.inl x5, .inl 0, .inl (sm_I (sm_new M 33 0 13) b_6 2), .inr (sm_R (sm_new M 33 0 13) a0 4), .inl x1, .inr (some (sm_N M)), .inr (some (sm_N M))], sm_new M 33 0 13)) sm_a89_29 rfl rfl rfl ?_
    exact ru_call (p := 34) sm_a89_31 rfl (sc_spec (Or.inl rfl) rfl rfl (Nat.le_of_ble_eq_true rfl)) rfl h
  · have h := h.2 hc_9
    refine ru_go (t := (25, [some (.inr (some a0)), some (.inl x1), some (.inl x2), some (.inl x3), some (.inl x4), some (.inl x5), z6], [.inl 1, .inl (sm_I (sm_new M 33 0 13) b_6 2), .inr (sm_R (sm_new M 33 0 13) a0 4), .inl x1, .inr (some (sm_N M)), .inr (some (sm_N M))], sm_new M 33 0 13)) sm_a89_24 rfl rfl (st_iconst (by decide)) ?_
    refine ru_go (t := (29, [some (.inr (some a0)), some (.inl x1), some (.inl x2), some (.inl x3), some (.inl x4), some (.inl x5), z6], [.inl 1, .inl (sm_I (sm_new M 33 0 13) b_6 2), .inr (sm_R (sm_new M 33 0 13) a0 4), .inl x1, .inr (some (sm_N M)), .inr (some (sm_N M))], sm_new M 33 0 13)) sm_a89_25 rfl rfl (st_goto (pc := 25) (by decide)) ?_
    refine ru_go (t := (31, [some (.inr (some a0)), some (.inl x1), some (.inl x2), some (.inl x3), some (.inl x4), some (.inl x5), z6], [.inl x5, .inl 1, .inl (sm_I (sm_new M 33 0 13) b_6 2), .inr (sm_R (sm_new M 33 0 13) a0 4), .inl x1, .inr (some (sm_N M)), .inr (some (sm_N M))], sm_new M 33 0 13)) sm_a89_29 rfl rfl rfl ?_
    exact ru_call (p := 34) sm_a89_31 rfl (sc_spec (Or.inl rfl) rfl rfl (Nat.le_of_ble_eq_true rfl)) rfl h
theorem bb_89_34 {d : Nat} {M : sm_M} {Q : Option sm_V → sm_M → Prop} {a0 : Nat} {x1 : Int32} {x2 : Int32} {x3 : Int32} {x4 : Int32} {x5 : Int32} {z6 : Option sm_V} {t0 : Option Nat}
    (h : ∃ b_1, t0 = some b_1 ∧ sm_K M b_1 = 33 ∧ sm_Run d 122 0 (sm_ent 122 [.inr (some b_1), .inl x2, .inl x3, .inl x4]) [] M (fun v M1 => sm_Run (d + 1) 89 45 [some (.inr (some a0)), some (.inl x1), some (.inl x2), some (.inl x3), some (.inl x4), some (.inl x5), some (.inr (some b_1))] (v.toList ++ []) M1 Q)) :
    sm_Run (d + 1) 89 34 [some (.inr (some a0)), some (.inl x1), some (.inl x2), some (.inl x3), some (.inl x4), some (.inl x5), z6] [.inr t0] M Q := by
  refine ru_go (t := (36, [some (.inr (some a0)), some (.inl x1), some (.inl x2), some (.inl x3), some (.inl x4), some (.inl x5), some (.inr t0)], [], M)) sm_a89_34 rfl rfl rfl ?_
  refine ru_go (t := (38, [some (.inr (some a0)), some (.inl x1), some (.inl x2), some (.inl x3), some (.inl x4), some (.inl x5), some (.inr t0)], [.inr t0], M)) sm_a89_36 rfl rfl rfl ?_
  refine ru_go (t := (39, [some (.inr (some a0)), some (.inl x1), some (.inl x2), some (.inl x3), some (.inl x4), some (.inl x5), some (.inr t0)], [.inl x2, .inr t0], M)) sm_a89_38 rfl rfl rfl ?_
  refine ru_go (t := (40, [some (.inr (some a0)), some (.inl x1), some (.inl x2), some (.inl x3), some (.inl x4), some (.inl x5), some (.inr t0)], [.inl x3, .inl x2, .inr t0], M)) sm_a89_39 rfl rfl rfl ?_
  refine ru_go (t := (42, [some (.inr (some a0)), some (.inl x1), some (.inl x2), some (.inl x3), some (.inl x4), some (.inl x5), some (.inr t0)], [.inl x4, .inl x3, .inl x2, .inr t0], M)) sm_a89_40 rfl rfl rfl ?_
  obtain ⟨b_1, hb_2, h⟩ := h
  rw [hb_2]
  obtain ⟨h_3, h⟩ := h
  exact ru_call (p := 45) sm_a89_42 rfl (sc_virt (Or.inl rfl) rfl rfl h_3 (Nat.le_of_ble_eq_true rfl)) rfl h
theorem bb_89_45 {d : Nat} {M : sm_M} {Q : Option sm_V → sm_M → Prop} {a0 : Nat} {x1 : Int32} {x2 : Int32} {x3 : Int32} {x4 : Int32} {x5 : Int32} {r6 : Option Nat}
    (h : sm_K M a0 = 21 ∧ sm_Run d 86 0 (sm_ent 86 [.inr (some a0), .inr r6]) [] M (fun v M1 => sm_Run (d + 1) 89 51 [some (.inr (some a0)), some (.inl x1), some (.inl x2), some (.inl x3), some (.inl x4), some (.inl x5), some (.inr r6)] (v.toList ++ []) M1 Q)) :
    sm_Run (d + 1) 89 45 [some (.inr (some a0)), some (.inl x1), some (.inl x2), some (.inl x3), some (.inl x4), some (.inl x5), some (.inr r6)] [] M Q := by
  refine ru_go (t := (46, [some (.inr (some a0)), some (.inl x1), some (.inl x2), some (.inl x3), some (.inl x4), some (.inl x5), some (.inr r6)], [.inr (some a0)], M)) sm_a89_45 rfl rfl rfl ?_
  refine ru_go (t := (48, [some (.inr (some a0)), some (.inl x1), some (.inl x2), some (.inl x3), some (.inl x4), some (.inl x5), some (.inr r6)], [.inr r6, .inr (some a0)], M)) sm_a89_46 rfl rfl rfl ?_
  obtain ⟨h_1, h⟩ := h
  exact ru_call (p := 51) sm_a89_48 rfl (sc_virt (Or.inl rfl) rfl rfl h_1 (Nat.le_of_ble_eq_true rfl)) rfl h
theorem bb_89_51 {d : Nat} {M : sm_M} {Q : Option sm_V → sm_M → Prop} {a0 : Nat} {x1 : Int32} {x2 : Int32} {x3 : Int32} {x4 : Int32} {x5 : Int32} {r6 : Option Nat} {t0 : Option Nat}
    (h : Q (some (.inr t0)) M) :
    sm_Run (d + 1) 89 51 [some (.inr (some a0)), some (.inl x1), some (.inl x2), some (.inl x3), some (.inl x4), some (.inl x5), some (.inr r6)] [.inr t0] M Q := by
  exact ru_ret sm_a89_51 rfl h

/-! WireBus$Host.beginFinding:(I)V -/
theorem sm_a90_0 : sm_at 90 0 = some (.aload_n 0, 1, (0, 0, 0, 0)) := by decide +kernel
theorem sm_a90_1 : sm_at 90 1 = some (.getfield 15, 3, (6, 0, 0, 424)) := by decide +kernel
theorem sm_a90_4 : sm_at 90 4 = some (.iload_n 1, 1, (0, 0, 0, 0)) := by decide +kernel
theorem sm_a90_5 : sm_at 90 5 = some (.aaload, 1, (0, 0, 0, 0)) := by decide +kernel
theorem sm_a90_6 : sm_at 90 6 = some (.iconst 1, 1, (0, 0, 0, 0)) := by decide +kernel
theorem sm_a90_7 : sm_at 90 7 = some (.invokevirtual 83, 3, (10, 112, 8, 602)) := by decide +kernel
theorem sm_a90_10 : sm_at 90 10 = some (.aload_n 0, 1, (0, 0, 0, 0)) := by decide +kernel
theorem sm_a90_11 : sm_at 90 11 = some (.iload_n 1, 1, (0, 0, 0, 0)) := by decide +kernel
theorem sm_a90_12 : sm_at 90 12 = some (.iconst 1, 1, (0, 0, 0, 0)) := by decide +kernel
theorem sm_a90_13 : sm_at 90 13 = some (.iconst 0, 1, (0, 0, 0, 0)) := by decide +kernel
theorem sm_a90_14 : sm_at 90 14 = some (.invokevirtual 87, 3, (10, 91, 6, 606)) := by decide +kernel
theorem sm_a90_17 : sm_at 90 17 = some (.return_, 1, (0, 0, 0, 0)) := by decide +kernel
theorem bb_90_0 {d : Nat} {M : sm_M} {Q : Option sm_V → sm_M → Prop} {a0 : Nat} {x1 : Int32}
    (h : sm_K M a0 = 21 ∧ ∃ b_2, sm_R M a0 0 = some b_2 ∧ (∃ ci, sm_K M b_2 = 4 + 3 * ci) ∧ sm_in_ M b_2 x1 ∧ ∃ b_6, sm_R M b_2 (x1).toNatClampNeg = some b_6 ∧ sm_K M b_6 = 27 ∧ sm_Run d 112 0 (sm_ent 112 [.inr (some b_6), .inl 1]) [] M (fun v M1 => sm_Run (d + 1) 90 10 [some (.inr (some a0)), some (.inl x1)] (v.toList ++ []) M1 Q)) :
    sm_Run (d + 1) 90 0 [some (.inr (some a0)), some (.inl x1)] [] M Q := by
  refine ru_go (t := (1, [some (.inr (some a0)), some (.inl x1)], [.inr (some a0)], M)) sm_a90_0 rfl rfl rfl ?_
  obtain ⟨h_1, h⟩ := h
  refine ru_go (t := (4, [some (.inr (some a0)), some (.inl x1)], [.inr (sm_R M a0 0)], M)) sm_a90_1 rfl rfl (st_getR h_1 rfl rfl) ?_
  refine ru_go (t := (5, [some (.inr (some a0)), some (.inl x1)], [.inl x1, .inr (sm_R M a0 0)], M)) sm_a90_4 rfl rfl rfl ?_
  obtain ⟨b_2, hb_3, h⟩ := h
  rw [hb_3]
  obtain ⟨h_4, h⟩ := h
  obtain ⟨h_5, h⟩ := h
  refine ru_go (t := (6, [some (.inr (some a0)), some (.inl x1)], [.inr (sm_R M b_2 (x1).toNatClampNeg)], M)) sm_a90_5 rfl rfl (st_aald h_4.choose_spec h_5 rfl) ?_
  refine ru_go (t := (7, [some (.inr (some a0)), some (.inl x1)], [.inl 1, .inr (sm_R M b_2 (x1).toNatClampNeg)], M)) sm_a90_6 rfl rfl (st_iconst (by decide)) ?_
  obtain ⟨b_6, hb_7, h⟩ := h
  rw [hb_7]
  obtain ⟨h_8, h⟩ := h
  exact ru_call (p := 10) sm_a90_7 rfl (sc_virt (Or.inl rfl) rfl rfl h_8 (Nat.le_of_ble_eq_true rfl)) rfl h
theorem bb_90_10 {d : Nat} {M : sm_M} {Q : Option sm_V → sm_M → Prop} {a0 : Nat} {x1 : Int32}
    (h : sm_K M a0 = 21 ∧ sm_Run d 91 0 (sm_ent 91 [.inr (some a0), .inl x1, .inl 1, .inl 0]) [] M (fun v M1 => sm_Run (d + 1) 90 17 [some (.inr (some a0)), some (.inl x1)] (v.toList ++ []) M1 Q)) :
    sm_Run (d + 1) 90 10 [some (.inr (some a0)), some (.inl x1)] [] M Q := by
  refine ru_go (t := (11, [some (.inr (some a0)), some (.inl x1)], [.inr (some a0)], M)) sm_a90_10 rfl rfl rfl ?_
  refine ru_go (t := (12, [some (.inr (some a0)), some (.inl x1)], [.inl x1, .inr (some a0)], M)) sm_a90_11 rfl rfl rfl ?_
  refine ru_go (t := (13, [some (.inr (some a0)), some (.inl x1)], [.inl 1, .inl x1, .inr (some a0)], M)) sm_a90_12 rfl rfl (st_iconst (by decide)) ?_
  refine ru_go (t := (14, [some (.inr (some a0)), some (.inl x1)], [.inl 0, .inl 1, .inl x1, .inr (some a0)], M)) sm_a90_13 rfl rfl (st_iconst (by decide)) ?_
  obtain ⟨h_1, h⟩ := h
  exact ru_call (p := 17) sm_a90_14 rfl (sc_virt (Or.inl rfl) rfl rfl h_1 (Nat.le_of_ble_eq_true rfl)) rfl h
theorem bb_90_17 {d : Nat} {M : sm_M} {Q : Option sm_V → sm_M → Prop} {a0 : Nat} {x1 : Int32}
    (h : Q none M) :
    sm_Run (d + 1) 90 17 [some (.inr (some a0)), some (.inl x1)] [] M Q := by
  exact ru_ret sm_a90_17 (sm_rvv rfl) h

/-! WireBus$Host.find:(III)V -/
theorem sm_a91_0 : sm_at 91 0 = some (.aconst_null, 1, (0, 0, 0, 0)) := by decide +kernel
theorem sm_a91_1 : sm_at 91 1 = some (.astore 4, 2, (0, 0, 0, 0)) := by decide +kernel
theorem sm_a91_3 : sm_at 91 3 = some (.iload_n 2, 1, (0, 0, 0, 0)) := by decide +kernel
theorem sm_a91_4 : sm_at 91 4 = some (.tableswitch 142 1 6 #[40, 58, 74, 92, 110, 127], 40, (0, 0, 0, 0)) := by decide +kernel
theorem sm_a91_44 : sm_at 91 44 = some (.aload_n 0, 1, (0, 0, 0, 0)) := by decide +kernel
theorem sm_a91_45 : sm_at 91 45 = some (.iload_n 1, 1, (0, 0, 0, 0)) := by decide +kernel
theorem sm_a91_46 : sm_at 91 46 = some (.ldc 89, 2, (32774, 0, 0, 610)) := by decide +kernel
theorem sm_a91_48 : sm_at 91 48 = some (.sipush 256, 3, (0, 0, 0, 0)) := by decide +kernel
theorem sm_a91_51 : sm_at 91 51 = some (.iconst 0, 1, (0, 0, 0, 0)) := by decide +kernel
theorem sm_a91_52 : sm_at 91 52 = some (.bipush 8, 2, (0, 0, 0, 0)) := by decide +kernel
theorem sm_a91_54 : sm_at 91 54 = some (.invokevirtual 71, 3, (10, 89, 6, 611)) := by decide +kernel
theorem sm_a91_57 : sm_at 91 57 = some (.astore 4, 2, (0, 0, 0, 0)) := by decide +kernel
theorem sm_a91_59 : sm_at 91 59 = some (.goto 87, 3, (0, 0, 0, 0)) := by decide +kernel
theorem sm_a91_62 : sm_at 91 62 = some (.aload_n 0, 1, (0, 0, 0, 0)) := by decide +kernel
theorem sm_a91_63 : sm_at 91 63 = some (.iload_n 1, 1, (0, 0, 0, 0)) := by decide +kernel
theorem sm_a91_64 : sm_at 91 64 = some (.iconst 5, 1, (0, 0, 0, 0)) := by decide +kernel
theorem sm_a91_65 : sm_at 91 65 = some (.iload_n 1, 1, (0, 0, 0, 0)) := by decide +kernel
theorem sm_a91_66 : sm_at 91 66 = some (.iconst 1, 1, (0, 0, 0, 0)) := by decide +kernel
theorem sm_a91_67 : sm_at 91 67 = some (.iadd, 1, (0, 0, 0, 0)) := by decide +kernel
theorem sm_a91_68 : sm_at 91 68 = some (.iconst 0, 1, (0, 0, 0, 0)) := by decide +kernel
theorem sm_a91_69 : sm_at 91 69 = some (.iconst 0, 1, (0, 0, 0, 0)) := by decide +kernel
theorem sm_a91_70 : sm_at 91 70 = some (.invokevirtual 71, 3, (10, 89, 6, 611)) := by decide +kernel
theorem sm_a91_73 : sm_at 91 73 = some (.astore 4, 2, (0, 0, 0, 0)) := by decide +kernel
theorem sm_a91_75 : sm_at 91 75 = some (.goto 71, 3, (0, 0, 0, 0)) := by decide +kernel
theorem sm_a91_78 : sm_at 91 78 = some (.aload_n 0, 1, (0, 0, 0, 0)) := by decide +kernel
theorem sm_a91_79 : sm_at 91 79 = some (.iload_n 1, 1, (0, 0, 0, 0)) := by decide +kernel
theorem sm_a91_80 : sm_at 91 80 = some (.ldc 89, 2, (32774, 0, 0, 610)) := by decide +kernel
theorem sm_a91_82 : sm_at 91 82 = some (.sipush 256, 3, (0, 0, 0, 0)) := by decide +kernel
theorem sm_a91_85 : sm_at 91 85 = some (.iconst 0, 1, (0, 0, 0, 0)) := by decide +kernel
theorem sm_a91_86 : sm_at 91 86 = some (.bipush 18, 2, (0, 0, 0, 0)) := by decide +kernel
theorem sm_a91_88 : sm_at 91 88 = some (.invokevirtual 71, 3, (10, 89, 6, 611)) := by decide +kernel
theorem sm_a91_91 : sm_at 91 91 = some (.astore 4, 2, (0, 0, 0, 0)) := by decide +kernel
theorem sm_a91_93 : sm_at 91 93 = some (.goto 53, 3, (0, 0, 0, 0)) := by decide +kernel
theorem sm_a91_96 : sm_at 91 96 = some (.aload_n 0, 1, (0, 0, 0, 0)) := by decide +kernel
theorem sm_a91_97 : sm_at 91 97 = some (.iload_n 1, 1, (0, 0, 0, 0)) := by decide +kernel
theorem sm_a91_98 : sm_at 91 98 = some (.ldc 89, 2, (32774, 0, 0, 610)) := by decide +kernel
theorem sm_a91_100 : sm_at 91 100 = some (.sipush 512, 3, (0, 0, 0, 0)) := by decide +kernel
theorem sm_a91_103 : sm_at 91 103 = some (.iconst 0, 1, (0, 0, 0, 0)) := by decide +kernel
theorem sm_a91_104 : sm_at 91 104 = some (.bipush 9, 2, (0, 0, 0, 0)) := by decide +kernel
theorem sm_a91_106 : sm_at 91 106 = some (.invokevirtual 71, 3, (10, 89, 6, 611)) := by decide +kernel
theorem sm_a91_109 : sm_at 91 109 = some (.astore 4, 2, (0, 0, 0, 0)) := by decide +kernel
theorem sm_a91_111 : sm_at 91 111 = some (.goto 35, 3, (0, 0, 0, 0)) := by decide +kernel
theorem sm_a91_114 : sm_at 91 114 = some (.aload_n 0, 1, (0, 0, 0, 0)) := by decide +kernel
theorem sm_a91_115 : sm_at 91 115 = some (.iload_n 1, 1, (0, 0, 0, 0)) := by decide +kernel
theorem sm_a91_116 : sm_at 91 116 = some (.ldc 89, 2, (32774, 0, 0, 610)) := by decide +kernel
theorem sm_a91_118 : sm_at 91 118 = some (.sipush 512, 3, (0, 0, 0, 0)) := by decide +kernel
theorem sm_a91_121 : sm_at 91 121 = some (.iconst 0, 1, (0, 0, 0, 0)) := by decide +kernel
theorem sm_a91_122 : sm_at 91 122 = some (.iload_n 3, 1, (0, 0, 0, 0)) := by decide +kernel
theorem sm_a91_123 : sm_at 91 123 = some (.invokevirtual 71, 3, (10, 89, 6, 611)) := by decide +kernel
theorem sm_a91_126 : sm_at 91 126 = some (.astore 4, 2, (0, 0, 0, 0)) := by decide +kernel
theorem sm_a91_128 : sm_at 91 128 = some (.goto 18, 3, (0, 0, 0, 0)) := by decide +kernel
theorem sm_a91_131 : sm_at 91 131 = some (.aload_n 0, 1, (0, 0, 0, 0)) := by decide +kernel
theorem sm_a91_132 : sm_at 91 132 = some (.iload_n 1, 1, (0, 0, 0, 0)) := by decide +kernel
theorem sm_a91_133 : sm_at 91 133 = some (.bipush 9, 2, (0, 0, 0, 0)) := by decide +kernel
theorem sm_a91_135 : sm_at 91 135 = some (.iconst 1, 1, (0, 0, 0, 0)) := by decide +kernel
theorem sm_a91_136 : sm_at 91 136 = some (.iconst 0, 1, (0, 0, 0, 0)) := by decide +kernel
theorem sm_a91_137 : sm_at 91 137 = some (.iconst 0, 1, (0, 0, 0, 0)) := by decide +kernel
theorem sm_a91_138 : sm_at 91 138 = some (.invokevirtual 71, 3, (10, 89, 6, 611)) := by decide +kernel
theorem sm_a91_141 : sm_at 91 141 = some (.astore 4, 2, (0, 0, 0, 0)) := by decide +kernel
theorem sm_a91_143 : sm_at 91 143 = some (.goto 3, 3, (0, 0, 0, 0)) := by decide +kernel
theorem sm_a91_146 : sm_at 91 146 = some (.aload 4, 2, (0, 0, 0, 0)) := by decide +kernel
theorem sm_a91_148 : sm_at 91 148 = some (.ifnull 9, 3, (0, 0, 0, 0)) := by decide +kernel
theorem sm_a91_151 : sm_at 91 151 = some (.aload 4, 2, (0, 0, 0, 0)) := by decide +kernel
theorem sm_a91_153 : sm_at 91 153 = some (.iload_n 2, 1, (0, 0, 0, 0)) := by decide +kernel
theorem sm_a91_154 : sm_at 91 154 = some (.putfield 90, 3, (10, 8, 1, 639)) := by decide +kernel
theorem sm_a91_157 : sm_at 91 157 = some (.return_, 1, (0, 0, 0, 0)) := by decide +kernel
theorem bb_91_0 {d : Nat} {M : sm_M} {Q : Option sm_V → sm_M → Prop} {a0 : Nat} {x1 : Int32} {x2 : Int32} {x3 : Int32} {z4 : Option sm_V}
    (h : ((x2 = 1 → sm_K M a0 = 21 ∧ sm_Run d 89 0 (sm_ent 89 [.inr (some a0), .inl x1, .inl 32774, .inl 256, .inl 0, .inl 8]) [] M (fun v M1 => sm_Run (d + 1) 91 57 [some (.inr (some a0)), some (.inl x1), some (.inl x2), some (.inl x3), some (.inr none)] (v.toList ++ []) M1 Q)) ∧ (x2 = 2 → sm_K M a0 = 21 ∧ sm_Run d 89 0 (sm_ent 89 [.inr (some a0), .inl x1, .inl 5, .inl (x1 + 1), .inl 0, .inl 0]) [] M (fun v M1 => sm_Run (d + 1) 91 73 [some (.inr (some a0)), some (.inl x1), some (.inl x2), some (.inl x3), some (.inr none)] (v.toList ++ []) M1 Q)) ∧ (x2 = 3 → sm_K M a0 = 21 ∧ sm_Run d 89 0 (sm_ent 89 [.inr (some a0), .inl x1, .inl 32774, .inl 256, .inl 0, .inl 18]) [] M (fun v M1 => sm_Run (d + 1) 91 91 [some (.inr (some a0)), some (.inl x1), some (.inl x2), some (.inl x3), some (.inr none)] (v.toList ++ []) M1 Q)) ∧ (x2 = 4 → sm_K M a0 = 21 ∧ sm_Run d 89 0 (sm_ent 89 [.inr (some a0), .inl x1, .inl 32774, .inl 512, .inl 0, .inl 9]) [] M (fun v M1 => sm_Run (d + 1) 91 109 [some (.inr (some a0)), some (.inl x1), some (.inl x2), some (.inl x3), some (.inr none)] (v.toList ++ []) M1 Q)) ∧ (x2 = 5 → sm_K M a0 = 21 ∧ sm_Run d 89 0 (sm_ent 89 [.inr (some a0), .inl x1, .inl 32774, .inl 512, .inl 0, .inl x3]) [] M (fun v M1 => sm_Run (d + 1) 91 126 [some (.inr (some a0)), some (.inl x1), some (.inl x2), some (.inl x3), some (.inr none)] (v.toList ++ []) M1 Q)) ∧ (x2 = 6 → sm_K M a0 = 21 ∧ sm_Run d 89 0 (sm_ent 89 [.inr (some a0), .inl x1, .inl 9, .inl 1, .inl 0, .inl 0]) [] M (fun v M1 => sm_Run (d + 1) 91 141 [some (.inr (some a0)), some (.inl x1), some (.inl x2), some (.inl x3), some (.inr none)] (v.toList ++ []) M1 Q)) ∧ (¬ x2 = 1 → ¬ x2 = 2 → ¬ x2 = 3 → ¬ x2 = 4 → ¬ x2 = 5 → ¬ x2 = 6 → Q none M))) :
    sm_Run (d + 1) 91 0 [some (.inr (some a0)), some (.inl x1), some (.inl x2), some (.inl x3), z4] [] M Q := by
  refine ru_go (t := (1, [some (.inr (some a0)), some (.inl x1), some (.inl x2), some (.inl x3), z4], [.inr none], M)) sm_a91_0 rfl rfl rfl ?_
  refine ru_go (t := (3, [some (.inr (some a0)), some (.inl x1), some (.inl x2), some (.inl x3), some (.inr none)], [], M)) sm_a91_1 rfl rfl rfl ?_
  refine ru_go (t := (4, [some (.inr (some a0)), some (.inl x1), some (.inl x2), some (.inl x3), some (.inr none)], [.inl x2], M)) sm_a91_3 rfl rfl rfl ?_
  by_cases hc_1 : x2 = 1
  · have h := h.1 hc_1
    refine ru_tsw (pc := 4) (v := 1) (p := 44) sm_a91_4 hc_1 (by decide) ?_
    refine ru_go (t := (45, [some (.inr (some a0)), some (.inl x1), some (.inl x2), some (.inl x3), some (.inr none)], [.inr (some a0)], M)) sm_a91_44 rfl rfl rfl ?_
    refine ru_go (t := (46, [some (.inr (some a0)), some (.inl x1), some (.inl x2), some (.inl x3), some (.inr none)], [.inl x1, .inr (some a0)], M)) sm_a91_45 rfl rfl rfl ?_
    refine ru_go (t := (48, [some (.inr (some a0)), some (.inl x1), some (.inl x2), some (.inl x3), some (.inr none)], [.inl 32774, .inl x1, .inr (some a0)], M)) sm_a91_46 rfl rfl (st_ldc (by decide)) ?_
    refine ru_go (t := (51, [some (.inr (some a0)), some (.inl x1), some (.inl x2), some (.inl x3), some (.inr none)], [.inl 256, .inl 32774, .inl x1, .inr (some a0)], M)) sm_a91_48 rfl rfl (st_sipush (by decide)) ?_
    refine ru_go (t := (52, [some (.inr (some a0)), some (.inl x1), some (.inl x2), some (.inl x3), some (.inr none)], [.inl 0, .inl 256, .inl 32774, .inl x1, .inr (some a0)], M)) sm_a91_51 rfl rfl (st_iconst (by decide)) ?_
    refine ru_go (t := (54, [some (.inr (some a0)), some (.inl x1), some (.inl x2), some (.inl x3), some (.inr none)], [.inl 8, .inl 0, .inl 256, .inl 32774, .inl x1, .inr (some a0)], M)) sm_a91_52 rfl rfl (st_bipush (by decide)) ?_
    obtain ⟨h_2, h⟩ := h
    exact ru_call (p := 57) sm_a91_54 rfl (sc_virt (Or.inl rfl) rfl rfl h_2 (Nat.le_of_ble_eq_true rfl)) rfl h
  · by_cases hc_3 : x2 = 2
    · have h := h.2.1 hc_3
      refine ru_tsw (pc := 4) (v := 2) (p := 62) sm_a91_4 hc_3 (by decide) ?_
      refine ru_go (t := (63, [some (.inr (some a0)), some (.inl x1), some (.inl x2), some (.inl x3), some (.inr none)], [.inr (some a0)], M)) sm_a91_62 rfl rfl rfl ?_
      refine ru_go (t := (64, [some (.inr (some a0)), some (.inl x1), some (.inl x2), some (.inl x3), some (.inr none)], [.inl x1, .inr (some a0)], M)) sm_a91_63 rfl rfl rfl ?_
      refine ru_go (t := (65, [some (.inr (some a0)), some (.inl x1), some (.inl x2), some (.inl x3), some (.inr none)], [.inl 5, .inl x1, .inr (some a0)], M)) sm_a91_64 rfl rfl (st_iconst (by decide)) ?_
      refine ru_go (t := (66, [some (.inr (some a0)), some (.inl x1), some (.inl x2), some (.inl x3), some (.inr none)], [.inl x1, .inl 5, .inl x1, .inr (some a0)], M)) sm_a91_65 rfl rfl rfl ?_
      refine ru_go (t := (67, [some (.inr (some a0)), some (.inl x1), some (.inl x2), some (.inl x3), some (.inr none)], [.inl 1, .inl x1, .inl 5, .inl x1, .inr (some a0)], M)) sm_a91_66 rfl rfl (st_iconst (by decide)) ?_
      refine ru_go (t := (68, [some (.inr (some a0)), some (.inl x1), some (.inl x2), some (.inl x3), some (.inr none)], [.inl (x1 + 1), .inl 5, .inl x1, .inr (some a0)], M)) sm_a91_67 rfl rfl rfl ?_
      refine ru_go (t := (69, [some (.inr (some a0)), some (.inl x1), some (.inl x2), some (.inl x3), some (.inr none)], [.inl 0, .inl (x1 + 1), .inl 5, .inl x1, .inr (some a0)], M)) sm_a91_68 rfl rfl (st_iconst (by decide)) ?_
      refine ru_go (t := (70, [some (.inr (some a0)), some (.inl x1), some (.inl x2), some (.inl x3), some (.inr none)], [.inl 0, .inl 0, .inl (x1 + 1), .inl 5, .inl x1, .inr (some a0)], M)) sm_a91_69 rfl rfl (st_iconst (by decide)) ?_
      obtain ⟨h_4, h⟩ := h
      exact ru_call (p := 73) sm_a91_70 rfl (sc_virt (Or.inl rfl) rfl rfl h_4 (Nat.le_of_ble_eq_true rfl)) rfl h
    · by_cases hc_5 : x2 = 3
      · have h := h.2.2.1 hc_5
        refine ru_tsw (pc := 4) (v := 3) (p := 78) sm_a91_4 hc_5 (by decide) ?_
        refine ru_go (t := (79, [some (.inr (some a0)), some (.inl x1), some (.inl x2), some (.inl x3), some (.inr none)], [.inr (some a0)], M)) sm_a91_78 rfl rfl rfl ?_
        refine ru_go (t := (80, [some (.inr (some a0)), some (.inl x1), some (.inl x2), some (.inl x3), some (.inr none)], [.inl x1, .inr (some a0)], M)) sm_a91_79 rfl rfl rfl ?_
        refine ru_go (t := (82, [some (.inr (some a0)), some (.inl x1), some (.inl x2), some (.inl x3), some (.inr none)], [.inl 32774, .inl x1, .inr (some a0)], M)) sm_a91_80 rfl rfl (st_ldc (by decide)) ?_
        refine ru_go (t := (85, [some (.inr (some a0)), some (.inl x1), some (.inl x2), some (.inl x3), some (.inr none)], [.inl 256, .inl 32774, .inl x1, .inr (some a0)], M)) sm_a91_82 rfl rfl (st_sipush (by decide)) ?_
        refine ru_go (t := (86, [some (.inr (some a0)), some (.inl x1), some (.inl x2), some (.inl x3), some (.inr none)], [.inl 0, .inl 256, .inl 32774, .inl x1, .inr (some a0)], M)) sm_a91_85 rfl rfl (st_iconst (by decide)) ?_
        refine ru_go (t := (88, [some (.inr (some a0)), some (.inl x1), some (.inl x2), some (.inl x3), some (.inr none)], [.inl 18, .inl 0, .inl 256, .inl 32774, .inl x1, .inr (some a0)], M)) sm_a91_86 rfl rfl (st_bipush (by decide)) ?_
        obtain ⟨h_6, h⟩ := h
        exact ru_call (p := 91) sm_a91_88 rfl (sc_virt (Or.inl rfl) rfl rfl h_6 (Nat.le_of_ble_eq_true rfl)) rfl h
      · by_cases hc_7 : x2 = 4
        · have h := h.2.2.2.1 hc_7
          refine ru_tsw (pc := 4) (v := 4) (p := 96) sm_a91_4 hc_7 (by decide) ?_
          refine ru_go (t := (97, [some (.inr (some a0)), some (.inl x1), some (.inl x2), some (.inl x3), some (.inr none)], [.inr (some a0)], M)) sm_a91_96 rfl rfl rfl ?_
          refine ru_go (t := (98, [some (.inr (some a0)), some (.inl x1), some (.inl x2), some (.inl x3), some (.inr none)], [.inl x1, .inr (some a0)], M)) sm_a91_97 rfl rfl rfl ?_
          refine ru_go (t := (100, [some (.inr (some a0)), some (.inl x1), some (.inl x2), some (.inl x3), some (.inr none)], [.inl 32774, .inl x1, .inr (some a0)], M)) sm_a91_98 rfl rfl (st_ldc (by decide)) ?_
          refine ru_go (t := (103, [some (.inr (some a0)), some (.inl x1), some (.inl x2), some (.inl x3), some (.inr none)], [.inl 512, .inl 32774, .inl x1, .inr (some a0)], M)) sm_a91_100 rfl rfl (st_sipush (by decide)) ?_
          refine ru_go (t := (104, [some (.inr (some a0)), some (.inl x1), some (.inl x2), some (.inl x3), some (.inr none)], [.inl 0, .inl 512, .inl 32774, .inl x1, .inr (some a0)], M)) sm_a91_103 rfl rfl (st_iconst (by decide)) ?_
          refine ru_go (t := (106, [some (.inr (some a0)), some (.inl x1), some (.inl x2), some (.inl x3), some (.inr none)], [.inl 9, .inl 0, .inl 512, .inl 32774, .inl x1, .inr (some a0)], M)) sm_a91_104 rfl rfl (st_bipush (by decide)) ?_
          obtain ⟨h_8, h⟩ := h
          exact ru_call (p := 109) sm_a91_106 rfl (sc_virt (Or.inl rfl) rfl rfl h_8 (Nat.le_of_ble_eq_true rfl)) rfl h
        · by_cases hc_9 : x2 = 5
          · have h := h.2.2.2.2.1 hc_9
            refine ru_tsw (pc := 4) (v := 5) (p := 114) sm_a91_4 hc_9 (by decide) ?_
            refine ru_go (t := (115, [some (.inr (some a0)), some (.inl x1), some (.inl x2), some (.inl x3), some (.inr none)], [.inr (some a0)], M)) sm_a91_114 rfl rfl rfl ?_
            refine ru_go (t := (116, [some (.inr (some a0)), some (.inl x1), some (.inl x2), some (.inl x3), some (.inr none)], [.inl x1, .inr (some a0)], M)) sm_a91_115 rfl rfl rfl ?_
            refine ru_go (t := (118, [some (.inr (some a0)), some (.inl x1), some (.inl x2), some (.inl x3), some (.inr none)], [.inl 32774, .inl x1, .inr (some a0)], M)) sm_a91_116 rfl rfl (st_ldc (by decide)) ?_
            refine ru_go (t := (121, [some (.inr (some a0)), some (.inl x1), some (.inl x2), some (.inl x3), some (.inr none)], [.inl 512, .inl 32774, .inl x1, .inr (some a0)], M)) sm_a91_118 rfl rfl (st_sipush (by decide)) ?_
            refine ru_go (t := (122, [some (.inr (some a0)), some (.inl x1), some (.inl x2), some (.inl x3), some (.inr none)], [.inl 0, .inl 512, .inl 32774, .inl x1, .inr (some a0)], M)) sm_a91_121 rfl rfl (st_iconst (by decide)) ?_
            refine ru_go (t := (123, [some (.inr (some a0)), some (.inl x1), some (.inl x2), some (.inl x3), some (.inr none)], [.inl x3, .inl 0, .inl 512, .inl 32774, .inl x1, .inr (some a0)], M)) sm_a91_122 rfl rfl rfl ?_
            obtain ⟨h_10, h⟩ := h
            exact ru_call (p := 126) sm_a91_123 rfl (sc_virt (Or.inl rfl) rfl rfl h_10 (Nat.le_of_ble_eq_true rfl)) rfl h
          · by_cases hc_11 : x2 = 6
            · have h := h.2.2.2.2.2.1 hc_11
              refine ru_tsw (pc := 4) (v := 6) (p := 131) sm_a91_4 hc_11 (by decide) ?_
              refine ru_go (t := (132, [some (.inr (some a0)), some (.inl x1), some (.inl x2), some (.inl x3), some (.inr none)], [.inr (some a0)], M)) sm_a91_131 rfl rfl rfl ?_
              refine ru_go (t := (133, [some (.inr (some a0)), some (.inl x1), some (.inl x2), some (.inl x3), some (.inr none)], [.inl x1, .inr (some a0)], M)) sm_a91_132 rfl rfl rfl ?_
              refine ru_go (t := (135, [some (.inr (some a0)), some (.inl x1), some (.inl x2), some (.inl x3), some (.inr none)], [.inl 9, .inl x1, .inr (some a0)], M)) sm_a91_133 rfl rfl (st_bipush (by decide)) ?_
              refine ru_go (t := (136, [some (.inr (some a0)), some (.inl x1), some (.inl x2), some (.inl x3), some (.inr none)], [.inl 1, .inl 9, .inl x1, .inr (some a0)], M)) sm_a91_135 rfl rfl (st_iconst (by decide)) ?_
              refine ru_go (t := (137, [some (.inr (some a0)), some (.inl x1), some (.inl x2), some (.inl x3), some (.inr none)], [.inl 0, .inl 1, .inl 9, .inl x1, .inr (some a0)], M)) sm_a91_136 rfl rfl (st_iconst (by decide)) ?_
              refine ru_go (t := (138, [some (.inr (some a0)), some (.inl x1), some (.inl x2), some (.inl x3), some (.inr none)], [.inl 0, .inl 0, .inl 1, .inl 9, .inl x1, .inr (some a0)], M)) sm_a91_137 rfl rfl (st_iconst (by decide)) ?_
              obtain ⟨h_12, h⟩ := h
              exact ru_call (p := 141) sm_a91_138 rfl (sc_virt (Or.inl rfl) rfl rfl h_12 (Nat.le_of_ble_eq_true rfl)) rfl h
            · have h := h.2.2.2.2.2.2 hc_1 hc_3 hc_5 hc_7 hc_9 hc_11
              have zhc_1 := sm_ne_toInt hc_1; rw [show (1 : Int32).toInt = 1 by decide] at zhc_1
              have zhc_3 := sm_ne_toInt hc_3; rw [show (2 : Int32).toInt = 2 by decide] at zhc_3
              have zhc_5 := sm_ne_toInt hc_5; rw [show (3 : Int32).toInt = 3 by decide] at zhc_5
              have zhc_7 := sm_ne_toInt hc_7; rw [show (4 : Int32).toInt = 4 by decide] at zhc_7
              have zhc_9 := sm_ne_toInt hc_9; rw [show (5 : Int32).toInt = 5 by decide] at zhc_9
              have zhc_11 := sm_ne_toInt hc_11; rw [show (6 : Int32).toInt = 6 by decide] at zhc_11
              refine ru_tswd (pc := 4) (p := 146) sm_a91_4 (by omega) (by decide) ?_
              refine ru_go (t := (148, [some (.inr (some a0)), some (.inl x1), some (.inl x2), some (.inl x3), some (.inr none)], [.inr none], M)) sm_a91_146 rfl rfl rfl ?_
              refine ru_go (t := (157, [some (.inr (some a0)), some (.inl x1), some (.inl x2), some (.inl x3), some (.inr none)], [], M)) sm_a91_148 rfl rfl rfl ?_
              exact ru_ret sm_a91_157 (sm_rvv rfl) h
theorem bb_91_57 {d : Nat} {M : sm_M} {Q : Option sm_V → sm_M → Prop} {a0 : Nat} {x1 : Int32} {x2 : Int32} {x3 : Int32} {r4 : Option Nat} {t0 : Option Nat}
    (h : ((t0 = none → Q none M) ∧ (∀ b_1, t0 = some b_1 → sm_K M b_1 = 33 ∧ Q none (sm_putI M b_1 8 x2)))) :
    sm_Run (d + 1) 91 57 [some (.inr (some a0)), some (.inl x1), some (.inl x2), some (.inl x3), some (.inr r4)] [.inr t0] M Q := by
  refine ru_go (t := (59, [some (.inr (some a0)), some (.inl x1), some (.inl x2), some (.inl x3), some (.inr t0)], [], M)) sm_a91_57 rfl rfl rfl ?_
  refine ru_go (t := (146, [some (.inr (some a0)), some (.inl x1), some (.inl x2), some (.inl x3), some (.inr t0)], [], M)) sm_a91_59 rfl rfl (st_goto (pc := 59) (by decide)) ?_
  refine ru_go (t := (148, [some (.inr (some a0)), some (.inl x1), some (.inl x2), some (.inl x3), some (.inr t0)], [.inr t0], M)) sm_a91_146 rfl rfl rfl ?_
  refine ru_ifnull (pc := 148) (p := 157) (p2 := 151) sm_a91_148 (by decide) rfl ⟨fun hc => ?_, fun b_1 hc => ?_⟩
  · have h := h.1 hc
    try rw [hc]
    exact ru_ret sm_a91_157 (sm_rvv rfl) h
  · have h := h.2 b_1 hc
    try rw [hc]
    refine ru_go (t := (153, [some (.inr (some a0)), some (.inl x1), some (.inl x2), some (.inl x3), some (.inr (some b_1))], [.inr (some b_1)], M)) sm_a91_151 rfl rfl rfl ?_
    refine ru_go (t := (154, [some (.inr (some a0)), some (.inl x1), some (.inl x2), some (.inl x3), some (.inr (some b_1))], [.inl x2, .inr (some b_1)], M)) sm_a91_153 rfl rfl rfl ?_
    obtain ⟨h_3, h⟩ := h
    refine ru_go (t := (157, [some (.inr (some a0)), some (.inl x1), some (.inl x2), some (.inl x3), some (.inr (some b_1))], [], sm_putI M b_1 8 x2)) sm_a91_154 rfl rfl (st_putI h_3 rfl) ?_
    exact ru_ret sm_a91_157 (sm_rvv rfl) h
theorem bb_91_73 {d : Nat} {M : sm_M} {Q : Option sm_V → sm_M → Prop} {a0 : Nat} {x1 : Int32} {x2 : Int32} {x3 : Int32} {r4 : Option Nat} {t0 : Option Nat}
    (h : ((t0 = none → Q none M) ∧ (∀ b_1, t0 = some b_1 → sm_K M b_1 = 33 ∧ Q none (sm_putI M b_1 8 x2)))) :
    sm_Run (d + 1) 91 73 [some (.inr (some a0)), some (.inl x1), some (.inl x2), some (.inl x3), some (.inr r4)] [.inr t0] M Q := by
  refine ru_go (t := (75, [some (.inr (some a0)), some (.inl x1), some (.inl x2), some (.inl x3), some (.inr t0)], [], M)) sm_a91_73 rfl rfl rfl ?_
  refine ru_go (t := (146, [some (.inr (some a0)), some (.inl x1), some (.inl x2), some (.inl x3), some (.inr t0)], [], M)) sm_a91_75 rfl rfl (st_goto (pc := 75) (by decide)) ?_
  refine ru_go (t := (148, [some (.inr (some a0)), some (.inl x1), some (.inl x2), some (.inl x3), some (.inr t0)], [.inr t0], M)) sm_a91_146 rfl rfl rfl ?_
  refine ru_ifnull (pc := 148) (p := 157) (p2 := 151) sm_a91_148 (by decide) rfl ⟨fun hc => ?_, fun b_1 hc => ?_⟩
  · have h := h.1 hc
    try rw [hc]
    exact ru_ret sm_a91_157 (sm_rvv rfl) h
  · have h := h.2 b_1 hc
    try rw [hc]
    refine ru_go (t := (153, [some (.inr (some a0)), some (.inl x1), some (.inl x2), some (.inl x3), some (.inr (some b_1))], [.inr (some b_1)], M)) sm_a91_151 rfl rfl rfl ?_
    refine ru_go (t := (154, [some (.inr (some a0)), some (.inl x1), some (.inl x2), some (.inl x3), some (.inr (some b_1))], [.inl x2, .inr (some b_1)], M)) sm_a91_153 rfl rfl rfl ?_
    obtain ⟨h_3, h⟩ := h
    refine ru_go (t := (157, [some (.inr (some a0)), some (.inl x1), some (.inl x2), some (.inl x3), some (.inr (some b_1))], [], sm_putI M b_1 8 x2)) sm_a91_154 rfl rfl (st_putI h_3 rfl) ?_
    exact ru_ret sm_a91_157 (sm_rvv rfl) h
theorem bb_91_91 {d : Nat} {M : sm_M} {Q : Option sm_V → sm_M → Prop} {a0 : Nat} {x1 : Int32} {x2 : Int32} {x3 : Int32} {r4 : Option Nat} {t0 : Option Nat}
    (h : ((t0 = none → Q none M) ∧ (∀ b_1, t0 = some b_1 → sm_K M b_1 = 33 ∧ Q none (sm_putI M b_1 8 x2)))) :
    sm_Run (d + 1) 91 91 [some (.inr (some a0)), some (.inl x1), some (.inl x2), some (.inl x3), some (.inr r4)] [.inr t0] M Q := by
  refine ru_go (t := (93, [some (.inr (some a0)), some (.inl x1), some (.inl x2), some (.inl x3), some (.inr t0)], [], M)) sm_a91_91 rfl rfl rfl ?_
  refine ru_go (t := (146, [some (.inr (some a0)), some (.inl x1), some (.inl x2), some (.inl x3), some (.inr t0)], [], M)) sm_a91_93 rfl rfl (st_goto (pc := 93) (by decide)) ?_
  refine ru_go (t := (148, [some (.inr (some a0)), some (.inl x1), some (.inl x2), some (.inl x3), some (.inr t0)], [.inr t0], M)) sm_a91_146 rfl rfl rfl ?_
  refine ru_ifnull (pc := 148) (p := 157) (p2 := 151) sm_a91_148 (by decide) rfl ⟨fun hc => ?_, fun b_1 hc => ?_⟩
  · have h := h.1 hc
    try rw [hc]
    exact ru_ret sm_a91_157 (sm_rvv rfl) h
  · have h := h.2 b_1 hc
    try rw [hc]
    refine ru_go (t := (153, [some (.inr (some a0)), some (.inl x1), some (.inl x2), some (.inl x3), some (.inr (some b_1))], [.inr (some b_1)], M)) sm_a91_151 rfl rfl rfl ?_
    refine ru_go (t := (154, [some (.inr (some a0)), some (.inl x1), some (.inl x2), some (.inl x3), some (.inr (some b_1))], [.inl x2, .inr (some b_1)], M)) sm_a91_153 rfl rfl rfl ?_
    obtain ⟨h_3, h⟩ := h
    refine ru_go (t := (157, [some (.inr (some a0)), some (.inl x1), some (.inl x2), some (.inl x3), some (.inr (some b_1))], [], sm_putI M b_1 8 x2)) sm_a91_154 rfl rfl (st_putI h_3 rfl) ?_
    exact ru_ret sm_a91_157 (sm_rvv rfl) h
theorem bb_91_109 {d : Nat} {M : sm_M} {Q : Option sm_V → sm_M → Prop} {a0 : Nat} {x1 : Int32} {x2 : Int32} {x3 : Int32} {r4 : Option Nat} {t0 : Option Nat}
    (h : ((t0 = none → Q none M) ∧ (∀ b_1, t0 = some b_1 → sm_K M b_1 = 33 ∧ Q none (sm_putI M b_1 8 x2)))) :
    sm_Run (d + 1) 91 109 [some (.inr (some a0)), some (.inl x1), some (.inl x2), some (.inl x3), some (.inr r4)] [.inr t0] M Q := by
  refine ru_go (t := (111, [some (.inr (some a0)), some (.inl x1), some (.inl x2), some (.inl x3), some (.inr t0)], [], M)) sm_a91_109 rfl rfl rfl ?_
  refine ru_go (t := (146, [some (.inr (some a0)), some (.inl x1), some (.inl x2), some (.inl x3), some (.inr t0)], [], M)) sm_a91_111 rfl rfl (st_goto (pc := 111) (by decide)) ?_
  refine ru_go (t := (148, [some (.inr (some a0)), some (.inl x1), some (.inl x2), some (.inl x3), some (.inr t0)], [.inr t0], M)) sm_a91_146 rfl rfl rfl ?_
  refine ru_ifnull (pc := 148) (p := 157) (p2 := 151) sm_a91_148 (by decide) rfl ⟨fun hc => ?_, fun b_1 hc => ?_⟩
  · have h := h.1 hc
    try rw [hc]
    exact ru_ret sm_a91_157 (sm_rvv rfl) h
  · have h := h.2 b_1 hc
    try rw [hc]
    refine ru_go (t := (153, [some (.inr (some a0)), some (.inl x1), some (.inl x2), some (.inl x3), some (.inr (some b_1))], [.inr (some b_1)], M)) sm_a91_151 rfl rfl rfl ?_
    refine ru_go (t := (154, [some (.inr (some a0)), some (.inl x1), some (.inl x2), some (.inl x3), some (.inr (some b_1))], [.inl x2, .inr (some b_1)], M)) sm_a91_153 rfl rfl rfl ?_
    obtain ⟨h_3, h⟩ := h
    refine ru_go (t := (157, [some (.inr (some a0)), some (.inl x1), some (.inl x2), some (.inl x3), some (.inr (some b_1))], [], sm_putI M b_1 8 x2)) sm_a91_154 rfl rfl (st_putI h_3 rfl) ?_
    exact ru_ret sm_a91_157 (sm_rvv rfl) h
theorem bb_91_126 {d : Nat} {M : sm_M} {Q : Option sm_V → sm_M → Prop} {a0 : Nat} {x1 : Int32} {x2 : Int32} {x3 : Int32} {r4 : Option Nat} {t0 : Option Nat}
    (h : ((t0 = none → Q none M) ∧ (∀ b_1, t0 = some b_1 → sm_K M b_1 = 33 ∧ Q none (sm_putI M b_1 8 x2)))) :
    sm_Run (d + 1) 91 126 [some (.inr (some a0)), some (.inl x1), some (.inl x2), some (.inl x3), some (.inr r4)] [.inr t0] M Q := by
  refine ru_go (t := (128, [some (.inr (some a0)), some (.inl x1), some (.inl x2), some (.inl x3), some (.inr t0)], [], M)) sm_a91_126 rfl rfl rfl ?_
  refine ru_go (t := (146, [some (.inr (some a0)), some (.inl x1), some (.inl x2), some (.inl x3), some (.inr t0)], [], M)) sm_a91_128 rfl rfl (st_goto (pc := 128) (by decide)) ?_
  refine ru_go (t := (148, [some (.inr (some a0)), some (.inl x1), some (.inl x2), some (.inl x3), some (.inr t0)], [.inr t0], M)) sm_a91_146 rfl rfl rfl ?_
  refine ru_ifnull (pc := 148) (p := 157) (p2 := 151) sm_a91_148 (by decide) rfl ⟨fun hc => ?_, fun b_1 hc => ?_⟩
  · have h := h.1 hc
    try rw [hc]
    exact ru_ret sm_a91_157 (sm_rvv rfl) h
  · have h := h.2 b_1 hc
    try rw [hc]
    refine ru_go (t := (153, [some (.inr (some a0)), some (.inl x1), some (.inl x2), some (.inl x3), some (.inr (some b_1))], [.inr (some b_1)], M)) sm_a91_151 rfl rfl rfl ?_
    refine ru_go (t := (154, [some (.inr (some a0)), some (.inl x1), some (.inl x2), some (.inl x3), some (.inr (some b_1))], [.inl x2, .inr (some b_1)], M)) sm_a91_153 rfl rfl rfl ?_
    obtain ⟨h_3, h⟩ := h
    refine ru_go (t := (157, [some (.inr (some a0)), some (.inl x1), some (.inl x2), some (.inl x3), some (.inr (some b_1))], [], sm_putI M b_1 8 x2)) sm_a91_154 rfl rfl (st_putI h_3 rfl) ?_
    exact ru_ret sm_a91_157 (sm_rvv rfl) h
theorem bb_91_141 {d : Nat} {M : sm_M} {Q : Option sm_V → sm_M → Prop} {a0 : Nat} {x1 : Int32} {x2 : Int32} {x3 : Int32} {r4 : Option Nat} {t0 : Option Nat}
    (h : ((t0 = none → Q none M) ∧ (∀ b_1, t0 = some b_1 → sm_K M b_1 = 33 ∧ Q none (sm_putI M b_1 8 x2)))) :
    sm_Run (d + 1) 91 141 [some (.inr (some a0)), some (.inl x1), some (.inl x2), some (.inl x3), some (.inr r4)] [.inr t0] M Q := by
  refine ru_go (t := (143, [some (.inr (some a0)), some (.inl x1), some (.inl x2), some (.inl x3), some (.inr t0)], [], M)) sm_a91_141 rfl rfl rfl ?_
  refine ru_go (t := (146, [some (.inr (some a0)), some (.inl x1), some (.inl x2), some (.inl x3), some (.inr t0)], [], M)) sm_a91_143 rfl rfl (st_goto (pc := 143) (by decide)) ?_
  refine ru_go (t := (148, [some (.inr (some a0)), some (.inl x1), some (.inl x2), some (.inl x3), some (.inr t0)], [.inr t0], M)) sm_a91_146 rfl rfl rfl ?_
  refine ru_ifnull (pc := 148) (p := 157) (p2 := 151) sm_a91_148 (by decide) rfl ⟨fun hc => ?_, fun b_1 hc => ?_⟩
  · have h := h.1 hc
    try rw [hc]
    exact ru_ret sm_a91_157 (sm_rvv rfl) h
  · have h := h.2 b_1 hc
    try rw [hc]
    refine ru_go (t := (153, [some (.inr (some a0)), some (.inl x1), some (.inl x2), some (.inl x3), some (.inr (some b_1))], [.inr (some b_1)], M)) sm_a91_151 rfl rfl rfl ?_
    refine ru_go (t := (154, [some (.inr (some a0)), some (.inl x1), some (.inl x2), some (.inl x3), some (.inr (some b_1))], [.inl x2, .inr (some b_1)], M)) sm_a91_153 rfl rfl rfl ?_
    obtain ⟨h_3, h⟩ := h
    refine ru_go (t := (157, [some (.inr (some a0)), some (.inl x1), some (.inl x2), some (.inl x3), some (.inr (some b_1))], [], sm_putI M b_1 8 x2)) sm_a91_154 rfl rfl (st_putI h_3 rfl) ?_
    exact ru_ret sm_a91_157 (sm_rvv rfl) h

/-! WireBus$Host.forget:(I)V -/
theorem sm_a92_0 : sm_at 92 0 = some (.aload_n 0, 1, (0, 0, 0, 0)) := by decide +kernel
theorem sm_a92_1 : sm_at 92 1 = some (.getfield 15, 3, (6, 0, 0, 424)) := by decide +kernel
theorem sm_a92_4 : sm_at 92 4 = some (.iload_n 1, 1, (0, 0, 0, 0)) := by decide +kernel
theorem sm_a92_5 : sm_at 92 5 = some (.aaload, 1, (0, 0, 0, 0)) := by decide +kernel
theorem sm_a92_6 : sm_at 92 6 = some (.iconst 0, 1, (0, 0, 0, 0)) := by decide +kernel
theorem sm_a92_7 : sm_at 92 7 = some (.invokevirtual 83, 3, (10, 112, 8, 602)) := by decide +kernel
theorem sm_a92_10 : sm_at 92 10 = some (.iconst 0, 1, (0, 0, 0, 0)) := by decide +kernel
theorem sm_a92_11 : sm_at 92 11 = some (.istore_n 2, 1, (0, 0, 0, 0)) := by decide +kernel
theorem sm_a92_12 : sm_at 92 12 = some (.iload_n 2, 1, (0, 0, 0, 0)) := by decide +kernel
theorem sm_a92_13 : sm_at 92 13 = some (.aload_n 0, 1, (0, 0, 0, 0)) := by decide +kernel
theorem sm_a92_14 : sm_at 92 14 = some (.getfield 39, 3, (6, 2, 0, 428)) := by decide +kernel
theorem sm_a92_17 : sm_at 92 17 = some (.if_icmp .ge 54, 3, (0, 0, 0, 0)) := by decide +kernel
theorem sm_a92_20 : sm_at 92 20 = some (.aload_n 0, 1, (0, 0, 0, 0)) := by decide +kernel
theorem sm_a92_21 : sm_at 92 21 = some (.getfield 21, 3, (6, 1, 0, 426)) := by decide +kernel
theorem sm_a92_24 : sm_at 92 24 = some (.iload_n 2, 1, (0, 0, 0, 0)) := by decide +kernel
theorem sm_a92_25 : sm_at 92 25 = some (.aaload, 1, (0, 0, 0, 0)) := by decide +kernel
theorem sm_a92_26 : sm_at 92 26 = some (.getfield 93, 3, (10, 0, 1, 623)) := by decide +kernel
theorem sm_a92_29 : sm_at 92 29 = some (.iload_n 1, 1, (0, 0, 0, 0)) := by decide +kernel
theorem sm_a92_30 : sm_at 92 30 = some (.if_icmp .ne 35, 3, (0, 0, 0, 0)) := by decide +kernel
theorem sm_a92_33 : sm_at 92 33 = some (.aload_n 0, 1, (0, 0, 0, 0)) := by decide +kernel
theorem sm_a92_34 : sm_at 92 34 = some (.getfield 21, 3, (6, 1, 0, 426)) := by decide +kernel
theorem sm_a92_37 : sm_at 92 37 = some (.iload_n 2, 1, (0, 0, 0, 0)) := by decide +kernel
theorem sm_a92_38 : sm_at 92 38 = some (.aaload, 1, (0, 0, 0, 0)) := by decide +kernel
theorem sm_a92_39 : sm_at 92 39 = some (.getfield 96, 3, (10, 11, 1, 646)) := by decide +kernel
theorem sm_a92_42 : sm_at 92 42 = some (.ifCond .ne 23, 3, (0, 0, 0, 0)) := by decide +kernel
theorem sm_a92_45 : sm_at 92 45 = some (.aload_n 0, 1, (0, 0, 0, 0)) := by decide +kernel
theorem sm_a92_46 : sm_at 92 46 = some (.getfield 21, 3, (6, 1, 0, 426)) := by decide +kernel
theorem sm_a92_49 : sm_at 92 49 = some (.iload_n 2, 1, (0, 0, 0, 0)) := by decide +kernel
theorem sm_a92_50 : sm_at 92 50 = some (.aaload, 1, (0, 0, 0, 0)) := by decide +kernel
theorem sm_a92_51 : sm_at 92 51 = some (.iconst 3, 1, (0, 0, 0, 0)) := by decide +kernel
theorem sm_a92_52 : sm_at 92 52 = some (.putfield 96, 3, (10, 11, 1, 646)) := by decide +kernel
theorem sm_a92_55 : sm_at 92 55 = some (.aload_n 0, 1, (0, 0, 0, 0)) := by decide +kernel
theorem sm_a92_56 : sm_at 92 56 = some (.dup, 1, (0, 0, 0, 0)) := by decide +kernel
theorem sm_a92_57 : sm_at 92 57 = some (.getfield 42, 3, (6, 3, 0, 430)) := by decide +kernel
theorem sm_a92_60 : sm_at 92 60 = some (.iconst 1, 1, (0, 0, 0, 0)) := by decide +kernel
theorem sm_a92_61 : sm_at 92 61 = some (.isub, 1, (0, 0, 0, 0)) := by decide +kernel
theorem sm_a92_62 : sm_at 92 62 = some (.putfield 42, 3, (6, 3, 0, 430)) := by decide +kernel
theorem sm_a92_65 : sm_at 92 65 = some (.iinc 2 1, 3, (0, 0, 0, 0)) := by decide +kernel
theorem sm_a92_68 : sm_at 92 68 = some (.goto (-56), 3, (0, 0, 0, 0)) := by decide +kernel
theorem sm_a92_71 : sm_at 92 71 = some (.return_, 1, (0, 0, 0, 0)) := by decide +kernel
theorem bb_92_0 {d : Nat} {M : sm_M} {Q : Option sm_V → sm_M → Prop} {a0 : Nat} {x1 : Int32} {z2 : Option sm_V}
    (h : sm_K M a0 = 21 ∧ ∃ b_2, sm_R M a0 0 = some b_2 ∧ (∃ ci, sm_K M b_2 = 4 + 3 * ci) ∧ sm_in_ M b_2 x1 ∧ ∃ b_6, sm_R M b_2 (x1).toNatClampNeg = some b_6 ∧ sm_K M b_6 = 27 ∧ sm_Run d 112 0 (sm_ent 112 [.inr (some b_6), .inl 0]) [] M (fun v M1 => sm_Run (d + 1) 92 10 [some (.inr (some a0)), some (.inl x1), z2] (v.toList ++ []) M1 Q)) :
    sm_Run (d + 1) 92 0 [some (.inr (some a0)), some (.inl x1), z2] [] M Q := by
  refine ru_go (t := (1, [some (.inr (some a0)), some (.inl x1), z2], [.inr (some a0)], M)) sm_a92_0 rfl rfl rfl ?_
  obtain ⟨h_1, h⟩ := h
  refine ru_go (t := (4, [some (.inr (some a0)), some (.inl x1), z2], [.inr (sm_R M a0 0)], M)) sm_a92_1 rfl rfl (st_getR h_1 rfl rfl) ?_
  refine ru_go (t := (5, [some (.inr (some a0)), some (.inl x1), z2], [.inl x1, .inr (sm_R M a0 0)], M)) sm_a92_4 rfl rfl rfl ?_
  obtain ⟨b_2, hb_3, h⟩ := h
  rw [hb_3]
  obtain ⟨h_4, h⟩ := h
  obtain ⟨h_5, h⟩ := h
  refine ru_go (t := (6, [some (.inr (some a0)), some (.inl x1), z2], [.inr (sm_R M b_2 (x1).toNatClampNeg)], M)) sm_a92_5 rfl rfl (st_aald h_4.choose_spec h_5 rfl) ?_
  refine ru_go (t := (7, [some (.inr (some a0)), some (.inl x1), z2], [.inl 0, .inr (sm_R M b_2 (x1).toNatClampNeg)], M)) sm_a92_6 rfl rfl (st_iconst (by decide)) ?_
  obtain ⟨b_6, hb_7, h⟩ := h
  rw [hb_7]
  obtain ⟨h_8, h⟩ := h
  exact ru_call (p := 10) sm_a92_7 rfl (sc_virt (Or.inl rfl) rfl rfl h_8 (Nat.le_of_ble_eq_true rfl)) rfl h
theorem bb_92_10 {d : Nat} {M : sm_M} {Q : Option sm_V → sm_M → Prop} {a0 : Nat} {x1 : Int32} {z2 : Option sm_V}
    (h : sm_Run (d + 1) 92 12 [some (.inr (some a0)), some (.inl x1), some (.inl 0)] [] M Q) :
    sm_Run (d + 1) 92 10 [some (.inr (some a0)), some (.inl x1), z2] [] M Q := by
  refine ru_go (t := (11, [some (.inr (some a0)), some (.inl x1), z2], [.inl 0], M)) sm_a92_10 rfl rfl (st_iconst (by decide)) ?_
  refine ru_go (t := (12, [some (.inr (some a0)), some (.inl x1), some (.inl 0)], [], M)) sm_a92_11 rfl rfl rfl ?_
  exact h
theorem bb_92_12 {d : Nat} {M : sm_M} {Q : Option sm_V → sm_M → Prop} {a0 : Nat} {x1 : Int32} {x2 : Int32}
    (h : sm_K M a0 = 21 ∧ (((sm_I M a0 2) ≤ x2 → Q none M) ∧ (¬ ((sm_I M a0 2) ≤ x2) → ∃ b_3, sm_R M a0 1 = some b_3 ∧ (∃ ci, sm_K M b_3 = 4 + 3 * ci) ∧ sm_in_ M b_3 x2 ∧ ∃ b_7, sm_R M b_3 (x2).toNatClampNeg = some b_7 ∧ sm_K M b_7 = 33 ∧ ((¬ (sm_I M b_7 0) = x1 → sm_Run (d + 1) 92 12 [some (.inr (some a0)), some (.inl x1), some (.inl (x2 + 1))] [] M Q) ∧ (¬ (¬ (sm_I M b_7 0) = x1) → ∃ b_11, sm_R M a0 1 = some b_11 ∧ (∃ ci, sm_K M b_11 = 4 + 3 * ci) ∧ sm_in_ M b_11 x2 ∧ ∃ b_15, sm_R M b_11 (x2).toNatClampNeg = some b_15 ∧ sm_K M b_15 = 33 ∧ ((¬ (sm_I M b_15 11) = 0 → sm_Run (d + 1) 92 12 [some (.inr (some a0)), some (.inl x1), some (.inl (x2 + 1))] [] M Q) ∧ (¬ (¬ (sm_I M b_15 11) = 0) → ∃ b_19, sm_R M a0 1 = some b_19 ∧ (∃ ci, sm_K M b_19 = 4 + 3 * ci) ∧ sm_in_ M b_19 x2 ∧ ∃ b_23, sm_R M b_19 (x2).toNatClampNeg = some b_23 ∧ sm_K M b_23 = 33 ∧ sm_Run (d + 1) 92 12 [some (.inr (some a0)), some (.inl x1), some (.inl (x2 + 1))] [] (sm_putI (sm_putI M b_23 11 3) a0 3 ((sm_I (sm_putI M b_23 11 3) a0 3) - 1)) Q))))))) :
    sm_Run (d + 1) 92 12 [some (.inr (some a0)), some (.inl x1), some (.inl x2)] [] M Q := by
  refine ru_go (t := (13, [some (.inr (some a0)), some (.inl x1), some (.inl x2)], [.inl x2], M)) sm_a92_12 rfl rfl rfl ?_
  refine ru_go (t := (14, [some (.inr (some a0)), some (.inl x1), some (.inl x2)], [.inr (some a0), .inl x2], M)) sm_a92_13 rfl rfl rfl ?_
  obtain ⟨h_1, h⟩ := h
  refine ru_go (t := (17, [some (.inr (some a0)), some (.inl x1), some (.inl x2)], [.inl (sm_I M a0 2), .inl x2], M)) sm_a92_14 rfl rfl (st_getI h_1 rfl) ?_
  refine ru_icmp (pc := 17) (p := 71) (p2 := 20) sm_a92_17 (by decide) rfl ⟨fun hc_2 => ?_, fun hc_2 => ?_⟩
  · have h := h.1 hc_2
    exact ru_ret sm_a92_71 (sm_rvv rfl) h
  · have h := h.2 hc_2
    refine ru_go (t := (21, [some (.inr (some a0)), some (.inl x1), some (.inl x2)], [.inr (some a0)], M)) sm_a92_20 rfl rfl rfl ?_
    refine ru_go (t := (24, [some (.inr (some a0)), some (.inl x1), some (.inl x2)], [.inr (sm_R M a0 1)], M)) sm_a92_21 rfl rfl (st_getR h_1 rfl rfl) ?_
    refine ru_go (t := (25, [some (.inr (some a0)), some (.inl x1), some (.inl x2)], [.inl x2, .inr (sm_R M a0 1)], M)) sm_a92_24 rfl rfl rfl ?_
    obtain ⟨b_3, hb_4, h⟩ := h
    rw [hb_4]
    obtain ⟨h_5, h⟩ := h
    obtain ⟨h_6, h⟩ := h
    refine ru_go (t := (26, [some (.inr (some a0)), some (.inl x1), some (.inl x2)], [.inr (sm_R M b_3 (x2).toNatClampNeg)], M)) sm_a92_25 rfl rfl (st_aald h_5.choose_spec h_6 rfl) ?_
    obtain ⟨b_7, hb_8, h⟩ := h
    rw [hb_8]
    obtain ⟨h_9, h⟩ := h
    refine ru_go (t := (29, [some (.inr (some a0)), some (.inl x1), some (.inl x2)], [.inl (sm_I M b_7 0)], M)) sm_a92_26 rfl rfl (st_getI h_9 rfl) ?_
    refine ru_go (t := (30, [some (.inr (some a0)), some (.inl x1), some (.inl x2)], [.inl x1, .inl (sm_I M b_7 0)], M)) sm_a92_29 rfl rfl rfl ?_
    refine ru_icmp (pc := 30) (p := 65) (p2 := 33) sm_a92_30 (by decide) rfl ⟨fun hc_10 => ?_, fun hc_10 => ?_⟩
    · have h := h.1 hc_10
      refine ru_go (t := (68, [some (.inr (some a0)), some (.inl x1), some (.inl (x2 + 1))], [], M)) sm_a92_65 rfl rfl (st_iinc rfl (by decide)) ?_
      refine ru_go (t := (12, [some (.inr (some a0)), some (.inl x1), some (.inl (x2 + 1))], [], M)) sm_a92_68 rfl rfl (st_goto (pc := 68) (by decide)) ?_
      exact h
    · have h := h.2 hc_10
      refine ru_go (t := (34, [some (.inr (some a0)), some (.inl x1), some (.inl x2)], [.inr (some a0)], M)) sm_a92_33 rfl rfl rfl ?_
      refine ru_go (t := (37, [some (.inr (some a0)), some (.inl x1), some (.inl x2)], [.inr (sm_R M a0 1)], M)) sm_a92_34 rfl rfl (st_getR h_1 rfl rfl) ?_
      refine ru_go (t := (38, [some (.inr (some a0)), some (.inl x1), some (.inl x2)], [.inl x2, .inr (sm_R M a0 1)], M)) sm_a92_37 rfl rfl rfl ?_
      obtain ⟨b_11, hb_12, h⟩ := h
      rw [hb_12]
      obtain ⟨h_13, h⟩ := h
      obtain ⟨h_14, h⟩ := h
      refine ru_go (t := (39, [some (.inr (some a0)), some (.inl x1), some (.inl x2)], [.inr (sm_R M b_11 (x2).toNatClampNeg)], M)) sm_a92_38 rfl rfl (st_aald h_13.choose_spec h_14 rfl) ?_
      obtain ⟨b_15, hb_16, h⟩ := h
      rw [hb_16]
      obtain ⟨h_17, h⟩ := h
      refine ru_go (t := (42, [some (.inr (some a0)), some (.inl x1), some (.inl x2)], [.inl (sm_I M b_15 11)], M)) sm_a92_39 rfl rfl (st_getI h_17 rfl) ?_
      refine ru_if (pc := 42) (p := 65) (p2 := 45) sm_a92_42 (by decide) rfl ⟨fun hc_18 => ?_, fun hc_18 => ?_⟩
      · have h := h.1 hc_18
        refine ru_go (t := (68, [some (.inr (some a0)), some (.inl x1), some (.inl (x2 + 1))], [], M)) sm_a92_65 rfl rfl (st_iinc rfl (by decide)) ?_
        refine ru_go (t := (12, [some (.inr (some a0)), some (.inl x1), some (.inl (x2 + 1))], [], M)) sm_a92_68 rfl rfl (st_goto (pc := 68) (by decide)) ?_
        exact h
      · have h := h.2 hc_18
        refine ru_go (t := (46, [some (.inr (some a0)), some (.inl x1), some (.inl x2)], [.inr (some a0)], M)) sm_a92_45 rfl rfl rfl ?_
        refine ru_go (t := (49, [some (.inr (some a0)), some (.inl x1), some (.inl x2)], [.inr (sm_R M a0 1)], M)) sm_a92_46 rfl rfl (st_getR h_1 rfl rfl) ?_
        refine ru_go (t := (50, [some (.inr (some a0)), some (.inl x1), some (.inl x2)], [.inl x2, .inr (sm_R M a0 1)], M)) sm_a92_49 rfl rfl rfl ?_
        obtain ⟨b_19, hb_20, h⟩ := h
        rw [hb_20]
        obtain ⟨h_21, h⟩ := h
        obtain ⟨h_22, h⟩ := h
        refine ru_go (t := (51, [some (.inr (some a0)), some (.inl x1), some (.inl x2)], [.inr (sm_R M b_19 (x2).toNatClampNeg)], M)) sm_a92_50 rfl rfl (st_aald h_21.choose_spec h_22 rfl) ?_
        refine ru_go (t := (52, [some (.inr (some a0)), some (.inl x1), some (.inl x2)], [.inl 3, .inr (sm_R M b_19 (x2).toNatClampNeg)], M)) sm_a92_51 rfl rfl (st_iconst (by decide)) ?_
        obtain ⟨b_23, hb_24, h⟩ := h
        rw [hb_24]
        obtain ⟨h_25, h⟩ := h
        refine ru_go (t := (55, [some (.inr (some a0)), some (.inl x1), some (.inl x2)], [], sm_putI M b_23 11 3)) sm_a92_52 rfl rfl (st_putI h_25 rfl) ?_
        refine ru_go (t := (56, [some (.inr (some a0)), some (.inl x1), some (.inl x2)], [.inr (some a0)], sm_putI M b_23 11 3)) sm_a92_55 rfl rfl rfl ?_
        refine ru_go (t := (57, [some (.inr (some a0)), some (.inl x1), some (.inl x2)], [.inr (some a0), .inr (some a0)], sm_putI M b_23 11 3)) sm_a92_56 rfl rfl rfl ?_
        refine ru_go (t := (60, [some (.inr (some a0)), some (.inl x1), some (.inl x2)], [.inl (sm_I (sm_putI M b_23 11 3) a0 3), .inr (some a0)], sm_putI M b_23 11 3)) sm_a92_57 rfl rfl (st_getI h_1 rfl) ?_
        refine ru_go (t := (61, [some (.inr (some a0)), some (.inl x1), some (.inl x2)], [.inl 1, .inl (sm_I (sm_putI M b_23 11 3) a0 3), .inr (some a0)], sm_putI M b_23 11 3)) sm_a92_60 rfl rfl (st_iconst (by decide)) ?_
        refine ru_go (t := (62, [some (.inr (some a0)), some (.inl x1), some (.inl x2)], [.inl ((sm_I (sm_putI M b_23 11 3) a0 3) - 1), .inr (some a0)], sm_putI M b_23 11 3)) sm_a92_61 rfl rfl rfl ?_
        refine ru_go (t := (65, [some (.inr (some a0)), some (.inl x1), some (.inl x2)], [], sm_putI (sm_putI M b_23 11 3) a0 3 ((sm_I (sm_putI M b_23 11 3) a0 3) - 1))) sm_a92_62 rfl rfl (st_putI h_1 rfl) ?_
        refine ru_go (t := (68, [some (.inr (some a0)), some (.inl x1), some (.inl (x2 + 1))], [], sm_putI (sm_putI M b_23 11 3) a0 3 ((sm_I (sm_putI M b_23 11 3) a0 3) - 1))) sm_a92_65 rfl rfl (st_iinc rfl (by decide)) ?_
        refine ru_go (t := (12, [some (.inr (some a0)), some (.inl x1), some (.inl (x2 + 1))], [], sm_putI (sm_putI M b_23 11 3) a0 3 ((sm_I (sm_putI M b_23 11 3) a0 3) - 1))) sm_a92_68 rfl rfl (st_goto (pc := 68) (by decide)) ?_
        exact h

/-! WireBus$Host.beginFrame:(LWireBus$Wire;)V -/
theorem sm_a93_0 : sm_at 93 0 = some (.aload_n 1, 1, (0, 0, 0, 0)) := by decide +kernel
theorem sm_a93_1 : sm_at 93 1 = some (.iconst (-1), 1, (0, 0, 0, 0)) := by decide +kernel
theorem sm_a93_2 : sm_at 93 2 = some (.iconst 5, 1, (0, 0, 0, 0)) := by decide +kernel
theorem sm_a93_3 : sm_at 93 3 = some (.invokevirtual 99, 3, (10, 142, 11, 752)) := by decide +kernel
theorem sm_a93_6 : sm_at 93 6 = some (.aload_n 0, 1, (0, 0, 0, 0)) := by decide +kernel
theorem sm_a93_7 : sm_at 93 7 = some (.getfield 105, 3, (6, 5, 0, 433)) := by decide +kernel
theorem sm_a93_10 : sm_at 93 10 = some (.putfield 108, 3, (7, 2, 1, 155)) := by decide +kernel
theorem sm_a93_13 : sm_at 93 13 = some (.aload_n 1, 1, (0, 0, 0, 0)) := by decide +kernel
theorem sm_a93_14 : sm_at 93 14 = some (.invokevirtual 113, 3, (10, 143, 11, 760)) := by decide +kernel
theorem sm_a93_17 : sm_at 93 17 = some (.pop, 1, (0, 0, 0, 0)) := by decide +kernel
theorem sm_a93_18 : sm_at 93 18 = some (.aload_n 0, 1, (0, 0, 0, 0)) := by decide +kernel
theorem sm_a93_19 : sm_at 93 19 = some (.iconst 0, 1, (0, 0, 0, 0)) := by decide +kernel
theorem sm_a93_20 : sm_at 93 20 = some (.putfield 117, 3, (6, 7, 0, 436)) := by decide +kernel
theorem sm_a93_23 : sm_at 93 23 = some (.return_, 1, (0, 0, 0, 0)) := by decide +kernel
theorem bb_93_0 {d : Nat} {M : sm_M} {Q : Option sm_V → sm_M → Prop} {a0 : Nat} {r1 : Option Nat}
    (h : ∃ b_1, r1 = some b_1 ∧ sm_K M b_1 = 36 ∧ sm_Run d 142 0 (sm_ent 142 [.inr (some b_1), .inl (-1), .inl 5]) [] M (fun v M1 => sm_Run (d + 1) 93 6 [some (.inr (some a0)), some (.inr (some b_1))] (v.toList ++ []) M1 Q)) :
    sm_Run (d + 1) 93 0 [some (.inr (some a0)), some (.inr r1)] [] M Q := by
  refine ru_go (t := (1, [some (.inr (some a0)), some (.inr r1)], [.inr r1], M)) sm_a93_0 rfl rfl rfl ?_
  refine ru_go (t := (2, [some (.inr (some a0)), some (.inr r1)], [.inl (-1), .inr r1], M)) sm_a93_1 rfl rfl (st_iconst (by decide)) ?_
  refine ru_go (t := (3, [some (.inr (some a0)), some (.inr r1)], [.inl 5, .inl (-1), .inr r1], M)) sm_a93_2 rfl rfl (st_iconst (by decide)) ?_
  obtain ⟨b_1, hb_2, h⟩ := h
  rw [hb_2]
  obtain ⟨h_3, h⟩ := h
  exact ru_call (p := 6) sm_a93_3 rfl (sc_virt (Or.inl rfl) rfl rfl h_3 (Nat.le_of_ble_eq_true rfl)) rfl h
theorem bb_93_6 {d : Nat} {M : sm_M} {Q : Option sm_V → sm_M → Prop} {a0 : Nat} {r1 : Option Nat} {t0 : Option Nat}
    (h : sm_K M a0 = 21 ∧ ∃ b_2, t0 = some b_2 ∧ sm_K M b_2 = 24 ∧ ∃ b_5, r1 = some b_5 ∧ sm_K M b_5 = 36 ∧ sm_Run d 143 0 (sm_ent 143 [.inr (some b_5)]) [] (sm_putI M b_2 2 (sm_I M a0 5)) (fun v M1 => sm_Run (d + 1) 93 17 [some (.inr (some a0)), some (.inr (some b_5))] (v.toList ++ []) M1 Q)) :
    sm_Run (d + 1) 93 6 [some (.inr (some a0)), some (.inr r1)] [.inr t0] M Q := by
  refine ru_go (t := (7, [some (.inr (some a0)), some (.inr r1)], [.inr (some a0), .inr t0], M)) sm_a93_6 rfl rfl rfl ?_
  obtain ⟨h_1, h⟩ := h
  refine ru_go (t := (10, [some (.inr (some a0)), some (.inr r1)], [.inl (sm_I M a0 5), .inr t0], M)) sm_a93_7 rfl rfl (st_getI h_1 rfl) ?_
  obtain ⟨b_2, hb_3, h⟩ := h
  rw [hb_3]
  obtain ⟨h_4, h⟩ := h
  refine ru_go (t := (13, [some (.inr (some a0)), some (.inr r1)], [], sm_putI M b_2 2 (sm_I M a0 5))) sm_a93_10 rfl rfl (st_putI h_4 rfl) ?_
  refine ru_go (t := (14, [some (.inr (some a0)), some (.inr r1)], [.inr r1], sm_putI M b_2 2 (sm_I M a0 5))) sm_a93_13 rfl rfl rfl ?_
  obtain ⟨b_5, hb_6, h⟩ := h
  rw [hb_6]
  obtain ⟨h_7, h⟩ := h
  exact ru_call (p := 17) sm_a93_14 rfl (sc_virt (Or.inl rfl) rfl rfl h_7 (Nat.le_of_ble_eq_true rfl)) rfl h
theorem bb_93_17 {d : Nat} {M : sm_M} {Q : Option sm_V → sm_M → Prop} {a0 : Nat} {r1 : Option Nat} {t0 : Option Nat}
    (h : sm_K M a0 = 21 ∧ Q none (sm_putI M a0 7 0)) :
    sm_Run (d + 1) 93 17 [some (.inr (some a0)), some (.inr r1)] [.inr t0] M Q := by
  refine ru_go (t := (18, [some (.inr (some a0)), some (.inr r1)], [], M)) sm_a93_17 rfl rfl rfl ?_
  refine ru_go (t := (19, [some (.inr (some a0)), some (.inr r1)], [.inr (some a0)], M)) sm_a93_18 rfl rfl rfl ?_
  refine ru_go (t := (20, [some (.inr (some a0)), some (.inr r1)], [.inl 0, .inr (some a0)], M)) sm_a93_19 rfl rfl (st_iconst (by decide)) ?_
  obtain ⟨h_1, h⟩ := h
  refine ru_go (t := (23, [some (.inr (some a0)), some (.inr r1)], [], sm_putI M a0 7 0)) sm_a93_20 rfl rfl (st_putI h_1 rfl) ?_
  exact ru_ret sm_a93_23 (sm_rvv rfl) h

/-! WireBus$Host.endFrame:()V -/
theorem sm_a94_0 : sm_at 94 0 = some (.aload_n 0, 1, (0, 0, 0, 0)) := by decide +kernel
theorem sm_a94_1 : sm_at 94 1 = some (.aload_n 0, 1, (0, 0, 0, 0)) := by decide +kernel
theorem sm_a94_2 : sm_at 94 2 = some (.getfield 105, 3, (6, 5, 0, 433)) := by decide +kernel
theorem sm_a94_5 : sm_at 94 5 = some (.iconst 1, 1, (0, 0, 0, 0)) := by decide +kernel
theorem sm_a94_6 : sm_at 94 6 = some (.iadd, 1, (0, 0, 0, 0)) := by decide +kernel
theorem sm_a94_7 : sm_at 94 7 = some (.sipush 2048, 3, (0, 0, 0, 0)) := by decide +kernel
theorem sm_a94_10 : sm_at 94 10 = some (.irem, 1, (0, 0, 0, 0)) := by decide +kernel
theorem sm_a94_11 : sm_at 94 11 = some (.putfield 105, 3, (6, 5, 0, 433)) := by decide +kernel
theorem sm_a94_14 : sm_at 94 14 = some (.aload_n 0, 1, (0, 0, 0, 0)) := by decide +kernel
theorem sm_a94_15 : sm_at 94 15 = some (.dup, 1, (0, 0, 0, 0)) := by decide +kernel
theorem sm_a94_16 : sm_at 94 16 = some (.getfield 120, 3, (6, 6, 0, 435)) := by decide +kernel
theorem sm_a94_19 : sm_at 94 19 = some (.iconst 1, 1, (0, 0, 0, 0)) := by decide +kernel
theorem sm_a94_20 : sm_at 94 20 = some (.iadd, 1, (0, 0, 0, 0)) := by decide +kernel
theorem sm_a94_21 : sm_at 94 21 = some (.putfield 120, 3, (6, 6, 0, 435)) := by decide +kernel
theorem sm_a94_24 : sm_at 94 24 = some (.return_, 1, (0, 0, 0, 0)) := by decide +kernel
theorem bb_94_0 {d : Nat} {M : sm_M} {Q : Option sm_V → sm_M → Prop} {a0 : Nat}
    (h : sm_K M a0 = 21 ∧ Q none (sm_putI (sm_putI M a0 5 (((sm_I M a0 5) + 1) - ((sm_I M a0 5) + 1) / 2048 * 2048)) a0 6 ((sm_I (sm_putI M a0 5 (((sm_I M a0 5) + 1) - ((sm_I M a0 5) + 1) / 2048 * 2048)) a0 6) + 1))) :
    sm_Run d 94 0 [some (.inr (some a0))] [] M Q := by
  refine ru_go (t := (1, [some (.inr (some a0))], [.inr (some a0)], M)) sm_a94_0 rfl rfl rfl ?_
  refine ru_go (t := (2, [some (.inr (some a0))], [.inr (some a0), .inr (some a0)], M)) sm_a94_1 rfl rfl rfl ?_
  obtain ⟨h_1, h⟩ := h
  refine ru_go (t := (5, [some (.inr (some a0))], [.inl (sm_I M a0 5), .inr (some a0)], M)) sm_a94_2 rfl rfl (st_getI h_1 rfl) ?_
  refine ru_go (t := (6, [some (.inr (some a0))], [.inl 1, .inl (sm_I M a0 5), .inr (some a0)], M)) sm_a94_5 rfl rfl (st_iconst (by decide)) ?_
  refine ru_go (t := (7, [some (.inr (some a0))], [.inl ((sm_I M a0 5) + 1), .inr (some a0)], M)) sm_a94_6 rfl rfl rfl ?_
  refine ru_go (t := (10, [some (.inr (some a0))], [.inl 2048, .inl ((sm_I M a0 5) + 1), .inr (some a0)], M)) sm_a94_7 rfl rfl (st_sipush (by decide)) ?_
  refine ru_go (t := (11, [some (.inr (some a0))], [.inl (((sm_I M a0 5) + 1) - ((sm_I M a0 5) + 1) / 2048 * 2048), .inr (some a0)], M)) sm_a94_10 rfl rfl (st_rem (by decide)) ?_
  refine ru_go (t := (14, [some (.inr (some a0))], [], sm_putI M a0 5 (((sm_I M a0 5) + 1) - ((sm_I M a0 5) + 1) / 2048 * 2048))) sm_a94_11 rfl rfl (st_putI h_1 rfl) ?_
  refine ru_go (t := (15, [some (.inr (some a0))], [.inr (some a0)], sm_putI M a0 5 (((sm_I M a0 5) + 1) - ((sm_I M a0 5) + 1) / 2048 * 2048))) sm_a94_14 rfl rfl rfl ?_
  refine ru_go (t := (16, [some (.inr (some a0))], [.inr (some a0), .inr (some a0)], sm_putI M a0 5 (((sm_I M a0 5) + 1) - ((sm_I M a0 5) + 1) / 2048 * 2048))) sm_a94_15 rfl rfl rfl ?_
  refine ru_go (t := (19, [some (.inr (some a0))], [.inl (sm_I (sm_putI M a0 5 (((sm_I M a0 5) + 1) - ((sm_I M a0 5) + 1) / 2048 * 2048)) a0 6), .inr (some a0)], sm_putI M a0 5 (((sm_I M a0 5) + 1) - ((sm_I M a0 5) + 1) / 2048 * 2048))) sm_a94_16 rfl rfl (st_getI h_1 rfl) ?_
  refine ru_go (t := (20, [some (.inr (some a0))], [.inl 1, .inl (sm_I (sm_putI M a0 5 (((sm_I M a0 5) + 1) - ((sm_I M a0 5) + 1) / 2048 * 2048)) a0 6), .inr (some a0)], sm_putI M a0 5 (((sm_I M a0 5) + 1) - ((sm_I M a0 5) + 1) / 2048 * 2048))) sm_a94_19 rfl rfl (st_iconst (by decide)) ?_
  refine ru_go (t := (21, [some (.inr (some a0))], [.inl ((sm_I (sm_putI M a0 5 (((sm_I M a0 5) + 1) - ((sm_I M a0 5) + 1) / 2048 * 2048)) a0 6) + 1), .inr (some a0)], sm_putI M a0 5 (((sm_I M a0 5) + 1) - ((sm_I M a0 5) + 1) / 2048 * 2048))) sm_a94_20 rfl rfl rfl ?_
  refine ru_go (t := (24, [some (.inr (some a0))], [], sm_putI (sm_putI M a0 5 (((sm_I M a0 5) + 1) - ((sm_I M a0 5) + 1) / 2048 * 2048)) a0 6 ((sm_I (sm_putI M a0 5 (((sm_I M a0 5) + 1) - ((sm_I M a0 5) + 1) / 2048 * 2048)) a0 6) + 1))) sm_a94_21 rfl rfl (st_putI h_1 rfl) ?_
  exact ru_ret sm_a94_24 (sm_rvv rfl) h

/-! WireBus$Host.choose:()LWireBus$Transfer; -/
theorem sm_a95_0 : sm_at 95 0 = some (.aload_n 0, 1, (0, 0, 0, 0)) := by decide +kernel
theorem sm_a95_1 : sm_at 95 1 = some (.getfield 42, 3, (6, 3, 0, 430)) := by decide +kernel
theorem sm_a95_4 : sm_at 95 4 = some (.ifCond .ne 5, 3, (0, 0, 0, 0)) := by decide +kernel
theorem sm_a95_7 : sm_at 95 7 = some (.aconst_null, 1, (0, 0, 0, 0)) := by decide +kernel
theorem sm_a95_8 : sm_at 95 8 = some (.areturn, 1, (0, 0, 0, 0)) := by decide +kernel
theorem sm_a95_9 : sm_at 95 9 = some (.aload_n 0, 1, (0, 0, 0, 0)) := by decide +kernel
theorem sm_a95_10 : sm_at 95 10 = some (.invokevirtual 123, 3, (10, 97, 6, 979)) := by decide +kernel
theorem sm_a95_13 : sm_at 95 13 = some (.astore_n 1, 1, (0, 0, 0, 0)) := by decide +kernel
theorem sm_a95_14 : sm_at 95 14 = some (.aload_n 1, 1, (0, 0, 0, 0)) := by decide +kernel
theorem sm_a95_15 : sm_at 95 15 = some (.ifnonnull 12, 3, (0, 0, 0, 0)) := by decide +kernel
theorem sm_a95_18 : sm_at 95 18 = some (.aload_n 0, 1, (0, 0, 0, 0)) := by decide +kernel
theorem sm_a95_19 : sm_at 95 19 = some (.aload_n 0, 1, (0, 0, 0, 0)) := by decide +kernel
theorem sm_a95_20 : sm_at 95 20 = some (.getfield 30, 3, (6, 4, 0, 432)) := by decide +kernel
theorem sm_a95_23 : sm_at 95 23 = some (.invokevirtual 127, 3, (10, 99, 6, 999)) := by decide +kernel
theorem sm_a95_26 : sm_at 95 26 = some (.astore_n 1, 1, (0, 0, 0, 0)) := by decide +kernel
theorem sm_a95_27 : sm_at 95 27 = some (.aload_n 1, 1, (0, 0, 0, 0)) := by decide +kernel
theorem sm_a95_28 : sm_at 95 28 = some (.ifnonnull 10, 3, (0, 0, 0, 0)) := by decide +kernel
theorem sm_a95_31 : sm_at 95 31 = some (.aload_n 0, 1, (0, 0, 0, 0)) := by decide +kernel
theorem sm_a95_32 : sm_at 95 32 = some (.invokevirtual 131, 3, (10, 98, 6, 1003)) := by decide +kernel
theorem sm_a95_35 : sm_at 95 35 = some (.goto 4, 3, (0, 0, 0, 0)) := by decide +kernel
theorem sm_a95_38 : sm_at 95 38 = some (.aload_n 1, 1, (0, 0, 0, 0)) := by decide +kernel
theorem sm_a95_39 : sm_at 95 39 = some (.areturn, 1, (0, 0, 0, 0)) := by decide +kernel
theorem bb_95_0 {d : Nat} {M : sm_M} {Q : Option sm_V → sm_M → Prop} {a0 : Nat} {z1 : Option sm_V}
    (h : sm_K M a0 = 21 ∧ ((¬ (sm_I M a0 3) = 0 → sm_Run d 97 0 (sm_ent 97 [.inr (some a0)]) [] M (fun v M1 => sm_Run (d + 1) 95 13 [some (.inr (some a0)), z1] (v.toList ++ []) M1 Q)) ∧ (¬ (¬ (sm_I M a0 3) = 0) → Q (some (.inr none)) M))) :
    sm_Run (d + 1) 95 0 [some (.inr (some a0)), z1] [] M Q := by
  refine ru_go (t := (1, [some (.inr (some a0)), z1], [.inr (some a0)], M)) sm_a95_0 rfl rfl rfl ?_
  obtain ⟨h_1, h⟩ := h
  refine ru_go (t := (4, [some (.inr (some a0)), z1], [.inl (sm_I M a0 3)], M)) sm_a95_1 rfl rfl (st_getI h_1 rfl) ?_
  refine ru_if (pc := 4) (p := 9) (p2 := 7) sm_a95_4 (by decide) rfl ⟨fun hc_2 => ?_, fun hc_2 => ?_⟩
  · have h := h.1 hc_2
    refine ru_go (t := (10, [some (.inr (some a0)), z1], [.inr (some a0)], M)) sm_a95_9 rfl rfl rfl ?_
    exact ru_call (p := 13) sm_a95_10 rfl (sc_virt (Or.inl rfl) rfl rfl h_1 (Nat.le_of_ble_eq_true rfl)) rfl h
  · have h := h.2 hc_2
    refine ru_go (t := (8, [some (.inr (some a0)), z1], [.inr none], M)) sm_a95_7 rfl rfl rfl ?_
    exact ru_ret sm_a95_8 rfl h
theorem bb_95_13 {d : Nat} {M : sm_M} {Q : Option sm_V → sm_M → Prop} {a0 : Nat} {z1 : Option sm_V} {t0 : Option Nat}
    (h : ((t0 = none → sm_K M a0 = 21 ∧ sm_Run d 99 0 (sm_ent 99 [.inr (some a0), .inr (sm_R M a0 4)]) [] M (fun v M1 => sm_Run (d + 1) 95 26 [some (.inr (some a0)), some (.inr none)] (v.toList ++ []) M1 Q)) ∧ (∀ b_1, t0 = some b_1 → Q (some (.inr (some b_1))) M))) :
    sm_Run (d + 1) 95 13 [some (.inr (some a0)), z1] [.inr t0] M Q := by
  refine ru_go (t := (14, [some (.inr (some a0)), some (.inr t0)], [], M)) sm_a95_13 rfl rfl rfl ?_
  refine ru_go (t := (15, [some (.inr (some a0)), some (.inr t0)], [.inr t0], M)) sm_a95_14 rfl rfl rfl ?_
  refine ru_ifnonnull (pc := 15) (p := 27) (p2 := 18) sm_a95_15 (by decide) rfl ⟨fun b_1 hc => ?_, fun hc => ?_⟩
  · have h := h.2 b_1 hc
    try rw [hc]
    refine ru_go (t := (28, [some (.inr (some a0)), some (.inr (some b_1))], [.inr (some b_1)], M)) sm_a95_27 rfl rfl rfl ?_
    refine ru_go (t := (38, [some (.inr (some a0)), some (.inr (some b_1))], [], M)) sm_a95_28 rfl rfl rfl ?_
    refine ru_go (t := (39, [some (.inr (some a0)), some (.inr (some b_1))], [.inr (some b_1)], M)) sm_a95_38 rfl rfl rfl ?_
    exact ru_ret sm_a95_39 rfl h
  · have h := h.1 hc
    try rw [hc]
    refine ru_go (t := (19, [some (.inr (some a0)), some (.inr none)], [.inr (some a0)], M)) sm_a95_18 rfl rfl rfl ?_
    refine ru_go (t := (20, [some (.inr (some a0)), some (.inr none)], [.inr (some a0), .inr (some a0)], M)) sm_a95_19 rfl rfl rfl ?_
    obtain ⟨h_3, h⟩ := h
    refine ru_go (t := (23, [some (.inr (some a0)), some (.inr none)], [.inr (sm_R M a0 4), .inr (some a0)], M)) sm_a95_20 rfl rfl (st_getR h_3 rfl rfl) ?_
    exact ru_call (p := 26) sm_a95_23 rfl (sc_virt (Or.inl rfl) rfl rfl h_3 (Nat.le_of_ble_eq_true rfl)) rfl h
theorem bb_95_26 {d : Nat} {M : sm_M} {Q : Option sm_V → sm_M → Prop} {a0 : Nat} {r1 : Option Nat} {t0 : Option Nat}
    (h : ((t0 = none → sm_K M a0 = 21 ∧ sm_Run d 98 0 (sm_ent 98 [.inr (some a0)]) [] M (fun v M1 => sm_Run (d + 1) 95 35 [some (.inr (some a0)), some (.inr none)] (v.toList ++ []) M1 Q)) ∧ (∀ b_1, t0 = some b_1 → Q (some (.inr (some b_1))) M))) :
    sm_Run (d + 1) 95 26 [some (.inr (some a0)), some (.inr r1)] [.inr t0] M Q := by
  refine ru_go (t := (27, [some (.inr (some a0)), some (.inr t0)], [], M)) sm_a95_26 rfl rfl rfl ?_
  refine ru_go (t := (28, [some (.inr (some a0)), some (.inr t0)], [.inr t0], M)) sm_a95_27 rfl rfl rfl ?_
  refine ru_ifnonnull (pc := 28) (p := 38) (p2 := 31) sm_a95_28 (by decide) rfl ⟨fun b_1 hc => ?_, fun hc => ?_⟩
  · have h := h.2 b_1 hc
    try rw [hc]
    refine ru_go (t := (39, [some (.inr (some a0)), some (.inr (some b_1))], [.inr (some b_1)], M)) sm_a95_38 rfl rfl rfl ?_
    exact ru_ret sm_a95_39 rfl h
  · have h := h.1 hc
    try rw [hc]
    refine ru_go (t := (32, [some (.inr (some a0)), some (.inr none)], [.inr (some a0)], M)) sm_a95_31 rfl rfl rfl ?_
    obtain ⟨h_3, h⟩ := h
    exact ru_call (p := 35) sm_a95_32 rfl (sc_virt (Or.inl rfl) rfl rfl h_3 (Nat.le_of_ble_eq_true rfl)) rfl h
theorem bb_95_35 {d : Nat} {M : sm_M} {Q : Option sm_V → sm_M → Prop} {a0 : Nat} {r1 : Option Nat} {t0 : Option Nat}
    (h : Q (some (.inr t0)) M) :
    sm_Run (d + 1) 95 35 [some (.inr (some a0)), some (.inr r1)] [.inr t0] M Q := by
  refine ru_go (t := (39, [some (.inr (some a0)), some (.inr r1)], [.inr t0], M)) sm_a95_35 rfl rfl (st_goto (pc := 35) (by decide)) ?_
  exact ru_ret sm_a95_39 rfl h

/-! WireBus$Host.pipeAt:(I)LWireBus$Pipe; -/
theorem sm_a96_0 : sm_at 96 0 = some (.aload_n 0, 1, (0, 0, 0, 0)) := by decide +kernel
theorem sm_a96_1 : sm_at 96 1 = some (.getfield 15, 3, (6, 0, 0, 424)) := by decide +kernel
theorem sm_a96_4 : sm_at 96 4 = some (.iload_n 1, 1, (0, 0, 0, 0)) := by decide +kernel
theorem sm_a96_5 : sm_at 96 5 = some (.bipush 6, 2, (0, 0, 0, 0)) := by decide +kernel
theorem sm_a96_7 : sm_at 96 7 = some (.idiv, 1, (0, 0, 0, 0)) := by decide +kernel
theorem sm_a96_8 : sm_at 96 8 = some (.aaload, 1, (0, 0, 0, 0)) := by decide +kernel
theorem sm_a96_9 : sm_at 96 9 = some (.iload_n 1, 1, (0, 0, 0, 0)) := by decide +kernel
theorem sm_a96_10 : sm_at 96 10 = some (.bipush 6, 2, (0, 0, 0, 0)) := by decide +kernel
theorem sm_a96_12 : sm_at 96 12 = some (.irem, 1, (0, 0, 0, 0)) := by decide +kernel
theorem sm_a96_13 : sm_at 96 13 = some (.invokevirtual 134, 3, (10, 115, 8, 987)) := by decide +kernel
theorem sm_a96_16 : sm_at 96 16 = some (.areturn, 1, (0, 0, 0, 0)) := by decide +kernel
theorem bb_96_0 {d : Nat} {M : sm_M} {Q : Option sm_V → sm_M → Prop} {a0 : Nat} {x1 : Int32}
    (h : sm_K M a0 = 21 ∧ ∃ b_2, sm_R M a0 0 = some b_2 ∧ (∃ ci, sm_K M b_2 = 4 + 3 * ci) ∧ sm_in_ M b_2 (x1 / 6) ∧ ∃ b_6, sm_R M b_2 (x1 / 6).toNatClampNeg = some b_6 ∧ sm_K M b_6 = 27 ∧ sm_Run d 115 0 (sm_ent 115 [.inr (some b_6), .inl (x1 - x1 / 6 * 6)]) [] M (fun v M1 => sm_Run (d + 1) 96 16 [some (.inr (some a0)), some (.inl x1)] (v.toList ++ []) M1 Q)) :
    sm_Run (d + 1) 96 0 [some (.inr (some a0)), some (.inl x1)] [] M Q := by
  refine ru_go (t := (1, [some (.inr (some a0)), some (.inl x1)], [.inr (some a0)], M)) sm_a96_0 rfl rfl rfl ?_
  obtain ⟨h_1, h⟩ := h
  refine ru_go (t := (4, [some (.inr (some a0)), some (.inl x1)], [.inr (sm_R M a0 0)], M)) sm_a96_1 rfl rfl (st_getR h_1 rfl rfl) ?_
  refine ru_go (t := (5, [some (.inr (some a0)), some (.inl x1)], [.inl x1, .inr (sm_R M a0 0)], M)) sm_a96_4 rfl rfl rfl ?_
  refine ru_go (t := (7, [some (.inr (some a0)), some (.inl x1)], [.inl 6, .inl x1, .inr (sm_R M a0 0)], M)) sm_a96_5 rfl rfl (st_bipush (by decide)) ?_
  refine ru_go (t := (8, [some (.inr (some a0)), some (.inl x1)], [.inl (x1 / 6), .inr (sm_R M a0 0)], M)) sm_a96_7 rfl rfl (st_div (by decide)) ?_
  obtain ⟨b_2, hb_3, h⟩ := h
  rw [hb_3]
  obtain ⟨h_4, h⟩ := h
  obtain ⟨h_5, h⟩ := h
  refine ru_go (t := (9, [some (.inr (some a0)), some (.inl x1)], [.inr (sm_R M b_2 (x1 / 6).toNatClampNeg)], M)) sm_a96_8 rfl rfl (st_aald h_4.choose_spec h_5 rfl) ?_
  refine ru_go (t := (10, [some (.inr (some a0)), some (.inl x1)], [.inl x1, .inr (sm_R M b_2 (x1 / 6).toNatClampNeg)], M)) sm_a96_9 rfl rfl rfl ?_
  refine ru_go (t := (12, [some (.inr (some a0)), some (.inl x1)], [.inl 6, .inl x1, .inr (sm_R M b_2 (x1 / 6).toNatClampNeg)], M)) sm_a96_10 rfl rfl (st_bipush (by decide)) ?_
  refine ru_go (t := (13, [some (.inr (some a0)), some (.inl x1)], [.inl (x1 - x1 / 6 * 6), .inr (sm_R M b_2 (x1 / 6).toNatClampNeg)], M)) sm_a96_12 rfl rfl (st_rem (by decide)) ?_
  obtain ⟨b_6, hb_7, h⟩ := h
  rw [hb_7]
  obtain ⟨h_8, h⟩ := h
  exact ru_call (p := 16) sm_a96_13 rfl (sc_virt (Or.inl rfl) rfl rfl h_8 (Nat.le_of_ble_eq_true rfl)) rfl h
theorem bb_96_16 {d : Nat} {M : sm_M} {Q : Option sm_V → sm_M → Prop} {a0 : Nat} {x1 : Int32} {t0 : Option Nat}
    (h : Q (some (.inr t0)) M) :
    sm_Run (d + 1) 96 16 [some (.inr (some a0)), some (.inl x1)] [.inr t0] M Q := by
  exact ru_ret sm_a96_16 rfl h

/-! WireBus$Host.chooseInterrupt:()LWireBus$Transfer; -/
theorem sm_a97_0 : sm_at 97 0 = some (.aload_n 0, 1, (0, 0, 0, 0)) := by decide +kernel
theorem sm_a97_1 : sm_at 97 1 = some (.getfield 117, 3, (6, 7, 0, 436)) := by decide +kernel
theorem sm_a97_4 : sm_at 97 4 = some (.bipush 36, 2, (0, 0, 0, 0)) := by decide +kernel
theorem sm_a97_6 : sm_at 97 6 = some (.if_icmp .ge 52, 3, (0, 0, 0, 0)) := by decide +kernel
theorem sm_a97_9 : sm_at 97 9 = some (.aload_n 0, 1, (0, 0, 0, 0)) := by decide +kernel
theorem sm_a97_10 : sm_at 97 10 = some (.aload_n 0, 1, (0, 0, 0, 0)) := by decide +kernel
theorem sm_a97_11 : sm_at 97 11 = some (.getfield 117, 3, (6, 7, 0, 436)) := by decide +kernel
theorem sm_a97_14 : sm_at 97 14 = some (.invokevirtual 137, 3, (10, 96, 6, 983)) := by decide +kernel
theorem sm_a97_17 : sm_at 97 17 = some (.astore_n 1, 1, (0, 0, 0, 0)) := by decide +kernel
theorem sm_a97_18 : sm_at 97 18 = some (.aload_n 0, 1, (0, 0, 0, 0)) := by decide +kernel
theorem sm_a97_19 : sm_at 97 19 = some (.dup, 1, (0, 0, 0, 0)) := by decide +kernel
theorem sm_a97_20 : sm_at 97 20 = some (.getfield 117, 3, (6, 7, 0, 436)) := by decide +kernel
theorem sm_a97_23 : sm_at 97 23 = some (.iconst 1, 1, (0, 0, 0, 0)) := by decide +kernel
theorem sm_a97_24 : sm_at 97 24 = some (.iadd, 1, (0, 0, 0, 0)) := by decide +kernel
theorem sm_a97_25 : sm_at 97 25 = some (.putfield 117, 3, (6, 7, 0, 436)) := by decide +kernel
theorem sm_a97_28 : sm_at 97 28 = some (.aload_n 1, 1, (0, 0, 0, 0)) := by decide +kernel
theorem sm_a97_29 : sm_at 97 29 = some (.ifnull 26, 3, (0, 0, 0, 0)) := by decide +kernel
theorem sm_a97_32 : sm_at 97 32 = some (.aload_n 1, 1, (0, 0, 0, 0)) := by decide +kernel
theorem sm_a97_33 : sm_at 97 33 = some (.aload_n 0, 1, (0, 0, 0, 0)) := by decide +kernel
theorem sm_a97_34 : sm_at 97 34 = some (.getfield 105, 3, (6, 5, 0, 433)) := by decide +kernel
theorem sm_a97_37 : sm_at 97 37 = some (.invokevirtual 140, 3, (10, 120, 9, 991)) := by decide +kernel
theorem sm_a97_40 : sm_at 97 40 = some (.ifCond .eq 15, 3, (0, 0, 0, 0)) := by decide +kernel
theorem sm_a97_43 : sm_at 97 43 = some (.aload_n 0, 1, (0, 0, 0, 0)) := by decide +kernel
theorem sm_a97_44 : sm_at 97 44 = some (.aload_n 1, 1, (0, 0, 0, 0)) := by decide +kernel
theorem sm_a97_45 : sm_at 97 45 = some (.invokevirtual 143, 3, (10, 100, 6, 995)) := by decide +kernel
theorem sm_a97_48 : sm_at 97 48 = some (.astore_n 2, 1, (0, 0, 0, 0)) := by decide +kernel
theorem sm_a97_49 : sm_at 97 49 = some (.aload_n 2, 1, (0, 0, 0, 0)) := by decide +kernel
theorem sm_a97_50 : sm_at 97 50 = some (.ifnull 5, 3, (0, 0, 0, 0)) := by decide +kernel
theorem sm_a97_53 : sm_at 97 53 = some (.aload_n 2, 1, (0, 0, 0, 0)) := by decide +kernel
theorem sm_a97_54 : sm_at 97 54 = some (.areturn, 1, (0, 0, 0, 0)) := by decide +kernel
theorem sm_a97_55 : sm_at 97 55 = some (.goto (-55), 3, (0, 0, 0, 0)) := by decide +kernel
theorem sm_a97_58 : sm_at 97 58 = some (.aconst_null, 1, (0, 0, 0, 0)) := by decide +kernel
theorem sm_a97_59 : sm_at 97 59 = some (.areturn, 1, (0, 0, 0, 0)) := by decide +kernel
theorem bb_97_0 {d : Nat} {M : sm_M} {Q : Option sm_V → sm_M → Prop} {a0 : Nat} {z1 : Option sm_V} {z2 : Option sm_V}
    (h : sm_K M a0 = 21 ∧ ((36 ≤ (sm_I M a0 7) → Q (some (.inr none)) M) ∧ (¬ (36 ≤ (sm_I M a0 7)) → sm_Run d 96 0 (sm_ent 96 [.inr (some a0), .inl (sm_I M a0 7)]) [] M (fun v M1 => sm_Run (d + 1) 97 17 [some (.inr (some a0)), z1, z2] (v.toList ++ []) M1 Q)))) :
    sm_Run (d + 1) 97 0 [some (.inr (some a0)), z1, z2] [] M Q := by
  refine ru_go (t := (1, [some (.inr (some a0)), z1, z2], [.inr (some a0)], M)) sm_a97_0 rfl rfl rfl ?_
  obtain ⟨h_1, h⟩ := h
  refine ru_go (t := (4, [some (.inr (some a0)), z1, z2], [.inl (sm_I M a0 7)], M)) sm_a97_1 rfl rfl (st_getI h_1 rfl) ?_
  refine ru_go (t := (6, [some (.inr (some a0)), z1, z2], [.inl 36, .inl (sm_I M a0 7)], M)) sm_a97_4 rfl rfl (st_bipush (by decide)) ?_
  refine ru_icmp (pc := 6) (p := 58) (p2 := 9) sm_a97_6 (by decide) rfl ⟨fun hc_2 => ?_, fun hc_2 => ?_⟩
  · have h := h.1 hc_2
    refine ru_go (t := (59, [some (.inr (some a0)), z1, z2], [.inr none], M)) sm_a97_58 rfl rfl rfl ?_
    exact ru_ret sm_a97_59 rfl h
  · have h := h.2 hc_2
    refine ru_go (t := (10, [some (.inr (some a0)), z1, z2], [.inr (some a0)], M)) sm_a97_9 rfl rfl rfl ?_
    refine ru_go (t := (11, [some (.inr (some a0)), z1, z2], [.inr (some a0), .inr (some a0)], M)) sm_a97_10 rfl rfl rfl ?_
    refine ru_go (t := (14, [some (.inr (some a0)), z1, z2], [.inl (sm_I M a0 7), .inr (some a0)], M)) sm_a97_11 rfl rfl (st_getI h_1 rfl) ?_
    exact ru_call (p := 17) sm_a97_14 rfl (sc_virt (Or.inl rfl) rfl rfl h_1 (Nat.le_of_ble_eq_true rfl)) rfl h
theorem bb_97_17 {d : Nat} {M : sm_M} {Q : Option sm_V → sm_M → Prop} {a0 : Nat} {z1 : Option sm_V} {z2 : Option sm_V} {t0 : Option Nat}
    (h : sm_K M a0 = 21 ∧ ((t0 = none → sm_Run (d + 1) 97 0 [some (.inr (some a0)), some (.inr none), z2] [] (sm_putI M a0 7 ((sm_I M a0 7) + 1)) Q) ∧ (∀ b_2, t0 = some b_2 → sm_K M b_2 = 30 ∧ sm_Run d 120 0 (sm_ent 120 [.inr (some b_2), .inl (sm_I (sm_putI M a0 7 ((sm_I M a0 7) + 1)) a0 5)]) [] (sm_putI M a0 7 ((sm_I M a0 7) + 1)) (fun v M1 => sm_Run (d + 1) 97 40 [some (.inr (some a0)), some (.inr (some b_2)), z2] (v.toList ++ []) M1 Q)))) :
    sm_Run (d + 1) 97 17 [some (.inr (some a0)), z1, z2] [.inr t0] M Q := by
  refine ru_go (t := (18, [some (.inr (some a0)), some (.inr t0), z2], [], M)) sm_a97_17 rfl rfl rfl ?_
  refine ru_go (t := (19, [some (.inr (some a0)), some (.inr t0), z2], [.inr (some a0)], M)) sm_a97_18 rfl rfl rfl ?_
  refine ru_go (t := (20, [some (.inr (some a0)), some (.inr t0), z2], [.inr (some a0), .inr (some a0)], M)) sm_a97_19 rfl rfl rfl ?_
  obtain ⟨h_1, h⟩ := h
  refine ru_go (t := (23, [some (.inr (some a0)), some (.inr t0), z2], [.inl (sm_I M a0 7), .inr (some a0)], M)) sm_a97_20 rfl rfl (st_getI h_1 rfl) ?_
  refine ru_go (t := (24, [some (.inr (some a0)), some (.inr t0), z2], [.inl 1, .inl (sm_I M a0 7), .inr (some a0)], M)) sm_a97_23 rfl rfl (st_iconst (by decide)) ?_
  refine ru_go (t := (25, [some (.inr (some a0)), some (.inr t0), z2], [.inl ((sm_I M a0 7) + 1), .inr (some a0)], M)) sm_a97_24 rfl rfl rfl ?_
  refine ru_go (t := (28, [some (.inr (some a0)), some (.inr t0), z2], [], sm_putI M a0 7 ((sm_I M a0 7) + 1))) sm_a97_25 rfl rfl (st_putI h_1 rfl) ?_
  refine ru_go (t := (29, [some (.inr (some a0)), some (.inr t0), z2], [.inr t0], sm_putI M a0 7 ((sm_I M a0 7) + 1))) sm_a97_28 rfl rfl rfl ?_
  refine ru_ifnull (pc := 29) (p := 55) (p2 := 32) sm_a97_29 (by decide) rfl ⟨fun hc => ?_, fun b_2 hc => ?_⟩
  · have h := h.1 hc
    try rw [hc]
    refine ru_go (t := (0, [some (.inr (some a0)), some (.inr none), z2], [], sm_putI M a0 7 ((sm_I M a0 7) + 1))) sm_a97_55 rfl rfl (st_goto (pc := 55) (by decide)) ?_
    exact h
  · have h := h.2 b_2 hc
    try rw [hc]
    refine ru_go (t := (33, [some (.inr (some a0)), some (.inr (some b_2)), z2], [.inr (some b_2)], sm_putI M a0 7 ((sm_I M a0 7) + 1))) sm_a97_32 rfl rfl rfl ?_
    refine ru_go (t := (34, [some (.inr (some a0)), some (.inr (some b_2)), z2], [.inr (some a0), .inr (some b_2)], sm_putI M a0 7 ((sm_I M a0 7) + 1))) sm_a97_33 rfl rfl rfl ?_
    refine ru_go (t := (37, [some (.inr (some a0)), some (.inr (some b_2)), z2], [.inl (sm_I (sm_putI M a0 7 ((sm_I M a0 7) + 1)) a0 5), .inr (some b_2)], sm_putI M a0 7 ((sm_I M a0 7) + 1))) sm_a97_34 rfl rfl (st_getI h_1 rfl) ?_
    obtain ⟨h_4, h⟩ := h
    exact ru_call (p := 40) sm_a97_37 rfl (sc_virt (Or.inl rfl) rfl rfl h_4 (Nat.le_of_ble_eq_true rfl)) rfl h
theorem bb_97_40 {d : Nat} {M : sm_M} {Q : Option sm_V → sm_M → Prop} {a0 : Nat} {r1 : Option Nat} {z2 : Option sm_V} {y0 : Int32}
    (h : ((y0 = 0 → sm_Run (d + 1) 97 0 [some (.inr (some a0)), some (.inr r1), z2] [] M Q) ∧ (¬ (y0 = 0) → sm_K M a0 = 21 ∧ sm_Run d 100 0 (sm_ent 100 [.inr (some a0), .inr r1]) [] M (fun v M1 => sm_Run (d + 1) 97 48 [some (.inr (some a0)), some (.inr r1), z2] (v.toList ++ []) M1 Q)))) :
    sm_Run (d + 1) 97 40 [some (.inr (some a0)), some (.inr r1), z2] [.inl y0] M Q := by
  refine ru_if (pc := 40) (p := 55) (p2 := 43) sm_a97_40 (by decide) rfl ⟨fun hc_1 => ?_, fun hc_1 => ?_⟩
  · have h := h.1 hc_1
    refine ru_go (t := (0, [some (.inr (some a0)), some (.inr r1), z2], [], M)) sm_a97_55 rfl rfl (st_goto (pc := 55) (by decide)) ?_
    exact h
  · have h := h.2 hc_1
    refine ru_go (t := (44, [some (.inr (some a0)), some (.inr r1), z2], [.inr (some a0)], M)) sm_a97_43 rfl rfl rfl ?_
    refine ru_go (t := (45, [some (.inr (some a0)), some (.inr r1), z2], [.inr r1, .inr (some a0)], M)) sm_a97_44 rfl rfl rfl ?_
    obtain ⟨h_2, h⟩ := h
    exact ru_call (p := 48) sm_a97_45 rfl (sc_virt (Or.inl rfl) rfl rfl h_2 (Nat.le_of_ble_eq_true rfl)) rfl h
theorem bb_97_48 {d : Nat} {M : sm_M} {Q : Option sm_V → sm_M → Prop} {a0 : Nat} {r1 : Option Nat} {z2 : Option sm_V} {t0 : Option Nat}
    (h : ((t0 = none → sm_Run (d + 1) 97 0 [some (.inr (some a0)), some (.inr r1), some (.inr none)] [] M Q) ∧ (∀ b_1, t0 = some b_1 → Q (some (.inr (some b_1))) M))) :
    sm_Run (d + 1) 97 48 [some (.inr (some a0)), some (.inr r1), z2] [.inr t0] M Q := by
  refine ru_go (t := (49, [some (.inr (some a0)), some (.inr r1), some (.inr t0)], [], M)) sm_a97_48 rfl rfl rfl ?_
  refine ru_go (t := (50, [some (.inr (some a0)), some (.inr r1), some (.inr t0)], [.inr t0], M)) sm_a97_49 rfl rfl rfl ?_
  refine ru_ifnull (pc := 50) (p := 55) (p2 := 53) sm_a97_50 (by decide) rfl ⟨fun hc => ?_, fun b_1 hc => ?_⟩
  · have h := h.1 hc
    try rw [hc]
    refine ru_go (t := (0, [some (.inr (some a0)), some (.inr r1), some (.inr none)], [], M)) sm_a97_55 rfl rfl (st_goto (pc := 55) (by decide)) ?_
    exact h
  · have h := h.2 b_1 hc
    try rw [hc]
    refine ru_go (t := (54, [some (.inr (some a0)), some (.inr r1), some (.inr (some b_1))], [.inr (some b_1)], M)) sm_a97_53 rfl rfl rfl ?_
    exact ru_ret sm_a97_54 rfl h

/-! WireBus$Host.chooseBulk:()LWireBus$Transfer; -/
theorem sm_a98_0 : sm_at 98 0 = some (.aload_n 0, 1, (0, 0, 0, 0)) := by decide +kernel
theorem sm_a98_1 : sm_at 98 1 = some (.getfield 34, 3, (6, 8, 0, 437)) := by decide +kernel
theorem sm_a98_4 : sm_at 98 4 = some (.istore_n 1, 1, (0, 0, 0, 0)) := by decide +kernel
theorem sm_a98_5 : sm_at 98 5 = some (.iconst 0, 1, (0, 0, 0, 0)) := by decide +kernel
theorem sm_a98_6 : sm_at 98 6 = some (.istore_n 2, 1, (0, 0, 0, 0)) := by decide +kernel
theorem sm_a98_7 : sm_at 98 7 = some (.iload_n 2, 1, (0, 0, 0, 0)) := by decide +kernel
theorem sm_a98_8 : sm_at 98 8 = some (.bipush 36, 2, (0, 0, 0, 0)) := by decide +kernel
theorem sm_a98_10 : sm_at 98 10 = some (.if_icmp .ge 66, 3, (0, 0, 0, 0)) := by decide +kernel
theorem sm_a98_13 : sm_at 98 13 = some (.iload_n 1, 1, (0, 0, 0, 0)) := by decide +kernel
theorem sm_a98_14 : sm_at 98 14 = some (.iconst 1, 1, (0, 0, 0, 0)) := by decide +kernel
theorem sm_a98_15 : sm_at 98 15 = some (.iadd, 1, (0, 0, 0, 0)) := by decide +kernel
theorem sm_a98_16 : sm_at 98 16 = some (.bipush 36, 2, (0, 0, 0, 0)) := by decide +kernel
theorem sm_a98_18 : sm_at 98 18 = some (.if_icmp .ge 9, 3, (0, 0, 0, 0)) := by decide +kernel
theorem sm_a98_21 : sm_at 98 21 = some (.iload_n 1, 1, (0, 0, 0, 0)) := by decide +kernel
theorem sm_a98_22 : sm_at 98 22 = some (.iconst 1, 1, (0, 0, 0, 0)) := by decide +kernel
theorem sm_a98_23 : sm_at 98 23 = some (.iadd, 1, (0, 0, 0, 0)) := by decide +kernel
theorem sm_a98_24 : sm_at 98 24 = some (.goto 4, 3, (0, 0, 0, 0)) := by decide +kernel
theorem sm_a98_27 : sm_at 98 27 = some (.iconst 0, 1, (0, 0, 0, 0)) := by decide +kernel
theorem sm_a98_28 : sm_at 98 28 = some (.istore_n 1, 1, (0, 0, 0, 0)) := by decide +kernel
theorem sm_a98_29 : sm_at 98 29 = some (.aload_n 0, 1, (0, 0, 0, 0)) := by decide +kernel
theorem sm_a98_30 : sm_at 98 30 = some (.iload_n 1, 1, (0, 0, 0, 0)) := by decide +kernel
theorem sm_a98_31 : sm_at 98 31 = some (.invokevirtual 137, 3, (10, 96, 6, 983)) := by decide +kernel
theorem sm_a98_34 : sm_at 98 34 = some (.astore_n 3, 1, (0, 0, 0, 0)) := by decide +kernel
theorem sm_a98_35 : sm_at 98 35 = some (.aload_n 3, 1, (0, 0, 0, 0)) := by decide +kernel
theorem sm_a98_36 : sm_at 98 36 = some (.ifnull 18, 3, (0, 0, 0, 0)) := by decide +kernel
theorem sm_a98_39 : sm_at 98 39 = some (.aload_n 3, 1, (0, 0, 0, 0)) := by decide +kernel
theorem sm_a98_40 : sm_at 98 40 = some (.getfield 146, 3, (9, 1, 1, 361)) := by decide +kernel
theorem sm_a98_43 : sm_at 98 43 = some (.ifCond .eq 11, 3, (0, 0, 0, 0)) := by decide +kernel
theorem sm_a98_46 : sm_at 98 46 = some (.aload_n 0, 1, (0, 0, 0, 0)) := by decide +kernel
theorem sm_a98_47 : sm_at 98 47 = some (.aload_n 3, 1, (0, 0, 0, 0)) := by decide +kernel
theorem sm_a98_48 : sm_at 98 48 = some (.invokevirtual 127, 3, (10, 99, 6, 999)) := by decide +kernel
theorem sm_a98_51 : sm_at 98 51 = some (.goto 4, 3, (0, 0, 0, 0)) := by decide +kernel
theorem sm_a98_54 : sm_at 98 54 = some (.aconst_null, 1, (0, 0, 0, 0)) := by decide +kernel
theorem sm_a98_55 : sm_at 98 55 = some (.astore 4, 2, (0, 0, 0, 0)) := by decide +kernel
theorem sm_a98_57 : sm_at 98 57 = some (.aload 4, 2, (0, 0, 0, 0)) := by decide +kernel
theorem sm_a98_59 : sm_at 98 59 = some (.ifnull 11, 3, (0, 0, 0, 0)) := by decide +kernel
theorem sm_a98_62 : sm_at 98 62 = some (.aload_n 0, 1, (0, 0, 0, 0)) := by decide +kernel
theorem sm_a98_63 : sm_at 98 63 = some (.iload_n 1, 1, (0, 0, 0, 0)) := by decide +kernel
theorem sm_a98_64 : sm_at 98 64 = some (.putfield 34, 3, (6, 8, 0, 437)) := by decide +kernel
theorem sm_a98_67 : sm_at 98 67 = some (.aload 4, 2, (0, 0, 0, 0)) := by decide +kernel
theorem sm_a98_69 : sm_at 98 69 = some (.areturn, 1, (0, 0, 0, 0)) := by decide +kernel
theorem sm_a98_70 : sm_at 98 70 = some (.iinc 2 1, 3, (0, 0, 0, 0)) := by decide +kernel
theorem sm_a98_73 : sm_at 98 73 = some (.goto (-66), 3, (0, 0, 0, 0)) := by decide +kernel
theorem sm_a98_76 : sm_at 98 76 = some (.aconst_null, 1, (0, 0, 0, 0)) := by decide +kernel
theorem sm_a98_77 : sm_at 98 77 = some (.areturn, 1, (0, 0, 0, 0)) := by decide +kernel
theorem bb_98_0 {d : Nat} {M : sm_M} {Q : Option sm_V → sm_M → Prop} {a0 : Nat} {z1 : Option sm_V} {z2 : Option sm_V} {z3 : Option sm_V} {z4 : Option sm_V}
    (h : sm_K M a0 = 21 ∧ sm_Run (d + 1) 98 7 [some (.inr (some a0)), some (.inl (sm_I M a0 8)), some (.inl 0), z3, z4] [] M Q) :
    sm_Run (d + 1) 98 0 [some (.inr (some a0)), z1, z2, z3, z4] [] M Q := by
  refine ru_go (t := (1, [some (.inr (some a0)), z1, z2, z3, z4], [.inr (some a0)], M)) sm_a98_0 rfl rfl rfl ?_
  obtain ⟨h_1, h⟩ := h
  refine ru_go (t := (4, [some (.inr (some a0)), z1, z2, z3, z4], [.inl (sm_I M a0 8)], M)) sm_a98_1 rfl rfl (st_getI h_1 rfl) ?_
  refine ru_go (t := (5, [some (.inr (some a0)), some (.inl (sm_I M a0 8)), z2, z3, z4], [], M)) sm_a98_4 rfl rfl rfl ?_
  refine ru_go (t := (6, [some (.inr (some a0)), some (.inl (sm_I M a0 8)), z2, z3, z4], [.inl 0], M)) sm_a98_5 rfl rfl (st_iconst (by decide)) ?_
  refine ru_go (t := (7, [some (.inr (some a0)), some (.inl (sm_I M a0 8)), some (.inl 0), z3, z4], [], M)) sm_a98_6 rfl rfl rfl ?_
  exact h
theorem bb_98_7 {d : Nat} {M : sm_M} {Q : Option sm_V → sm_M → Prop} {a0 : Nat} {x1 : Int32} {x2 : Int32} {z3 : Option sm_V} {z4 : Option sm_V}
    (h : ((36 ≤ x2 → Q (some (.inr none)) M) ∧ (¬ (36 ≤ x2) → ((36 ≤ (x1 + 1) → sm_K M a0 = 21 ∧ sm_Run d 96 0 (sm_ent 96 [.inr (some a0), .inl 0]) [] M (fun v M1 => sm_Run (d + 1) 98 34 [some (.inr (some a0)), some (.inl 0), some (.inl x2), z3, z4] (v.toList ++ []) M1 Q)) ∧ (¬ (36 ≤ (x1 + 1)) → sm_K M a0 = 21 ∧ sm_Run d 96 0 (sm_ent 96 [.inr (some a0), .inl (x1 + 1)]) [] M (fun v M1 => sm_Run (d + 1) 98 34 [some (.inr (some a0)), some (.inl (x1 + 1)), some (.inl x2), z3, z4] (v.toList ++ []) M1 Q)))))) :
    sm_Run (d + 1) 98 7 [some (.inr (some a0)), some (.inl x1), some (.inl x2), z3, z4] [] M Q := by
  refine ru_go (t := (8, [some (.inr (some a0)), some (.inl x1), some (.inl x2), z3, z4], [.inl x2], M)) sm_a98_7 rfl rfl rfl ?_
  refine ru_go (t := (10, [some (.inr (some a0)), some (.inl x1), some (.inl x2), z3, z4], [.inl 36, .inl x2], M)) sm_a98_8 rfl rfl (st_bipush (by decide)) ?_
  refine ru_icmp (pc := 10) (p := 76) (p2 := 13) sm_a98_10 (by decide) rfl ⟨fun hc_1 => ?_, fun hc_1 => ?_⟩
  · have h := h.1 hc_1
    refine ru_go (t := (77, [some (.inr (some a0)), some (.inl x1), some (.inl x2), z3, z4], [.inr none], M)) sm_a98_76 rfl rfl rfl ?_
    exact ru_ret sm_a98_77 rfl h
  · have h := h.2 hc_1
    refine ru_go (t := (14, [some (.inr (some a0)), some (.inl x1), some (.inl x2), z3, z4], [.inl x1], M)) sm_a98_13 rfl rfl rfl ?_
    refine ru_go (t := (15, [some (.inr (some a0)), some (.inl x1), some (.inl x2), z3, z4], [.inl 1, .inl x1], M)) sm_a98_14 rfl rfl (st_iconst (by decide)) ?_
    refine ru_go (t := (16, [some (.inr (some a0)), some (.inl x1), some (.inl x2), z3, z4], [.inl (x1 + 1)], M)) sm_a98_15 rfl rfl rfl ?_
    refine ru_go (t := (18, [some (.inr (some a0)), some (.inl x1), some (.inl x2), z3, z4], [.inl 36, .inl (x1 + 1)], M)) sm_a98_16 rfl rfl (st_bipush (by decide)) ?_
    refine ru_icmp (pc := 18) (p := 27) (p2 := 21) sm_a98_18 (by decide) rfl ⟨fun hc_2 => ?_, fun hc_2 => ?_⟩
    · have h := h.1 hc_2
      refine ru_go (t := (28, [some (.inr (some a0)), some (.inl x1), some (.inl x2), z3, z4], [.inl 0], M)) sm_a98_27 rfl rfl (st_iconst (by decide)) ?_
      refine ru_go (t := (29, [some (.inr (some a0)), some (.inl 0), some (.inl x2), z3, z4], [], M)) sm_a98_28 rfl rfl rfl ?_
      refine ru_go (t := (30, [some (.inr (some a0)), some (.inl 0), some (.inl x2), z3, z4], [.inr (some a0)], M)) sm_a98_29 rfl rfl rfl ?_
      refine ru_go (t := (31, [some (.inr (some a0)), some (.inl 0), some (.inl x2), z3, z4], [.inl 0, .inr (some a0)], M)) sm_a98_30 rfl rfl rfl ?_
      obtain ⟨h_3, h⟩ := h
      exact ru_call (p := 34) sm_a98_31 rfl (sc_virt (Or.inl rfl) rfl rfl h_3 (Nat.le_of_ble_eq_true rfl)) rfl h
    · have h := h.2 hc_2
      refine ru_go (t := (22, [some (.inr (some a0)), some (.inl x1), some (.inl x2), z3, z4], [.inl x1], M)) sm_a98_21 rfl rfl rfl ?_
      refine ru_go (t := (23, [some (.inr (some a0)), some (.inl x1), some (.inl x2), z3, z4], [.inl 1, .inl x1], M)) sm_a98_22 rfl rfl (st_iconst (by decide)) ?_
      refine ru_go (t := (24, [some (.inr (some a0)), some (.inl x1), some (.inl x2), z3, z4], [.inl (x1 + 1)], M)) sm_a98_23 rfl rfl rfl ?_
      refine ru_go (t := (28, [some (.inr (some a0)), some (.inl x1), some (.inl x2), z3, z4], [.inl (x1 + 1)], M)) sm_a98_24 rfl rfl (st_goto (pc := 24) (by decide)) ?_
      refine ru_go (t := (29, [some (.inr (some a0)), some (.inl (x1 + 1)), some (.inl x2), z3, z4], [], M)) sm_a98_28 rfl rfl rfl ?_
      refine ru_go (t := (30, [some (.inr (some a0)), some (.inl (x1 + 1)), some (.inl x2), z3, z4], [.inr (some a0)], M)) sm_a98_29 rfl rfl rfl ?_
      refine ru_go (t := (31, [some (.inr (some a0)), some (.inl (x1 + 1)), some (.inl x2), z3, z4], [.inl (x1 + 1), .inr (some a0)], M)) sm_a98_30 rfl rfl rfl ?_
      obtain ⟨h_4, h⟩ := h
      exact ru_call (p := 34) sm_a98_31 rfl (sc_virt (Or.inl rfl) rfl rfl h_4 (Nat.le_of_ble_eq_true rfl)) rfl h
theorem bb_98_34 {d : Nat} {M : sm_M} {Q : Option sm_V → sm_M → Prop} {a0 : Nat} {x1 : Int32} {x2 : Int32} {z3 : Option sm_V} {z4 : Option sm_V} {t0 : Option Nat}
    (h : ((t0 = none → sm_Run (d + 1) 98 54 [some (.inr (some a0)), some (.inl x1), some (.inl x2), some (.inr none), z4] [] M Q) ∧ (∀ b_1, t0 = some b_1 → sm_K M b_1 = 30 ∧ (((sm_I M b_1 1) = 0 → sm_Run (d + 1) 98 54 [some (.inr (some a0)), some (.inl x1), some (.inl x2), some (.inr (some b_1)), z4] [] M Q) ∧ (¬ ((sm_I M b_1 1) = 0) → sm_K M a0 = 21 ∧ sm_Run d 99 0 (sm_ent 99 [.inr (some a0), .inr (some b_1)]) [] M (fun v M1 => sm_Run (d + 1) 98 51 [some (.inr (some a0)), some (.inl x1), some (.inl x2), some (.inr (some b_1)), z4] (v.toList ++ []) M1 Q)))))) :
    sm_Run (d + 1) 98 34 [some (.inr (some a0)), some (.inl x1), some (.inl x2), z3, z4] [.inr t0] M Q := by
  refine ru_go (t := (35, [some (.inr (some a0)), some (.inl x1), some (.inl x2), some (.inr t0), z4], [], M)) sm_a98_34 rfl rfl rfl ?_
  refine ru_go (t := (36, [some (.inr (some a0)), some (.inl x1), some (.inl x2), some (.inr t0), z4], [.inr t0], M)) sm_a98_35 rfl rfl rfl ?_
  refine ru_ifnull (pc := 36) (p := 54) (p2 := 39) sm_a98_36 (by decide) rfl ⟨fun hc => ?_, fun b_1 hc => ?_⟩
  · have h := h.1 hc
    try rw [hc]
    exact h
  · have h := h.2 b_1 hc
    try rw [hc]
    refine ru_go (t := (40, [some (.inr (some a0)), some (.inl x1), some (.inl x2), some (.inr (some b_1)), z4], [.inr (some b_1)], M)) sm_a98_39 rfl rfl rfl ?_
    obtain ⟨h_3, h⟩ := h
    refine ru_go (t := (43, [some (.inr (some a0)), some (.inl x1), some (.inl x2), some (.inr (some b_1)), z4], [.inl (sm_I M b_1 1)], M)) sm_a98_40 rfl rfl (st_getI h_3 rfl) ?_
    refine ru_if (pc := 43) (p := 54) (p2 := 46) sm_a98_43 (by decide) rfl ⟨fun hc_4 => ?_, fun hc_4 => ?_⟩
    · have h := h.1 hc_4
      exact h
    · have h := h.2 hc_4
      refine ru_go (t := (47, [some (.inr (some a0)), some (.inl x1), some (.inl x2), some (.inr (some b_1)), z4], [.inr (some a0)], M)) sm_a98_46 rfl rfl rfl ?_
      refine ru_go (t := (48, [some (.inr (some a0)), some (.inl x1), some (.inl x2), some (.inr (some b_1)), z4], [.inr (some b_1), .inr (some a0)], M)) sm_a98_47 rfl rfl rfl ?_
      obtain ⟨h_5, h⟩ := h
      exact ru_call (p := 51) sm_a98_48 rfl (sc_virt (Or.inl rfl) rfl rfl h_5 (Nat.le_of_ble_eq_true rfl)) rfl h
theorem bb_98_51 {d : Nat} {M : sm_M} {Q : Option sm_V → sm_M → Prop} {a0 : Nat} {x1 : Int32} {x2 : Int32} {r3 : Option Nat} {z4 : Option sm_V} {t0 : Option Nat}
    (h : ((t0 = none → sm_Run (d + 1) 98 7 [some (.inr (some a0)), some (.inl x1), some (.inl (x2 + 1)), some (.inr r3), some (.inr none)] [] M Q) ∧ (∀ b_1, t0 = some b_1 → sm_K M a0 = 21 ∧ Q (some (.inr (some b_1))) (sm_putI M a0 8 x1)))) :
    sm_Run (d + 1) 98 51 [some (.inr (some a0)), some (.inl x1), some (.inl x2), some (.inr r3), z4] [.inr t0] M Q := by
  refine ru_go (t := (55, [some (.inr (some a0)), some (.inl x1), some (.inl x2), some (.inr r3), z4], [.inr t0], M)) sm_a98_51 rfl rfl (st_goto (pc := 51) (by decide)) ?_
  refine ru_go (t := (57, [some (.inr (some a0)), some (.inl x1), some (.inl x2), some (.inr r3), some (.inr t0)], [], M)) sm_a98_55 rfl rfl rfl ?_
  refine ru_go (t := (59, [some (.inr (some a0)), some (.inl x1), some (.inl x2), some (.inr r3), some (.inr t0)], [.inr t0], M)) sm_a98_57 rfl rfl rfl ?_
  refine ru_ifnull (pc := 59) (p := 70) (p2 := 62) sm_a98_59 (by decide) rfl ⟨fun hc => ?_, fun b_1 hc => ?_⟩
  · have h := h.1 hc
    try rw [hc]
    refine ru_go (t := (73, [some (.inr (some a0)), some (.inl x1), some (.inl (x2 + 1)), some (.inr r3), some (.inr none)], [], M)) sm_a98_70 rfl rfl (st_iinc rfl (by decide)) ?_
    refine ru_go (t := (7, [some (.inr (some a0)), some (.inl x1), some (.inl (x2 + 1)), some (.inr r3), some (.inr none)], [], M)) sm_a98_73 rfl rfl (st_goto (pc := 73) (by decide)) ?_
    exact h
  · have h := h.2 b_1 hc
    try rw [hc]
    refine ru_go (t := (63, [some (.inr (some a0)), some (.inl x1), some (.inl x2), some (.inr r3), some (.inr (some b_1))], [.inr (some a0)], M)) sm_a98_62 rfl rfl rfl ?_
    refine ru_go (t := (64, [some (.inr (some a0)), some (.inl x1), some (.inl x2), some (.inr r3), some (.inr (some b_1))], [.inl x1, .inr (some a0)], M)) sm_a98_63 rfl rfl rfl ?_
    obtain ⟨h_3, h⟩ := h
    refine ru_go (t := (67, [some (.inr (some a0)), some (.inl x1), some (.inl x2), some (.inr r3), some (.inr (some b_1))], [], sm_putI M a0 8 x1)) sm_a98_64 rfl rfl (st_putI h_3 rfl) ?_
    refine ru_go (t := (69, [some (.inr (some a0)), some (.inl x1), some (.inl x2), some (.inr r3), some (.inr (some b_1))], [.inr (some b_1)], sm_putI M a0 8 x1)) sm_a98_67 rfl rfl rfl ?_
    exact ru_ret sm_a98_69 rfl h
theorem bb_98_54 {d : Nat} {M : sm_M} {Q : Option sm_V → sm_M → Prop} {a0 : Nat} {x1 : Int32} {x2 : Int32} {r3 : Option Nat} {z4 : Option sm_V}
    (h : sm_Run (d + 1) 98 7 [some (.inr (some a0)), some (.inl x1), some (.inl (x2 + 1)), some (.inr r3), some (.inr none)] [] M Q) :
    sm_Run (d + 1) 98 54 [some (.inr (some a0)), some (.inl x1), some (.inl x2), some (.inr r3), z4] [] M Q := by
  refine ru_go (t := (55, [some (.inr (some a0)), some (.inl x1), some (.inl x2), some (.inr r3), z4], [.inr none], M)) sm_a98_54 rfl rfl rfl ?_
  refine ru_go (t := (57, [some (.inr (some a0)), some (.inl x1), some (.inl x2), some (.inr r3), some (.inr none)], [], M)) sm_a98_55 rfl rfl rfl ?_
  refine ru_go (t := (59, [some (.inr (some a0)), some (.inl x1), some (.inl x2), some (.inr r3), some (.inr none)], [.inr none], M)) sm_a98_57 rfl rfl rfl ?_
  refine ru_go (t := (70, [some (.inr (some a0)), some (.inl x1), some (.inl x2), some (.inr r3), some (.inr none)], [], M)) sm_a98_59 rfl rfl rfl ?_
  refine ru_go (t := (73, [some (.inr (some a0)), some (.inl x1), some (.inl (x2 + 1)), some (.inr r3), some (.inr none)], [], M)) sm_a98_70 rfl rfl (st_iinc rfl (by decide)) ?_
  refine ru_go (t := (7, [some (.inr (some a0)), some (.inl x1), some (.inl (x2 + 1)), some (.inr r3), some (.inr none)], [], M)) sm_a98_73 rfl rfl (st_goto (pc := 73) (by decide)) ?_
  exact h

/-! WireBus$Host.ready:(LWireBus$Pipe;)LWireBus$Transfer; -/
theorem sm_a99_0 : sm_at 99 0 = some (.aload_n 1, 1, (0, 0, 0, 0)) := by decide +kernel
theorem sm_a99_1 : sm_at 99 1 = some (.getfield 53, 3, (9, 4, 1, 366)) := by decide +kernel
theorem sm_a99_4 : sm_at 99 4 = some (.ifCond .eq 22, 3, (0, 0, 0, 0)) := by decide +kernel
theorem sm_a99_7 : sm_at 99 7 = some (.aload_n 1, 1, (0, 0, 0, 0)) := by decide +kernel
theorem sm_a99_8 : sm_at 99 8 = some (.getfield 149, 3, (9, 6, 1, 372)) := by decide +kernel
theorem sm_a99_11 : sm_at 99 11 = some (.aload_n 0, 1, (0, 0, 0, 0)) := by decide +kernel
theorem sm_a99_12 : sm_at 99 12 = some (.getfield 120, 3, (6, 6, 0, 435)) := by decide +kernel
theorem sm_a99_15 : sm_at 99 15 = some (.if_icmp .eq 11, 3, (0, 0, 0, 0)) := by decide +kernel
theorem sm_a99_18 : sm_at 99 18 = some (.aload_n 0, 1, (0, 0, 0, 0)) := by decide +kernel
theorem sm_a99_19 : sm_at 99 19 = some (.aload_n 1, 1, (0, 0, 0, 0)) := by decide +kernel
theorem sm_a99_20 : sm_at 99 20 = some (.invokevirtual 143, 3, (10, 100, 6, 995)) := by decide +kernel
theorem sm_a99_23 : sm_at 99 23 = some (.goto 4, 3, (0, 0, 0, 0)) := by decide +kernel
theorem sm_a99_26 : sm_at 99 26 = some (.aconst_null, 1, (0, 0, 0, 0)) := by decide +kernel
theorem sm_a99_27 : sm_at 99 27 = some (.areturn, 1, (0, 0, 0, 0)) := by decide +kernel
theorem bb_99_0 {d : Nat} {M : sm_M} {Q : Option sm_V → sm_M → Prop} {a0 : Nat} {r1 : Option Nat}
    (h : ∃ b_1, r1 = some b_1 ∧ sm_K M b_1 = 30 ∧ (((sm_I M b_1 4) = 0 → Q (some (.inr none)) M) ∧ (¬ ((sm_I M b_1 4) = 0) → sm_K M a0 = 21 ∧ (((sm_I M b_1 6) = (sm_I M a0 6) → Q (some (.inr none)) M) ∧ (¬ ((sm_I M b_1 6) = (sm_I M a0 6)) → sm_Run d 100 0 (sm_ent 100 [.inr (some a0), .inr (some b_1)]) [] M (fun v M1 => sm_Run (d + 1) 99 23 [some (.inr (some a0)), some (.inr (some b_1))] (v.toList ++ []) M1 Q)))))) :
    sm_Run (d + 1) 99 0 [some (.inr (some a0)), some (.inr r1)] [] M Q := by
  refine ru_go (t := (1, [some (.inr (some a0)), some (.inr r1)], [.inr r1], M)) sm_a99_0 rfl rfl rfl ?_
  obtain ⟨b_1, hb_2, h⟩ := h
  rw [hb_2]
  obtain ⟨h_3, h⟩ := h
  refine ru_go (t := (4, [some (.inr (some a0)), some (.inr (some b_1))], [.inl (sm_I M b_1 4)], M)) sm_a99_1 rfl rfl (st_getI h_3 rfl) ?_
  refine ru_if (pc := 4) (p := 26) (p2 := 7) sm_a99_4 (by decide) rfl ⟨fun hc_4 => ?_, fun hc_4 => ?_⟩
  · have h := h.1 hc_4
    refine ru_go (t := (27, [some (.inr (some a0)), some (.inr (some b_1))], [.inr none], M)) sm_a99_26 rfl rfl rfl ?_
    exact ru_ret sm_a99_27 rfl h
  · have h := h.2 hc_4
    refine ru_go (t := (8, [some (.inr (some a0)), some (.inr (some b_1))], [.inr (some b_1)], M)) sm_a99_7 rfl rfl rfl ?_
    refine ru_go (t := (11, [some (.inr (some a0)), some (.inr (some b_1))], [.inl (sm_I M b_1 6)], M)) sm_a99_8 rfl rfl (st_getI h_3 rfl) ?_
    refine ru_go (t := (12, [some (.inr (some a0)), some (.inr (some b_1))], [.inr (some a0), .inl (sm_I M b_1 6)], M)) sm_a99_11 rfl rfl rfl ?_
    obtain ⟨h_5, h⟩ := h
    refine ru_go (t := (15, [some (.inr (some a0)), some (.inr (some b_1))], [.inl (sm_I M a0 6), .inl (sm_I M b_1 6)], M)) sm_a99_12 rfl rfl (st_getI h_5 rfl) ?_
    refine ru_icmp (pc := 15) (p := 26) (p2 := 18) sm_a99_15 (by decide) rfl ⟨fun hc_6 => ?_, fun hc_6 => ?_⟩
    · have h := h.1 hc_6
      refine ru_go (t := (27, [some (.inr (some a0)), some (.inr (some b_1))], [.inr none], M)) sm_a99_26 rfl rfl rfl ?_
      exact ru_ret sm_a99_27 rfl h
    · have h := h.2 hc_6
      refine ru_go (t := (19, [some (.inr (some a0)), some (.inr (some b_1))], [.inr (some a0)], M)) sm_a99_18 rfl rfl rfl ?_
      refine ru_go (t := (20, [some (.inr (some a0)), some (.inr (some b_1))], [.inr (some b_1), .inr (some a0)], M)) sm_a99_19 rfl rfl rfl ?_
      exact ru_call (p := 23) sm_a99_20 rfl (sc_virt (Or.inl rfl) rfl rfl h_5 (Nat.le_of_ble_eq_true rfl)) rfl h
theorem bb_99_23 {d : Nat} {M : sm_M} {Q : Option sm_V → sm_M → Prop} {a0 : Nat} {r1 : Option Nat} {t0 : Option Nat}
    (h : Q (some (.inr t0)) M) :
    sm_Run (d + 1) 99 23 [some (.inr (some a0)), some (.inr r1)] [.inr t0] M Q := by
  refine ru_go (t := (27, [some (.inr (some a0)), some (.inr r1)], [.inr t0], M)) sm_a99_23 rfl rfl (st_goto (pc := 23) (by decide)) ?_
  exact ru_ret sm_a99_27 rfl h

/-! WireBus$Host.firstWaiting:(LWireBus$Pipe;)LWireBus$Transfer; -/
theorem sm_a100_0 : sm_at 100 0 = some (.aload_n 1, 1, (0, 0, 0, 0)) := by decide +kernel
theorem sm_a100_1 : sm_at 100 1 = some (.getfield 152, 3, (9, 7, 1, 373)) := by decide +kernel
theorem sm_a100_4 : sm_at 100 4 = some (.istore_n 2, 1, (0, 0, 0, 0)) := by decide +kernel
theorem sm_a100_5 : sm_at 100 5 = some (.iload_n 2, 1, (0, 0, 0, 0)) := by decide +kernel
theorem sm_a100_6 : sm_at 100 6 = some (.aload_n 0, 1, (0, 0, 0, 0)) := by decide +kernel
theorem sm_a100_7 : sm_at 100 7 = some (.getfield 39, 3, (6, 2, 0, 428)) := by decide +kernel
theorem sm_a100_10 : sm_at 100 10 = some (.if_icmp .ge 38, 3, (0, 0, 0, 0)) := by decide +kernel
theorem sm_a100_13 : sm_at 100 13 = some (.aload_n 0, 1, (0, 0, 0, 0)) := by decide +kernel
theorem sm_a100_14 : sm_at 100 14 = some (.getfield 21, 3, (6, 1, 0, 426)) := by decide +kernel
theorem sm_a100_17 : sm_at 100 17 = some (.iload_n 2, 1, (0, 0, 0, 0)) := by decide +kernel
theorem sm_a100_18 : sm_at 100 18 = some (.aaload, 1, (0, 0, 0, 0)) := by decide +kernel
theorem sm_a100_19 : sm_at 100 19 = some (.astore_n 3, 1, (0, 0, 0, 0)) := by decide +kernel
theorem sm_a100_20 : sm_at 100 20 = some (.aload_n 3, 1, (0, 0, 0, 0)) := by decide +kernel
theorem sm_a100_21 : sm_at 100 21 = some (.getfield 155, 3, (10, 1, 1, 626)) := by decide +kernel
theorem sm_a100_24 : sm_at 100 24 = some (.aload_n 1, 1, (0, 0, 0, 0)) := by decide +kernel
theorem sm_a100_25 : sm_at 100 25 = some (.if_acmp .ne 17, 3, (0, 0, 0, 0)) := by decide +kernel
theorem sm_a100_28 : sm_at 100 28 = some (.aload_n 3, 1, (0, 0, 0, 0)) := by decide +kernel
theorem sm_a100_29 : sm_at 100 29 = some (.getfield 96, 3, (10, 11, 1, 646)) := by decide +kernel
theorem sm_a100_32 : sm_at 100 32 = some (.ifCond .ne 10, 3, (0, 0, 0, 0)) := by decide +kernel
theorem sm_a100_35 : sm_at 100 35 = some (.aload_n 1, 1, (0, 0, 0, 0)) := by decide +kernel
theorem sm_a100_36 : sm_at 100 36 = some (.iload_n 2, 1, (0, 0, 0, 0)) := by decide +kernel
theorem sm_a100_37 : sm_at 100 37 = some (.putfield 152, 3, (9, 7, 1, 373)) := by decide +kernel
theorem sm_a100_40 : sm_at 100 40 = some (.aload_n 3, 1, (0, 0, 0, 0)) := by decide +kernel
theorem sm_a100_41 : sm_at 100 41 = some (.areturn, 1, (0, 0, 0, 0)) := by decide +kernel
theorem sm_a100_42 : sm_at 100 42 = some (.iinc 2 1, 3, (0, 0, 0, 0)) := by decide +kernel
theorem sm_a100_45 : sm_at 100 45 = some (.goto (-40), 3, (0, 0, 0, 0)) := by decide +kernel
theorem sm_a100_48 : sm_at 100 48 = some (.aload_n 1, 1, (0, 0, 0, 0)) := by decide +kernel
theorem sm_a100_49 : sm_at 100 49 = some (.aload_n 0, 1, (0, 0, 0, 0)) := by decide +kernel
theorem sm_a100_50 : sm_at 100 50 = some (.getfield 39, 3, (6, 2, 0, 428)) := by decide +kernel
theorem sm_a100_53 : sm_at 100 53 = some (.putfield 152, 3, (9, 7, 1, 373)) := by decide +kernel
theorem sm_a100_56 : sm_at 100 56 = some (.aconst_null, 1, (0, 0, 0, 0)) := by decide +kernel
theorem sm_a100_57 : sm_at 100 57 = some (.areturn, 1, (0, 0, 0, 0)) := by decide +kernel
theorem bb_100_0 {d : Nat} {M : sm_M} {Q : Option sm_V → sm_M → Prop} {a0 : Nat} {r1 : Option Nat} {z2 : Option sm_V} {z3 : Option sm_V}
    (h : ∃ b_1, r1 = some b_1 ∧ sm_K M b_1 = 30 ∧ sm_Run d 100 5 [some (.inr (some a0)), some (.inr (some b_1)), some (.inl (sm_I M b_1 7)), z3] [] M Q) :
    sm_Run d 100 0 [some (.inr (some a0)), some (.inr r1), z2, z3] [] M Q := by
  refine ru_go (t := (1, [some (.inr (some a0)), some (.inr r1), z2, z3], [.inr r1], M)) sm_a100_0 rfl rfl rfl ?_
  obtain ⟨b_1, hb_2, h⟩ := h
  rw [hb_2]
  obtain ⟨h_3, h⟩ := h
  refine ru_go (t := (4, [some (.inr (some a0)), some (.inr (some b_1)), z2, z3], [.inl (sm_I M b_1 7)], M)) sm_a100_1 rfl rfl (st_getI h_3 rfl) ?_
  refine ru_go (t := (5, [some (.inr (some a0)), some (.inr (some b_1)), some (.inl (sm_I M b_1 7)), z3], [], M)) sm_a100_4 rfl rfl rfl ?_
  exact h
theorem bb_100_5 {d : Nat} {M : sm_M} {Q : Option sm_V → sm_M → Prop} {a0 : Nat} {r1 : Option Nat} {x2 : Int32} {z3 : Option sm_V}
    (h : sm_K M a0 = 21 ∧ (((sm_I M a0 2) ≤ x2 → ∃ b_3, r1 = some b_3 ∧ sm_K M b_3 = 30 ∧ Q (some (.inr none)) (sm_putI M b_3 7 (sm_I M a0 2))) ∧ (¬ ((sm_I M a0 2) ≤ x2) → ∃ b_6, sm_R M a0 1 = some b_6 ∧ (∃ ci, sm_K M b_6 = 4 + 3 * ci) ∧ sm_in_ M b_6 x2 ∧ ∃ b_10, sm_R M b_6 (x2).toNatClampNeg = some b_10 ∧ sm_K M b_10 = 33 ∧ ((¬ sm_R M b_10 1 = r1 → sm_Run d 100 5 [some (.inr (some a0)), some (.inr r1), some (.inl (x2 + 1)), some (.inr (some b_10))] [] M Q) ∧ (sm_R M b_10 1 = r1 → ((¬ (sm_I M b_10 11) = 0 → sm_Run d 100 5 [some (.inr (some a0)), some (.inr r1), some (.inl (x2 + 1)), some (.inr (some b_10))] [] M Q) ∧ (¬ (¬ (sm_I M b_10 11) = 0) → ∃ b_15, r1 = some b_15 ∧ sm_K M b_15 = 30 ∧ Q (some (.inr (some b_10))) (sm_putI M b_15 7 x2)))))))) :
    sm_Run d 100 5 [some (.inr (some a0)), some (.inr r1), some (.inl x2), z3] [] M Q := by
  refine ru_go (t := (6, [some (.inr (some a0)), some (.inr r1), some (.inl x2), z3], [.inl x2], M)) sm_a100_5 rfl rfl rfl ?_
  refine ru_go (t := (7, [some (.inr (some a0)), some (.inr r1), some (.inl x2), z3], [.inr (some a0), .inl x2], M)) sm_a100_6 rfl rfl rfl ?_
  obtain ⟨h_1, h⟩ := h
  refine ru_go (t := (10, [some (.inr (some a0)), some (.inr r1), some (.inl x2), z3], [.inl (sm_I M a0 2), .inl x2], M)) sm_a100_7 rfl rfl (st_getI h_1 rfl) ?_
  refine ru_icmp (pc := 10) (p := 48) (p2 := 13) sm_a100_10 (by decide) rfl ⟨fun hc_2 => ?_, fun hc_2 => ?_⟩
  · have h := h.1 hc_2
    refine ru_go (t := (49, [some (.inr (some a0)), some (.inr r1), some (.inl x2), z3], [.inr r1], M)) sm_a100_48 rfl rfl rfl ?_
    refine ru_go (t := (50, [some (.inr (some a0)), some (.inr r1), some (.inl x2), z3], [.inr (some a0), .inr r1], M)) sm_a100_49 rfl rfl rfl ?_
    refine ru_go (t := (53, [some (.inr (some a0)), some (.inr r1), some (.inl x2), z3], [.inl (sm_I M a0 2), .inr r1], M)) sm_a100_50 rfl rfl (st_getI h_1 rfl) ?_
    obtain ⟨b_3, hb_4, h⟩ := h
    rw [hb_4]
    obtain ⟨h_5, h⟩ := h
    refine ru_go (t := (56, [some (.inr (some a0)), some (.inr (some b_3)), some (.inl x2), z3], [], sm_putI M b_3 7 (sm_I M a0 2))) sm_a100_53 rfl rfl (st_putI h_5 rfl) ?_
    refine ru_go (t := (57, [some (.inr (some a0)), some (.inr (some b_3)), some (.inl x2), z3], [.inr none], sm_putI M b_3 7 (sm_I M a0 2))) sm_a100_56 rfl rfl rfl ?_
    exact ru_ret sm_a100_57 rfl h
  · have h := h.2 hc_2
    refine ru_go (t := (14, [some (.inr (some a0)), some (.inr r1), some (.inl x2), z3], [.inr (some a0)], M)) sm_a100_13 rfl rfl rfl ?_
    refine ru_go (t := (17, [some (.inr (some a0)), some (.inr r1), some (.inl x2), z3], [.inr (sm_R M a0 1)], M)) sm_a100_14 rfl rfl (st_getR h_1 rfl rfl) ?_
    refine ru_go (t := (18, [some (.inr (some a0)), some (.inr r1), some (.inl x2), z3], [.inl x2, .inr (sm_R M a0 1)], M)) sm_a100_17 rfl rfl rfl ?_
    obtain ⟨b_6, hb_7, h⟩ := h
    rw [hb_7]
    obtain ⟨h_8, h⟩ := h
    obtain ⟨h_9, h⟩ := h
    refine ru_go (t := (19, [some (.inr (some a0)), some (.inr r1), some (.inl x2), z3], [.inr (sm_R M b_6 (x2).toNatClampNeg)], M)) sm_a100_18 rfl rfl (st_aald h_8.choose_spec h_9 rfl) ?_
    refine ru_go (t := (20, [some (.inr (some a0)), some (.inr r1), some (.inl x2), some (.inr (sm_R M b_6 (x2).toNatClampNeg))], [], M)) sm_a100_19 rfl rfl rfl ?_
    refine ru_go (t := (21, [some (.inr (some a0)), some (.inr r1), some (.inl x2), some (.inr (sm_R M b_6 (x2).toNatClampNeg))], [.inr (sm_R M b_6 (x2).toNatClampNeg)], M)) sm_a100_20 rfl rfl rfl ?_
    obtain ⟨b_10, hb_11, h⟩ := h
    rw [hb_11]
    obtain ⟨h_12, h⟩ := h
    refine ru_go (t := (24, [some (.inr (some a0)), some (.inr r1), some (.inl x2), some (.inr (some b_10))], [.inr (sm_R M b_10 1)], M)) sm_a100_21 rfl rfl (st_getR h_12 rfl rfl) ?_
    refine ru_go (t := (25, [some (.inr (some a0)), some (.inr r1), some (.inl x2), some (.inr (some b_10))], [.inr r1, .inr (sm_R M b_10 1)], M)) sm_a100_24 rfl rfl rfl ?_
    refine ru_acmpne (pc := 25) (p := 42) (p2 := 28) sm_a100_25 (by decide) rfl ⟨fun hc_13 => ?_, fun hc_13 => ?_⟩
    · have h := h.1 hc_13
      refine ru_go (t := (45, [some (.inr (some a0)), some (.inr r1), some (.inl (x2 + 1)), some (.inr (some b_10))], [], M)) sm_a100_42 rfl rfl (st_iinc rfl (by decide)) ?_
      refine ru_go (t := (5, [some (.inr (some a0)), some (.inr r1), some (.inl (x2 + 1)), some (.inr (some b_10))], [], M)) sm_a100_45 rfl rfl (st_goto (pc := 45) (by decide)) ?_
      exact h
    · have h := h.2 hc_13
      refine ru_go (t := (29, [some (.inr (some a0)), some (.inr r1), some (.inl x2), some (.inr (some b_10))], [.inr (some b_10)], M)) sm_a100_28 rfl rfl rfl ?_
      refine ru_go (t := (32, [some (.inr (some a0)), some (.inr r1), some (.inl x2), some (.inr (some b_10))], [.inl (sm_I M b_10 11)], M)) sm_a100_29 rfl rfl (st_getI h_12 rfl) ?_
      refine ru_if (pc := 32) (p := 42) (p2 := 35) sm_a100_32 (by decide) rfl ⟨fun hc_14 => ?_, fun hc_14 => ?_⟩
      · have h := h.1 hc_14
        refine ru_go (t := (45, [some (.inr (some a0)), some (.inr r1), some (.inl (x2 + 1)), some (.inr (some b_10))], [], M)) sm_a100_42 rfl rfl (st_iinc rfl (by decide)) ?_
        refine ru_go (t := (5, [some (.inr (some a0)), some (.inr r1), some (.inl (x2 + 1)), some (.inr (some b_10))], [], M)) sm_a100_45 rfl rfl (st_goto (pc := 45) (by decide)) ?_
        exact h
      · have h := h.2 hc_14
        refine ru_go (t := (36, [some (.inr (some a0)), some (.inr r1), some (.inl x2), some (.inr (some b_10))], [.inr r1], M)) sm_a100_35 rfl rfl rfl ?_
        refine ru_go (t := (37, [some (.inr (some a0)), some (.inr r1), some (.inl x2), some (.inr (some b_10))], [.inl x2, .inr r1], M)) sm_a100_36 rfl rfl rfl ?_
        obtain ⟨b_15, hb_16, h⟩ := h
        rw [hb_16]
        obtain ⟨h_17, h⟩ := h
        refine ru_go (t := (40, [some (.inr (some a0)), some (.inr (some b_15)), some (.inl x2), some (.inr (some b_10))], [], sm_putI M b_15 7 x2)) sm_a100_37 rfl rfl (st_putI h_17 rfl) ?_
        refine ru_go (t := (41, [some (.inr (some a0)), some (.inr (some b_15)), some (.inl x2), some (.inr (some b_10))], [.inr (some b_10)], sm_putI M b_15 7 x2)) sm_a100_40 rfl rfl rfl ?_
        exact ru_ret sm_a100_41 rfl h

/-! WireBus$Host.serve:(LWireBus$Wire;LWireBus$Transfer;)V -/
theorem sm_a101_0 : sm_at 101 0 = some (.aload_n 2, 1, (0, 0, 0, 0)) := by decide +kernel
theorem sm_a101_1 : sm_at 101 1 = some (.invokevirtual 158, 3, (10, 126, 10, 1011)) := by decide +kernel
theorem sm_a101_4 : sm_at 101 4 = some (.istore_n 3, 1, (0, 0, 0, 0)) := by decide +kernel
theorem sm_a101_5 : sm_at 101 5 = some (.aload_n 1, 1, (0, 0, 0, 0)) := by decide +kernel
theorem sm_a101_6 : sm_at 101 6 = some (.iconst (-1), 1, (0, 0, 0, 0)) := by decide +kernel
theorem sm_a101_7 : sm_at 101 7 = some (.aload_n 2, 1, (0, 0, 0, 0)) := by decide +kernel
theorem sm_a101_8 : sm_at 101 8 = some (.invokevirtual 161, 3, (10, 127, 10, 1015)) := by decide +kernel
theorem sm_a101_11 : sm_at 101 11 = some (.invokevirtual 99, 3, (10, 142, 11, 752)) := by decide +kernel
theorem sm_a101_14 : sm_at 101 14 = some (.aload_n 2, 1, (0, 0, 0, 0)) := by decide +kernel
theorem sm_a101_15 : sm_at 101 15 = some (.invokevirtual 165, 3, (10, 128, 10, 1020)) := by decide +kernel
theorem sm_a101_18 : sm_at 101 18 = some (.putfield 108, 3, (7, 2, 1, 155)) := by decide +kernel
theorem sm_a101_21 : sm_at 101 21 = some (.aload_n 1, 1, (0, 0, 0, 0)) := by decide +kernel
theorem sm_a101_22 : sm_at 101 22 = some (.invokevirtual 113, 3, (10, 143, 11, 760)) := by decide +kernel
theorem sm_a101_25 : sm_at 101 25 = some (.pop, 1, (0, 0, 0, 0)) := by decide +kernel
theorem sm_a101_26 : sm_at 101 26 = some (.iload_n 3, 1, (0, 0, 0, 0)) := by decide +kernel
theorem sm_a101_27 : sm_at 101 27 = some (.ifCond .ne 21, 3, (0, 0, 0, 0)) := by decide +kernel
theorem sm_a101_30 : sm_at 101 30 = some (.aload_n 2, 1, (0, 0, 0, 0)) := by decide +kernel
theorem sm_a101_31 : sm_at 101 31 = some (.aload_n 1, 1, (0, 0, 0, 0)) := by decide +kernel
theorem sm_a101_32 : sm_at 101 32 = some (.iconst (-1), 1, (0, 0, 0, 0)) := by decide +kernel
theorem sm_a101_33 : sm_at 101 33 = some (.aload_n 2, 1, (0, 0, 0, 0)) := by decide +kernel
theorem sm_a101_34 : sm_at 101 34 = some (.invokevirtual 168, 3, (10, 130, 10, 1024)) := by decide +kernel
theorem sm_a101_37 : sm_at 101 37 = some (.invokevirtual 99, 3, (10, 142, 11, 752)) := by decide +kernel
theorem sm_a101_40 : sm_at 101 40 = some (.invokevirtual 171, 3, (10, 131, 10, 1029)) := by decide +kernel
theorem sm_a101_43 : sm_at 101 43 = some (.aload_n 1, 1, (0, 0, 0, 0)) := by decide +kernel
theorem sm_a101_44 : sm_at 101 44 = some (.invokevirtual 113, 3, (10, 143, 11, 760)) := by decide +kernel
theorem sm_a101_47 : sm_at 101 47 = some (.pop, 1, (0, 0, 0, 0)) := by decide +kernel
theorem sm_a101_48 : sm_at 101 48 = some (.aload_n 1, 1, (0, 0, 0, 0)) := by decide +kernel
theorem sm_a101_49 : sm_at 101 49 = some (.invokevirtual 175, 3, (10, 145, 11, 1044)) := by decide +kernel
theorem sm_a101_52 : sm_at 101 52 = some (.ifCond .eq 10, 3, (0, 0, 0, 0)) := by decide +kernel
theorem sm_a101_55 : sm_at 101 55 = some (.aload_n 1, 1, (0, 0, 0, 0)) := by decide +kernel
theorem sm_a101_56 : sm_at 101 56 = some (.invokevirtual 113, 3, (10, 143, 11, 760)) := by decide +kernel
theorem sm_a101_59 : sm_at 101 59 = some (.goto 4, 3, (0, 0, 0, 0)) := by decide +kernel
theorem sm_a101_62 : sm_at 101 62 = some (.aconst_null, 1, (0, 0, 0, 0)) := by decide +kernel
theorem sm_a101_63 : sm_at 101 63 = some (.astore 4, 2, (0, 0, 0, 0)) := by decide +kernel
theorem sm_a101_65 : sm_at 101 65 = some (.aload 4, 2, (0, 0, 0, 0)) := by decide +kernel
theorem sm_a101_67 : sm_at 101 67 = some (.ifnull 31, 3, (0, 0, 0, 0)) := by decide +kernel
theorem sm_a101_70 : sm_at 101 70 = some (.aload 4, 2, (0, 0, 0, 0)) := by decide +kernel
theorem sm_a101_72 : sm_at 101 72 = some (.getfield 178, 3, (7, 1, 1, 150)) := by decide +kernel
theorem sm_a101_75 : sm_at 101 75 = some (.bipush 10, 2, (0, 0, 0, 0)) := by decide +kernel
theorem sm_a101_77 : sm_at 101 77 = some (.if_icmp .ne 21, 3, (0, 0, 0, 0)) := by decide +kernel
theorem sm_a101_80 : sm_at 101 80 = some (.aload_n 2, 1, (0, 0, 0, 0)) := by decide +kernel
theorem sm_a101_81 : sm_at 101 81 = some (.getfield 181, 3, (10, 9, 1, 641)) := by decide +kernel
theorem sm_a101_84 : sm_at 101 84 = some (.ifCond .eq 14, 3, (0, 0, 0, 0)) := by decide +kernel
theorem sm_a101_87 : sm_at 101 87 = some (.aload_n 2, 1, (0, 0, 0, 0)) := by decide +kernel
theorem sm_a101_88 : sm_at 101 88 = some (.getfield 155, 3, (10, 1, 1, 626)) := by decide +kernel
theorem sm_a101_91 : sm_at 101 91 = some (.aload_n 0, 1, (0, 0, 0, 0)) := by decide +kernel
theorem sm_a101_92 : sm_at 101 92 = some (.getfield 120, 3, (6, 6, 0, 435)) := by decide +kernel
theorem sm_a101_95 : sm_at 101 95 = some (.putfield 149, 3, (9, 6, 1, 372)) := by decide +kernel
theorem sm_a101_98 : sm_at 101 98 = some (.aload_n 2, 1, (0, 0, 0, 0)) := by decide +kernel
theorem sm_a101_99 : sm_at 101 99 = some (.aload 4, 2, (0, 0, 0, 0)) := by decide +kernel
theorem sm_a101_101 : sm_at 101 101 = some (.invokevirtual 184, 3, (10, 132, 10, 1054)) := by decide +kernel
theorem sm_a101_104 : sm_at 101 104 = some (.ifCond .eq 15, 3, (0, 0, 0, 0)) := by decide +kernel
theorem sm_a101_107 : sm_at 101 107 = some (.aload_n 1, 1, (0, 0, 0, 0)) := by decide +kernel
theorem sm_a101_108 : sm_at 101 108 = some (.iconst (-1), 1, (0, 0, 0, 0)) := by decide +kernel
theorem sm_a101_109 : sm_at 101 109 = some (.iconst 2, 1, (0, 0, 0, 0)) := by decide +kernel
theorem sm_a101_110 : sm_at 101 110 = some (.invokevirtual 99, 3, (10, 142, 11, 752)) := by decide +kernel
theorem sm_a101_113 : sm_at 101 113 = some (.pop, 1, (0, 0, 0, 0)) := by decide +kernel
theorem sm_a101_114 : sm_at 101 114 = some (.aload_n 1, 1, (0, 0, 0, 0)) := by decide +kernel
theorem sm_a101_115 : sm_at 101 115 = some (.invokevirtual 113, 3, (10, 143, 11, 760)) := by decide +kernel
theorem sm_a101_118 : sm_at 101 118 = some (.pop, 1, (0, 0, 0, 0)) := by decide +kernel
theorem sm_a101_119 : sm_at 101 119 = some (.aload_n 2, 1, (0, 0, 0, 0)) := by decide +kernel
theorem sm_a101_120 : sm_at 101 120 = some (.getfield 96, 3, (10, 11, 1, 646)) := by decide +kernel
theorem sm_a101_123 : sm_at 101 123 = some (.ifCond .eq 18, 3, (0, 0, 0, 0)) := by decide +kernel
theorem sm_a101_126 : sm_at 101 126 = some (.aload_n 0, 1, (0, 0, 0, 0)) := by decide +kernel
theorem sm_a101_127 : sm_at 101 127 = some (.dup, 1, (0, 0, 0, 0)) := by decide +kernel
theorem sm_a101_128 : sm_at 101 128 = some (.getfield 42, 3, (6, 3, 0, 430)) := by decide +kernel
theorem sm_a101_131 : sm_at 101 131 = some (.iconst 1, 1, (0, 0, 0, 0)) := by decide +kernel
theorem sm_a101_132 : sm_at 101 132 = some (.isub, 1, (0, 0, 0, 0)) := by decide +kernel
theorem sm_a101_133 : sm_at 101 133 = some (.putfield 42, 3, (6, 3, 0, 430)) := by decide +kernel
theorem sm_a101_136 : sm_at 101 136 = some (.aload_n 0, 1, (0, 0, 0, 0)) := by decide +kernel
theorem sm_a101_137 : sm_at 101 137 = some (.aload_n 2, 1, (0, 0, 0, 0)) := by decide +kernel
theorem sm_a101_138 : sm_at 101 138 = some (.invokevirtual 188, 3, (10, 102, 6, 1077)) := by decide +kernel
theorem sm_a101_141 : sm_at 101 141 = some (.return_, 1, (0, 0, 0, 0)) := by decide +kernel
theorem bb_101_0 {d : Nat} {M : sm_M} {Q : Option sm_V → sm_M → Prop} {a0 : Nat} {r1 : Option Nat} {r2 : Option Nat} {z3 : Option sm_V} {z4 : Option sm_V}
    (h : ∃ b_1, r2 = some b_1 ∧ sm_K M b_1 = 33 ∧ sm_Run d 126 0 (sm_ent 126 [.inr (some b_1)]) [] M (fun v M1 => sm_Run (d + 1) 101 4 [some (.inr (some a0)), some (.inr r1), some (.inr (some b_1)), z3, z4] (v.toList ++ []) M1 Q)) :
    sm_Run (d + 1) 101 0 [some (.inr (some a0)), some (.inr r1), some (.inr r2), z3, z4] [] M Q := by
  refine ru_go (t := (1, [some (.inr (some a0)), some (.inr r1), some (.inr r2), z3, z4], [.inr r2], M)) sm_a101_0 rfl rfl rfl ?_
  obtain ⟨b_1, hb_2, h⟩ := h
  rw [hb_2]
  obtain ⟨h_3, h⟩ := h
  exact ru_call (p := 4) sm_a101_1 rfl (sc_virt (Or.inl rfl) rfl rfl h_3 (Nat.le_of_ble_eq_true rfl)) rfl h
theorem bb_101_4 {d : Nat} {M : sm_M} {Q : Option sm_V → sm_M → Prop} {a0 : Nat} {r1 : Option Nat} {r2 : Option Nat} {z3 : Option sm_V} {z4 : Option sm_V} {y0 : Int32}
    (h : ∃ b_1, r2 = some b_1 ∧ sm_K M b_1 = 33 ∧ sm_Run d 127 0 (sm_ent 127 [.inr (some b_1)]) [] M (fun v M1 => sm_Run (d + 1) 101 11 [some (.inr (some a0)), some (.inr r1), some (.inr (some b_1)), some (.inl y0), z4] (v.toList ++ [.inl (-1), .inr r1]) M1 Q)) :
    sm_Run (d + 1) 101 4 [some (.inr (some a0)), some (.inr r1), some (.inr r2), z3, z4] [.inl y0] M Q := by
  refine ru_go (t := (5, [some (.inr (some a0)), some (.inr r1), some (.inr r2), some (.inl y0), z4], [], M)) sm_a101_4 rfl rfl rfl ?_
  refine ru_go (t := (6, [some (.inr (some a0)), some (.inr r1), some (.inr r2), some (.inl y0), z4], [.inr r1], M)) sm_a101_5 rfl rfl rfl ?_
  refine ru_go (t := (7, [some (.inr (some a0)), some (.inr r1), some (.inr r2), some (.inl y0), z4], [.inl (-1), .inr r1], M)) sm_a101_6 rfl rfl (st_iconst (by decide)) ?_
  refine ru_go (t := (8, [some (.inr (some a0)), some (.inr r1), some (.inr r2), some (.inl y0), z4], [.inr r2, .inl (-1), .inr r1], M)) sm_a101_7 rfl rfl rfl ?_
  obtain ⟨b_1, hb_2, h⟩ := h
  rw [hb_2]
  obtain ⟨h_3, h⟩ := h
  exact ru_call (p := 11) sm_a101_8 rfl (sc_virt (Or.inl rfl) rfl rfl h_3 (Nat.le_of_ble_eq_true rfl)) rfl h
theorem bb_101_11 {d : Nat} {M : sm_M} {Q : Option sm_V → sm_M → Prop} {a0 : Nat} {r1 : Option Nat} {r2 : Option Nat} {x3 : Int32} {z4 : Option sm_V} {y0 : Int32} {y1 : Int32} {t2 : Option Nat}
    (h : ∃ b_1, t2 = some b_1 ∧ sm_K M b_1 = 36 ∧ sm_Run d 142 0 (sm_ent 142 [.inr (some b_1), .inl y1, .inl y0]) [] M (fun v M1 => sm_Run (d + 1) 101 14 [some (.inr (some a0)), some (.inr r1), some (.inr r2), some (.inl x3), z4] (v.toList ++ []) M1 Q)) :
    sm_Run (d + 1) 101 11 [some (.inr (some a0)), some (.inr r1), some (.inr r2), some (.inl x3), z4] [.inl y0, .inl y1, .inr t2] M Q := by
  obtain ⟨b_1, hb_2, h⟩ := h
  rw [hb_2]
  obtain ⟨h_3, h⟩ := h
  exact ru_call (p := 14) sm_a101_11 rfl (sc_virt (Or.inl rfl) rfl rfl h_3 (Nat.le_of_ble_eq_true rfl)) rfl h
theorem bb_101_14 {d : Nat} {M : sm_M} {Q : Option sm_V → sm_M → Prop} {a0 : Nat} {r1 : Option Nat} {r2 : Option Nat} {x3 : Int32} {z4 : Option sm_V} {t0 : Option Nat}
    (h : ∃ b_1, r2 = some b_1 ∧ sm_K M b_1 = 33 ∧ sm_Run d 128 0 (sm_ent 128 [.inr (some b_1)]) [] M (fun v M1 => sm_Run (d + 1) 101 18 [some (.inr (some a0)), some (.inr r1), some (.inr (some b_1)), some (.inl x3), z4] (v.toList ++ [.inr t0]) M1 Q)) :
    sm_Run (d + 1) 101 14 [some (.inr (some a0)), some (.inr r1), some (.inr r2), some (.inl x3), z4] [.inr t0] M Q := by
  refine ru_go (t := (15, [some (.inr (some a0)), some (.inr r1), some (.inr r2), some (.inl x3), z4], [.inr r2, .inr t0], M)) sm_a101_14 rfl rfl rfl ?_
  obtain ⟨b_1, hb_2, h⟩ := h
  rw [hb_2]
  obtain ⟨h_3, h⟩ := h
  exact ru_call (p := 18) sm_a101_15 rfl (sc_virt (Or.inl rfl) rfl rfl h_3 (Nat.le_of_ble_eq_true rfl)) rfl h
theorem bb_101_18 {d : Nat} {M : sm_M} {Q : Option sm_V → sm_M → Prop} {a0 : Nat} {r1 : Option Nat} {r2 : Option Nat} {x3 : Int32} {z4 : Option sm_V} {y0 : Int32} {t1 : Option Nat}
    (h : ∃ b_1, t1 = some b_1 ∧ sm_K M b_1 = 24 ∧ ∃ b_4, r1 = some b_4 ∧ sm_K M b_4 = 36 ∧ sm_Run d 143 0 (sm_ent 143 [.inr (some b_4)]) [] (sm_putI M b_1 2 y0) (fun v M1 => sm_Run (d + 1) 101 25 [some (.inr (some a0)), some (.inr (some b_4)), some (.inr r2), some (.inl x3), z4] (v.toList ++ []) M1 Q)) :
    sm_Run (d + 1) 101 18 [some (.inr (some a0)), some (.inr r1), some (.inr r2), some (.inl x3), z4] [.inl y0, .inr t1] M Q := by
  obtain ⟨b_1, hb_2, h⟩ := h
  rw [hb_2]
  obtain ⟨h_3, h⟩ := h
  refine ru_go (t := (21, [some (.inr (some a0)), some (.inr r1), some (.inr r2), some (.inl x3), z4], [], sm_putI M b_1 2 y0)) sm_a101_18 rfl rfl (st_putI h_3 rfl) ?_
  refine ru_go (t := (22, [some (.inr (some a0)), some (.inr r1), some (.inr r2), some (.inl x3), z4], [.inr r1], sm_putI M b_1 2 y0)) sm_a101_21 rfl rfl rfl ?_
  obtain ⟨b_4, hb_5, h⟩ := h
  rw [hb_5]
  obtain ⟨h_6, h⟩ := h
  exact ru_call (p := 25) sm_a101_22 rfl (sc_virt (Or.inl rfl) rfl rfl h_6 (Nat.le_of_ble_eq_true rfl)) rfl h
theorem bb_101_25 {d : Nat} {M : sm_M} {Q : Option sm_V → sm_M → Prop} {a0 : Nat} {r1 : Option Nat} {r2 : Option Nat} {x3 : Int32} {z4 : Option sm_V} {t0 : Option Nat}
    (h : ((¬ x3 = 0 → ∃ b_2, r1 = some b_2 ∧ sm_K M b_2 = 36 ∧ sm_Run d 145 0 (sm_ent 145 [.inr (some b_2)]) [] M (fun v M1 => sm_Run (d + 1) 101 52 [some (.inr (some a0)), some (.inr (some b_2)), some (.inr r2), some (.inl x3), z4] (v.toList ++ []) M1 Q)) ∧ (¬ (¬ x3 = 0) → ∃ b_5, r2 = some b_5 ∧ sm_K M b_5 = 33 ∧ sm_Run d 130 0 (sm_ent 130 [.inr (some b_5)]) [] M (fun v M1 => sm_Run (d + 1) 101 37 [some (.inr (some a0)), some (.inr r1), some (.inr (some b_5)), some (.inl x3), z4] (v.toList ++ [.inl (-1), .inr r1, .inr (some b_5)]) M1 Q)))) :
    sm_Run (d + 1) 101 25 [some (.inr (some a0)), some (.inr r1), some (.inr r2), some (.inl x3), z4] [.inr t0] M Q := by
  refine ru_go (t := (26, [some (.inr (some a0)), some (.inr r1), some (.inr r2), some (.inl x3), z4], [], M)) sm_a101_25 rfl rfl rfl ?_
  refine ru_go (t := (27, [some (.inr (some a0)), some (.inr r1), some (.inr r2), some (.inl x3), z4], [.inl x3], M)) sm_a101_26 rfl rfl rfl ?_
  refine ru_if (pc := 27) (p := 48) (p2 := 30) sm_a101_27 (by decide) rfl ⟨fun hc_1 => ?_, fun hc_1 => ?_⟩
  · have h := h.1 hc_1
    refine ru_go (t := (49, [some (.inr (some a0)), some (.inr r1), some (.inr r2), some (.inl x3), z4], [.inr r1], M)) sm_a101_48 rfl rfl rfl ?_
    obtain ⟨b_2, hb_3, h⟩ := h
    rw [hb_3]
    obtain ⟨h_4, h⟩ := h
    exact ru_call (p := 52) sm_a101_49 rfl (sc_virt (Or.inl rfl) rfl rfl h_4 (Nat.le_of_ble_eq_true rfl)) rfl h
  · have h := h.2 hc_1
    refine ru_go (t := (31, [some (.inr (some a0)), some (.inr r1), some (.inr r2), some (.inl x3), z4], [.inr r2], M)) sm_a101_30 rfl rfl rfl ?_
    refine ru_go (t := (32, [some (.inr (some a0)), some (.inr r1), some (.inr r2), some (.inl x3), z4], [.inr r1, .inr r2], M)) sm_a101_31 rfl rfl rfl ?_
    refine ru_go (t := (33, [some (.inr (some a0)), some (.inr r1), some (.inr r2), some (.inl x3), z4], [.inl (-1), .inr r1, .inr r2], M)) sm_a101_32 rfl rfl (st_iconst (by decide)) ?_
    refine ru_go (t := (34, [some (.inr (some a0)), some (.inr r1), some (.inr r2), some (.inl x3), z4], [.inr r2, .inl (-1), .inr r1, .inr r2], M)) sm_a101_33 rfl rfl rfl ?_
    obtain ⟨b_5, hb_6, h⟩ := h
    rw [hb_6]
    obtain ⟨h_7, h⟩ := h
    exact ru_call (p := 37) sm_a101_34 rfl (sc_virt (Or.inl rfl) rfl rfl h_7 (Nat.le_of_ble_eq_true rfl)) rfl h
theorem bb_101_37 {d : Nat} {M : sm_M} {Q : Option sm_V → sm_M → Prop} {a0 : Nat} {r1 : Option Nat} {r2 : Option Nat} {x3 : Int32} {z4 : Option sm_V} {y0 : Int32} {y1 : Int32} {t2 : Option Nat} {t3 : Option Nat}
    (h : ∃ b_1, t2 = some b_1 ∧ sm_K M b_1 = 36 ∧ sm_Run d 142 0 (sm_ent 142 [.inr (some b_1), .inl y1, .inl y0]) [] M (fun v M1 => sm_Run (d + 1) 101 40 [some (.inr (some a0)), some (.inr r1), some (.inr r2), some (.inl x3), z4] (v.toList ++ [.inr t3]) M1 Q)) :
    sm_Run (d + 1) 101 37 [some (.inr (some a0)), some (.inr r1), some (.inr r2), some (.inl x3), z4] [.inl y0, .inl y1, .inr t2, .inr t3] M Q := by
  obtain ⟨b_1, hb_2, h⟩ := h
  rw [hb_2]
  obtain ⟨h_3, h⟩ := h
  exact ru_call (p := 40) sm_a101_37 rfl (sc_virt (Or.inl rfl) rfl rfl h_3 (Nat.le_of_ble_eq_true rfl)) rfl h
theorem bb_101_40 {d : Nat} {M : sm_M} {Q : Option sm_V → sm_M → Prop} {a0 : Nat} {r1 : Option Nat} {r2 : Option Nat} {x3 : Int32} {z4 : Option sm_V} {t0 : Option Nat} {t1 : Option Nat}
    (h : ∃ b_1, t1 = some b_1 ∧ sm_K M b_1 = 33 ∧ sm_Run d 131 0 (sm_ent 131 [.inr (some b_1), .inr t0]) [] M (fun v M1 => sm_Run (d + 1) 101 43 [some (.inr (some a0)), some (.inr r1), some (.inr r2), some (.inl x3), z4] (v.toList ++ []) M1 Q)) :
    sm_Run (d + 1) 101 40 [some (.inr (some a0)), some (.inr r1), some (.inr r2), some (.inl x3), z4] [.inr t0, .inr t1] M Q := by
  obtain ⟨b_1, hb_2, h⟩ := h
  rw [hb_2]
  obtain ⟨h_3, h⟩ := h
  exact ru_call (p := 43) sm_a101_40 rfl (sc_virt (Or.inl rfl) rfl rfl h_3 (Nat.le_of_ble_eq_true rfl)) rfl h
theorem bb_101_43 {d : Nat} {M : sm_M} {Q : Option sm_V → sm_M → Prop} {a0 : Nat} {r1 : Option Nat} {r2 : Option Nat} {x3 : Int32} {z4 : Option sm_V}
    (h : ∃ b_1, r1 = some b_1 ∧ sm_K M b_1 = 36 ∧ sm_Run d 143 0 (sm_ent 143 [.inr (some b_1)]) [] M (fun v M1 => sm_Run (d + 1) 101 47 [some (.inr (some a0)), some (.inr (some b_1)), some (.inr r2), some (.inl x3), z4] (v.toList ++ []) M1 Q)) :
    sm_Run (d + 1) 101 43 [some (.inr (some a0)), some (.inr r1), some (.inr r2), some (.inl x3), z4] [] M Q := by
  refine ru_go (t := (44, [some (.inr (some a0)), some (.inr r1), some (.inr r2), some (.inl x3), z4], [.inr r1], M)) sm_a101_43 rfl rfl rfl ?_
  obtain ⟨b_1, hb_2, h⟩ := h
  rw [hb_2]
  obtain ⟨h_3, h⟩ := h
  exact ru_call (p := 47) sm_a101_44 rfl (sc_virt (Or.inl rfl) rfl rfl h_3 (Nat.le_of_ble_eq_true rfl)) rfl h
theorem bb_101_47 {d : Nat} {M : sm_M} {Q : Option sm_V → sm_M → Prop} {a0 : Nat} {r1 : Option Nat} {r2 : Option Nat} {x3 : Int32} {z4 : Option sm_V} {t0 : Option Nat}
    (h : ∃ b_1, r1 = some b_1 ∧ sm_K M b_1 = 36 ∧ sm_Run d 145 0 (sm_ent 145 [.inr (some b_1)]) [] M (fun v M1 => sm_Run (d + 1) 101 52 [some (.inr (some a0)), some (.inr (some b_1)), some (.inr r2), some (.inl x3), z4] (v.toList ++ []) M1 Q)) :
    sm_Run (d + 1) 101 47 [some (.inr (some a0)), some (.inr r1), some (.inr r2), some (.inl x3), z4] [.inr t0] M Q := by
  refine ru_go (t := (48, [some (.inr (some a0)), some (.inr r1), some (.inr r2), some (.inl x3), z4], [], M)) sm_a101_47 rfl rfl rfl ?_
  refine ru_go (t := (49, [some (.inr (some a0)), some (.inr r1), some (.inr r2), some (.inl x3), z4], [.inr r1], M)) sm_a101_48 rfl rfl rfl ?_
  obtain ⟨b_1, hb_2, h⟩ := h
  rw [hb_2]
  obtain ⟨h_3, h⟩ := h
  exact ru_call (p := 52) sm_a101_49 rfl (sc_virt (Or.inl rfl) rfl rfl h_3 (Nat.le_of_ble_eq_true rfl)) rfl h
theorem bb_101_52 {d : Nat} {M : sm_M} {Q : Option sm_V → sm_M → Prop} {a0 : Nat} {r1 : Option Nat} {r2 : Option Nat} {x3 : Int32} {z4 : Option sm_V} {y0 : Int32}
    (h : ((y0 = 0 → ∃ b_2, r2 = some b_2 ∧ sm_K M b_2 = 33 ∧ sm_Run d 132 0 (sm_ent 132 [.inr (some b_2), .inr none]) [] M (fun v M1 => sm_Run (d + 1) 101 104 [some (.inr (some a0)), some (.inr r1), some (.inr (some b_2)), some (.inl x3), some (.inr none)] (v.toList ++ []) M1 Q)) ∧ (¬ (y0 = 0) → ∃ b_5, r1 = some b_5 ∧ sm_K M b_5 = 36 ∧ sm_Run d 143 0 (sm_ent 143 [.inr (some b_5)]) [] M (fun v M1 => sm_Run (d + 1) 101 59 [some (.inr (some a0)), some (.inr (some b_5)), some (.inr r2), some (.inl x3), z4] (v.toList ++ []) M1 Q)))) :
    sm_Run (d + 1) 101 52 [some (.inr (some a0)), some (.inr r1), some (.inr r2), some (.inl x3), z4] [.inl y0] M Q := by
  refine ru_if (pc := 52) (p := 62) (p2 := 55) sm_a101_52 (by decide) rfl ⟨fun hc_1 => ?_, fun hc_1 => ?_⟩
  · have h := h.1 hc_1
    refine ru_go (t := (63, [some (.inr (some a0)), some (.inr r1), some (.inr r2), some (.inl x3), z4], [.inr none], M)) sm_a101_62 rfl rfl rfl ?_
    refine ru_go (t := (65, [some (.inr (some a0)), some (.inr r1), some (.inr r2), some (.inl x3), some (.inr none)], [], M)) sm_a101_63 rfl rfl rfl ?_
    refine ru_go (t := (67, [some (.inr (some a0)), some (.inr r1), some (.inr r2), some (.inl x3), some (.inr none)], [.inr none], M)) sm_a101_65 rfl rfl rfl ?_
    refine ru_go (t := (98, [some (.inr (some a0)), some (.inr r1), some (.inr r2), some (.inl x3), some (.inr none)], [], M)) sm_a101_67 rfl rfl rfl ?_
    refine ru_go (t := (99, [some (.inr (some a0)), some (.inr r1), some (.inr r2), some (.inl x3), some (.inr none)], [.inr r2], M)) sm_a101_98 rfl rfl rfl ?_
    refine ru_go (t := (101, [some (.inr (some a0)), some (.inr r1), some (.inr r2), some (.inl x3), some (.inr none)], [.inr none, .inr r2], M)) sm_a101_99 rfl rfl rfl ?_
    obtain ⟨b_2, hb_3, h⟩ := h
    rw [hb_3]
    obtain ⟨h_4, h⟩ := h
    exact ru_call (p := 104) sm_a101_101 rfl (sc_virt (Or.inl rfl) rfl rfl h_4 (Nat.le_of_ble_eq_true rfl)) rfl h
  · have h := h.2 hc_1
    refine ru_go (t := (56, [some (.inr (some a0)), some (.inr r1), some (.inr r2), some (.inl x3), z4], [.inr r1], M)) sm_a101_55 rfl rfl rfl ?_
    obtain ⟨b_5, hb_6, h⟩ := h
    rw [hb_6]
    obtain ⟨h_7, h⟩ := h
    exact ru_call (p := 59) sm_a101_56 rfl (sc_virt (Or.inl rfl) rfl rfl h_7 (Nat.le_of_ble_eq_true rfl)) rfl h
theorem bb_101_59 {d : Nat} {M : sm_M} {Q : Option sm_V → sm_M → Prop} {a0 : Nat} {r1 : Option Nat} {r2 : Option Nat} {x3 : Int32} {z4 : Option sm_V} {t0 : Option Nat}
    (h : ((t0 = none → ∃ b_3, r2 = some b_3 ∧ sm_K M b_3 = 33 ∧ sm_Run d 132 0 (sm_ent 132 [.inr (some b_3), .inr none]) [] M (fun v M1 => sm_Run (d + 1) 101 104 [some (.inr (some a0)), some (.inr r1), some (.inr (some b_3)), some (.inl x3), some (.inr none)] (v.toList ++ []) M1 Q)) ∧ (∀ b_1, t0 = some b_1 → sm_K M b_1 = 24 ∧ ((¬ (sm_I M b_1 1) = 10 → ∃ b_8, r2 = some b_8 ∧ sm_K M b_8 = 33 ∧ sm_Run d 132 0 (sm_ent 132 [.inr (some b_8), .inr (some b_1)]) [] M (fun v M1 => sm_Run (d + 1) 101 104 [some (.inr (some a0)), some (.inr r1), some (.inr (some b_8)), some (.inl x3), some (.inr (some b_1))] (v.toList ++ []) M1 Q)) ∧ (¬ (¬ (sm_I M b_1 1) = 10) → ∃ b_11, r2 = some b_11 ∧ sm_K M b_11 = 33 ∧ (((sm_I M b_11 9) = 0 → sm_Run d 132 0 (sm_ent 132 [.inr (some b_11), .inr (some b_1)]) [] M (fun v M1 => sm_Run (d + 1) 101 104 [some (.inr (some a0)), some (.inr r1), some (.inr (some b_11)), some (.inl x3), some (.inr (some b_1))] (v.toList ++ []) M1 Q)) ∧ (¬ ((sm_I M b_11 9) = 0) → sm_K M a0 = 21 ∧ ∃ b_16, sm_R M b_11 1 = some b_16 ∧ sm_K M b_16 = 30 ∧ sm_Run d 132 0 (sm_ent 132 [.inr (some b_11), .inr (some b_1)]) [] (sm_putI M b_16 6 (sm_I M a0 6)) (fun v M1 => sm_Run (d + 1) 101 104 [some (.inr (some a0)), some (.inr r1), some (.inr (some b_11)), some (.inl x3), some (.inr (some b_1))] (v.toList ++ []) M1 Q)))))))) :
    sm_Run (d + 1) 101 59 [some (.inr (some a0)), some (.inr r1), some (.inr r2), some (.inl x3), z4] [.inr t0] M Q := by
  refine ru_go (t := (63, [some (.inr (some a0)), some (.inr r1), some (.inr r2), some (.inl x3), z4], [.inr t0], M)) sm_a101_59 rfl rfl (st_goto (pc := 59) (by decide)) ?_
  refine ru_go (t := (65, [some (.inr (some a0)), some (.inr r1), some (.inr r2), some (.inl x3), some (.inr t0)], [], M)) sm_a101_63 rfl rfl rfl ?_
  refine ru_go (t := (67, [some (.inr (some a0)), some (.inr r1), some (.inr r2), some (.inl x3), some (.inr t0)], [.inr t0], M)) sm_a101_65 rfl rfl rfl ?_
  refine ru_ifnull (pc := 67) (p := 98) (p2 := 70) sm_a101_67 (by decide) rfl ⟨fun hc => ?_, fun b_1 hc => ?_⟩
  · have h := h.1 hc
    try rw [hc]
    refine ru_go (t := (99, [some (.inr (some a0)), some (.inr r1), some (.inr r2), some (.inl x3), some (.inr none)], [.inr r2], M)) sm_a101_98 rfl rfl rfl ?_
    refine ru_go (t := (101, [some (.inr (some a0)), some (.inr r1), some (.inr r2), some (.inl x3), some (.inr none)], [.inr none, .inr r2], M)) sm_a101_99 rfl rfl rfl ?_
    obtain ⟨b_3, hb_4, h⟩ := h
    rw [hb_4]
    obtain ⟨h_5, h⟩ := h
    exact ru_call (p := 104) sm_a101_101 rfl (sc_virt (Or.inl rfl) rfl rfl h_5 (Nat.le_of_ble_eq_true rfl)) rfl h
  · have h := h.2 b_1 hc
    try rw [hc]
    refine ru_go (t := (72, [some (.inr (some a0)), some (.inr r1), some (.inr r2), some (.inl x3), some (.inr (some b_1))], [.inr (some b_1)], M)) sm_a101_70 rfl rfl rfl ?_
    obtain ⟨h_6, h⟩ := h
    refine ru_go (t := (75, [some (.inr (some a0)), some (.inr r1), some (.inr r2), some (.inl x3), some (.inr (some b_1))], [.inl (sm_I M b_1 1)], M)) sm_a101_72 rfl rfl (st_getI h_6 rfl) ?_
    refine ru_go (t := (77, [some (.inr (some a0)), some (.inr r1), some (.inr r2), some (.inl x3), some (.inr (some b_1))], [.inl 10, .inl (sm_I M b_1 1)], M)) sm_a101_75 rfl rfl (st_bipush (by decide)) ?_
    refine ru_icmp (pc := 77) (p := 98) (p2 := 80) sm_a101_77 (by decide) rfl ⟨fun hc_7 => ?_, fun hc_7 => ?_⟩
    · have h := h.1 hc_7
      refine ru_go (t := (99, [some (.inr (some a0)), some (.inr r1), some (.inr r2), some (.inl x3), some (.inr (some b_1))], [.inr r2], M)) sm_a101_98 rfl rfl rfl ?_
      refine ru_go (t := (101, [some (.inr (some a0)), some (.inr r1), some (.inr r2), some (.inl x3), some (.inr (some b_1))], [.inr (some b_1), .inr r2], M)) sm_a101_99 rfl rfl rfl ?_
      obtain ⟨b_8, hb_9, h⟩ := h
      rw [hb_9]
      obtain ⟨h_10, h⟩ := h
      exact ru_call (p := 104) sm_a101_101 rfl (sc_virt (Or.inl rfl) rfl rfl h_10 (Nat.le_of_ble_eq_true rfl)) rfl h
    · have h := h.2 hc_7
      refine ru_go (t := (81, [some (.inr (some a0)), some (.inr r1), some (.inr r2), some (.inl x3), some (.inr (some b_1))], [.inr r2], M)) sm_a101_80 rfl rfl rfl ?_
      obtain ⟨b_11, hb_12, h⟩ := h
      rw [hb_12]
      obtain ⟨h_13, h⟩ := h
      refine ru_go (t := (84, [some (.inr (some a0)), some (.inr r1), some (.inr (some b_11)), some (.inl x3), some (.inr (some b_1))], [.inl (sm_I M b_11 9)], M)) sm_a101_81 rfl rfl (st_getI h_13 rfl) ?_
      refine ru_if (pc := 84) (p := 98) (p2 := 87) sm_a101_84 (by decide) rfl ⟨fun hc_14 => ?_, fun hc_14 => ?_⟩
      · have h := h.1 hc_14
        refine ru_go (t := (99, [some (.inr (some a0)), some (.inr r1), some (.inr (some b_11)), some (.inl x3), some (.inr (some b_1))], [.inr (some b_11)], M)) sm_a101_98 rfl rfl rfl ?_
        refine ru_go (t := (101, [some (.inr (some a0)), some (.inr r1), some (.inr (some b_11)), some (.inl x3), some (.inr (some b_1))], [.inr (some b_1), .inr (some b_11)], M)) sm_a101_99 rfl rfl rfl ?_
        exact ru_call (p := 104) sm_a101_101 rfl (sc_virt (Or.inl rfl) rfl rfl h_13 (Nat.le_of_ble_eq_true rfl)) rfl h
      · have h := h.2 hc_14
        refine ru_go (t := (88, [some (.inr (some a0)), some (.inr r1), some (.inr (some b_11)), some (.inl x3), some (.inr (some b_1))], [.inr (some b_11)], M)) sm_a101_87 rfl rfl rfl ?_
        refine ru_go (t := (91, [some (.inr (some a0)), some (.inr r1), some (.inr (some b_11)), some (.inl x3), some (.inr (some b_1))], [.inr (sm_R M b_11 1)], M)) sm_a101_88 rfl rfl (st_getR h_13 rfl rfl) ?_
        refine ru_go (t := (92, [some (.inr (some a0)), some (.inr r1), some (.inr (some b_11)), some (.inl x3), some (.inr (some b_1))], [.inr (some a0), .inr (sm_R M b_11 1)], M)) sm_a101_91 rfl rfl rfl ?_
        obtain ⟨h_15, h⟩ := h
        refine ru_go (t := (95, [some (.inr (some a0)), some (.inr r1), some (.inr (some b_11)), some (.inl x3), some (.inr (some b_1))], [.inl (sm_I M a0 6), .inr (sm_R M b_11 1)], M)) sm_a101_92 rfl rfl (st_getI h_15 rfl) ?_
        obtain ⟨b_16, hb_17, h⟩ := h
        rw [hb_17]
        obtain ⟨h_18, h⟩ := h
        refine ru_go (t := (98, [some (.inr (some a0)), some (.inr r1), some (.inr (some b_11)), some (.inl x3), some (.inr (some b_1))], [], sm_putI M b_16 6 (sm_I M a0 6))) sm_a101_95 rfl rfl (st_putI h_18 rfl) ?_
        refine ru_go (t := (99, [some (.inr (some a0)), some (.inr r1), some (.inr (some b_11)), some (.inl x3), some (.inr (some b_1))], [.inr (some b_11)], sm_putI M b_16 6 (sm_I M a0 6))) sm_a101_98 rfl rfl rfl ?_
        refine ru_go (t := (101, [some (.inr (some a0)), some (.inr r1), some (.inr (some b_11)), some (.inl x3), some (.inr (some b_1))], [.inr (some b_1), .inr (some b_11)], sm_putI M b_16 6 (sm_I M a0 6))) sm_a101_99 rfl rfl rfl ?_
        exact ru_call (p := 104) sm_a101_101 rfl (sc_virt (Or.inl rfl) rfl rfl h_13 (Nat.le_of_ble_eq_true rfl)) rfl h
theorem bb_101_104 {d : Nat} {M : sm_M} {Q : Option sm_V → sm_M → Prop} {a0 : Nat} {r1 : Option Nat} {r2 : Option Nat} {x3 : Int32} {r4 : Option Nat} {y0 : Int32}
    (h : ((y0 = 0 → sm_Run (d + 1) 101 119 [some (.inr (some a0)), some (.inr r1), some (.inr r2), some (.inl x3), some (.inr r4)] [] M Q) ∧ (¬ (y0 = 0) → ∃ b_2, r1 = some b_2 ∧ sm_K M b_2 = 36 ∧ sm_Run d 142 0 (sm_ent 142 [.inr (some b_2), .inl (-1), .inl 2]) [] M (fun v M1 => sm_Run (d + 1) 101 113 [some (.inr (some a0)), some (.inr (some b_2)), some (.inr r2), some (.inl x3), some (.inr r4)] (v.toList ++ []) M1 Q)))) :
    sm_Run (d + 1) 101 104 [some (.inr (some a0)), some (.inr r1), some (.inr r2), some (.inl x3), some (.inr r4)] [.inl y0] M Q := by
  refine ru_if (pc := 104) (p := 119) (p2 := 107) sm_a101_104 (by decide) rfl ⟨fun hc_1 => ?_, fun hc_1 => ?_⟩
  · have h := h.1 hc_1
    exact h
  · have h := h.2 hc_1
    refine ru_go (t := (108, [some (.inr (some a0)), some (.inr r1), some (.inr r2), some (.inl x3), some (.inr r4)], [.inr r1], M)) sm_a101_107 rfl rfl rfl ?_
    refine ru_go (t := (109, [some (.inr (some a0)), some (.inr r1), some (.inr r2), some (.inl x3), some (.inr r4)], [.inl (-1), .inr r1], M)) sm_a101_108 rfl rfl (st_iconst (by decide)) ?_
    refine ru_go (t := (110, [some (.inr (some a0)), some (.inr r1), some (.inr r2), some (.inl x3), some (.inr r4)], [.inl 2, .inl (-1), .inr r1], M)) sm_a101_109 rfl rfl (st_iconst (by decide)) ?_
    obtain ⟨b_2, hb_3, h⟩ := h
    rw [hb_3]
    obtain ⟨h_4, h⟩ := h
    exact ru_call (p := 113) sm_a101_110 rfl (sc_virt (Or.inl rfl) rfl rfl h_4 (Nat.le_of_ble_eq_true rfl)) rfl h
theorem bb_101_113 {d : Nat} {M : sm_M} {Q : Option sm_V → sm_M → Prop} {a0 : Nat} {r1 : Option Nat} {r2 : Option Nat} {x3 : Int32} {r4 : Option Nat} {t0 : Option Nat}
    (h : ∃ b_1, r1 = some b_1 ∧ sm_K M b_1 = 36 ∧ sm_Run d 143 0 (sm_ent 143 [.inr (some b_1)]) [] M (fun v M1 => sm_Run (d + 1) 101 118 [some (.inr (some a0)), some (.inr (some b_1)), some (.inr r2), some (.inl x3), some (.inr r4)] (v.toList ++ []) M1 Q)) :
    sm_Run (d + 1) 101 113 [some (.inr (some a0)), some (.inr r1), some (.inr r2), some (.inl x3), some (.inr r4)] [.inr t0] M Q := by
  refine ru_go (t := (114, [some (.inr (some a0)), some (.inr r1), some (.inr r2), some (.inl x3), some (.inr r4)], [], M)) sm_a101_113 rfl rfl rfl ?_
  refine ru_go (t := (115, [some (.inr (some a0)), some (.inr r1), some (.inr r2), some (.inl x3), some (.inr r4)], [.inr r1], M)) sm_a101_114 rfl rfl rfl ?_
  obtain ⟨b_1, hb_2, h⟩ := h
  rw [hb_2]
  obtain ⟨h_3, h⟩ := h
  exact ru_call (p := 118) sm_a101_115 rfl (sc_virt (Or.inl rfl) rfl rfl h_3 (Nat.le_of_ble_eq_true rfl)) rfl h
theorem bb_101_118 {d : Nat} {M : sm_M} {Q : Option sm_V → sm_M → Prop} {a0 : Nat} {r1 : Option Nat} {r2 : Option Nat} {x3 : Int32} {r4 : Option Nat} {t0 : Option Nat}
    (h : sm_Run (d + 1) 101 119 [some (.inr (some a0)), some (.inr r1), some (.inr r2), some (.inl x3), some (.inr r4)] [] M Q) :
    sm_Run (d + 1) 101 118 [some (.inr (some a0)), some (.inr r1), some (.inr r2), some (.inl x3), some (.inr r4)] [.inr t0] M Q := by
  refine ru_go (t := (119, [some (.inr (some a0)), some (.inr r1), some (.inr r2), some (.inl x3), some (.inr r4)], [], M)) sm_a101_118 rfl rfl rfl ?_
  exact h
theorem bb_101_119 {d : Nat} {M : sm_M} {Q : Option sm_V → sm_M → Prop} {a0 : Nat} {r1 : Option Nat} {r2 : Option Nat} {x3 : Int32} {r4 : Option Nat}
    (h : ∃ b_1, r2 = some b_1 ∧ sm_K M b_1 = 33 ∧ (((sm_I M b_1 11) = 0 → Q none M) ∧ (¬ ((sm_I M b_1 11) = 0) → sm_K M a0 = 21 ∧ sm_Run d 102 0 (sm_ent 102 [.inr (some a0), .inr (some b_1)]) [] (sm_putI M a0 3 ((sm_I M a0 3) - 1)) (fun v M1 => sm_Run (d + 1) 101 141 [some (.inr (some a0)), some (.inr r1), some (.inr (some b_1)), some (.inl x3), some (.inr r4)] (v.toList ++ []) M1 Q)))) :
    sm_Run (d + 1) 101 119 [some (.inr (some a0)), some (.inr r1), some (.inr r2), some (.inl x3), some (.inr r4)] [] M Q := by
  refine ru_go (t := (120, [some (.inr (some a0)), some (.inr r1), some (.inr r2), some (.inl x3), some (.inr r4)], [.inr r2], M)) sm_a101_119 rfl rfl rfl ?_
  obtain ⟨b_1, hb_2, h⟩ := h
  rw [hb_2]
  obtain ⟨h_3, h⟩ := h
  refine ru_go (t := (123, [some (.inr (some a0)), some (.inr r1), some (.inr (some b_1)), some (.inl x3), some (.inr r4)], [.inl (sm_I M b_1 11)], M)) sm_a101_120 rfl rfl (st_getI h_3 rfl) ?_
  refine ru_if (pc := 123) (p := 141) (p2 := 126) sm_a101_123 (by decide) rfl ⟨fun hc_4 => ?_, fun hc_4 => ?_⟩
  · have h := h.1 hc_4
    exact ru_ret sm_a101_141 (sm_rvv rfl) h
  · have h := h.2 hc_4
    refine ru_go (t := (127, [some (.inr (some a0)), some (.inr r1), some (.inr (some b_1)), some (.inl x3), some (.inr r4)], [.inr (some a0)], M)) sm_a101_126 rfl rfl rfl ?_
    refine ru_go (t := (128, [some (.inr (some a0)), some (.inr r1), some (.inr (some b_1)), some (.inl x3), some (.inr r4)], [.inr (some a0), .inr (some a0)], M)) sm_a101_127 rfl rfl rfl ?_
    obtain ⟨h_5, h⟩ := h
    refine ru_go (t := (131, [some (.inr (some a0)), some (.inr r1), some (.inr (some b_1)), some (.inl x3), some (.inr r4)], [.inl (sm_I M a0 3), .inr (some a0)], M)) sm_a101_128 rfl rfl (st_getI h_5 rfl) ?_
    refine ru_go (t := (132, [some (.inr (some a0)), some (.inr r1), some (.inr (some b_1)), some (.inl x3), some (.inr r4)], [.inl 1, .inl (sm_I M a0 3), .inr (some a0)], M)) sm_a101_131 rfl rfl (st_iconst (by decide)) ?_
    refine ru_go (t := (133, [some (.inr (some a0)), some (.inr r1), some (.inr (some b_1)), some (.inl x3), some (.inr r4)], [.inl ((sm_I M a0 3) - 1), .inr (some a0)], M)) sm_a101_132 rfl rfl rfl ?_
    refine ru_go (t := (136, [some (.inr (some a0)), some (.inr r1), some (.inr (some b_1)), some (.inl x3), some (.inr r4)], [], sm_putI M a0 3 ((sm_I M a0 3) - 1))) sm_a101_133 rfl rfl (st_putI h_5 rfl) ?_
    refine ru_go (t := (137, [some (.inr (some a0)), some (.inr r1), some (.inr (some b_1)), some (.inl x3), some (.inr r4)], [.inr (some a0)], sm_putI M a0 3 ((sm_I M a0 3) - 1))) sm_a101_136 rfl rfl rfl ?_
    refine ru_go (t := (138, [some (.inr (some a0)), some (.inr r1), some (.inr (some b_1)), some (.inl x3), some (.inr r4)], [.inr (some b_1), .inr (some a0)], sm_putI M a0 3 ((sm_I M a0 3) - 1))) sm_a101_137 rfl rfl rfl ?_
    exact ru_call (p := 141) sm_a101_138 rfl (sc_virt (Or.inl rfl) rfl rfl h_5 (Nat.le_of_ble_eq_true rfl)) rfl h
theorem bb_101_141 {d : Nat} {M : sm_M} {Q : Option sm_V → sm_M → Prop} {a0 : Nat} {r1 : Option Nat} {r2 : Option Nat} {x3 : Int32} {r4 : Option Nat}
    (h : Q none M) :
    sm_Run (d + 1) 101 141 [some (.inr (some a0)), some (.inr r1), some (.inr r2), some (.inl x3), some (.inr r4)] [] M Q := by
  exact ru_ret sm_a101_141 (sm_rvv rfl) h

/-! WireBus$Host.finish:(LWireBus$Transfer;)V -/
theorem sm_a102_0 : sm_at 102 0 = some (.aload_n 1, 1, (0, 0, 0, 0)) := by decide +kernel
theorem sm_a102_1 : sm_at 102 1 = some (.getfield 155, 3, (10, 1, 1, 626)) := by decide +kernel
theorem sm_a102_4 : sm_at 102 4 = some (.aload_n 0, 1, (0, 0, 0, 0)) := by decide +kernel
theorem sm_a102_5 : sm_at 102 5 = some (.getfield 30, 3, (6, 4, 0, 432)) := by decide +kernel
theorem sm_a102_8 : sm_at 102 8 = some (.if_acmp .eq 26, 3, (0, 0, 0, 0)) := by decide +kernel
theorem sm_a102_11 : sm_at 102 11 = some (.aload_n 1, 1, (0, 0, 0, 0)) := by decide +kernel
theorem sm_a102_12 : sm_at 102 12 = some (.getfield 155, 3, (10, 1, 1, 626)) := by decide +kernel
theorem sm_a102_15 : sm_at 102 15 = some (.aload_n 1, 1, (0, 0, 0, 0)) := by decide +kernel
theorem sm_a102_16 : sm_at 102 16 = some (.getfield 96, 3, (10, 11, 1, 646)) := by decide +kernel
theorem sm_a102_19 : sm_at 102 19 = some (.iconst 1, 1, (0, 0, 0, 0)) := by decide +kernel
theorem sm_a102_20 : sm_at 102 20 = some (.if_icmp .ne 7, 3, (0, 0, 0, 0)) := by decide +kernel
theorem sm_a102_23 : sm_at 102 23 = some (.iconst 1, 1, (0, 0, 0, 0)) := by decide +kernel
theorem sm_a102_24 : sm_at 102 24 = some (.goto 4, 3, (0, 0, 0, 0)) := by decide +kernel
theorem sm_a102_27 : sm_at 102 27 = some (.iconst 0, 1, (0, 0, 0, 0)) := by decide +kernel
theorem sm_a102_28 : sm_at 102 28 = some (.putfield 53, 3, (9, 4, 1, 366)) := by decide +kernel
theorem sm_a102_31 : sm_at 102 31 = some (.goto 39, 3, (0, 0, 0, 0)) := by decide +kernel
theorem sm_a102_34 : sm_at 102 34 = some (.aload_n 1, 1, (0, 0, 0, 0)) := by decide +kernel
theorem sm_a102_35 : sm_at 102 35 = some (.getfield 90, 3, (10, 8, 1, 639)) := by decide +kernel
theorem sm_a102_38 : sm_at 102 38 = some (.ifCond .le 11, 3, (0, 0, 0, 0)) := by decide +kernel
theorem sm_a102_41 : sm_at 102 41 = some (.aload_n 0, 1, (0, 0, 0, 0)) := by decide +kernel
theorem sm_a102_42 : sm_at 102 42 = some (.aload_n 1, 1, (0, 0, 0, 0)) := by decide +kernel
theorem sm_a102_43 : sm_at 102 43 = some (.invokevirtual 192, 3, (10, 103, 6, 1081)) := by decide +kernel
theorem sm_a102_46 : sm_at 102 46 = some (.goto 24, 3, (0, 0, 0, 0)) := by decide +kernel
theorem sm_a102_49 : sm_at 102 49 = some (.aload_n 1, 1, (0, 0, 0, 0)) := by decide +kernel
theorem sm_a102_50 : sm_at 102 50 = some (.getfield 96, 3, (10, 11, 1, 646)) := by decide +kernel
theorem sm_a102_53 : sm_at 102 53 = some (.iconst 1, 1, (0, 0, 0, 0)) := by decide +kernel
theorem sm_a102_54 : sm_at 102 54 = some (.if_icmp .ne 16, 3, (0, 0, 0, 0)) := by decide +kernel
theorem sm_a102_57 : sm_at 102 57 = some (.aload_n 0, 1, (0, 0, 0, 0)) := by decide +kernel
theorem sm_a102_58 : sm_at 102 58 = some (.getfield 15, 3, (6, 0, 0, 424)) := by decide +kernel
theorem sm_a102_61 : sm_at 102 61 = some (.aload_n 1, 1, (0, 0, 0, 0)) := by decide +kernel
theorem sm_a102_62 : sm_at 102 62 = some (.getfield 93, 3, (10, 0, 1, 623)) := by decide +kernel
theorem sm_a102_65 : sm_at 102 65 = some (.aaload, 1, (0, 0, 0, 0)) := by decide +kernel
theorem sm_a102_66 : sm_at 102 66 = some (.aload_n 1, 1, (0, 0, 0, 0)) := by decide +kernel
theorem sm_a102_67 : sm_at 102 67 = some (.invokevirtual 195, 3, (10, 117, 8, 1100)) := by decide +kernel
theorem sm_a102_70 : sm_at 102 70 = some (.return_, 1, (0, 0, 0, 0)) := by decide +kernel
theorem bb_102_0 {d : Nat} {M : sm_M} {Q : Option sm_V → sm_M → Prop} {a0 : Nat} {r1 : Option Nat}
    (h : ∃ b_1, r1 = some b_1 ∧ sm_K M b_1 = 33 ∧ sm_K M a0 = 21 ∧ ((sm_R M b_1 1 = sm_R M a0 4 → (((sm_I M b_1 8) ≤ 0 → ((¬ (sm_I M b_1 11) = 1 → Q none M) ∧ (¬ (¬ (sm_I M b_1 11) = 1) → ∃ b_8, sm_R M a0 0 = some b_8 ∧ (∃ ci, sm_K M b_8 = 4 + 3 * ci) ∧ sm_in_ M b_8 (sm_I M b_1 0) ∧ ∃ b_12, sm_R M b_8 (sm_I M b_1 0).toNatClampNeg = some b_12 ∧ sm_K M b_12 = 27 ∧ sm_Run d 117 0 (sm_ent 117 [.inr (some b_12), .inr (some b_1)]) [] M (fun v M1 => sm_Run (d + 1) 102 70 [some (.inr (some a0)), some (.inr (some b_1))] (v.toList ++ []) M1 Q)))) ∧ (¬ ((sm_I M b_1 8) ≤ 0) → sm_Run d 103 0 (sm_ent 103 [.inr (some a0), .inr (some b_1)]) [] M (fun v M1 => sm_Run (d + 1) 102 46 [some (.inr (some a0)), some (.inr (some b_1))] (v.toList ++ []) M1 Q)))) ∧ (¬ sm_R M b_1 1 = sm_R M a0 4 → ((¬ (sm_I M b_1 11) = 1 → ∃ b_16, sm_R M b_1 1 = some b_16 ∧ sm_K M b_16 = 30 ∧ Q none (sm_putI M b_16 4 0)) ∧ (¬ (¬ (sm_I M b_1 11) = 1) → ∃ b_19, sm_R M b_1 1 = some b_19 ∧ sm_K M b_19 = 30 ∧ Q none (sm_putI M b_19 4 1)))))) :
    sm_Run (d + 1) 102 0 [some (.inr (some a0)), some (.inr r1)] [] M Q := by
  refine ru_go (t := (1, [some (.inr (some a0)), some (.inr r1)], [.inr r1], M)) sm_a102_0 rfl rfl rfl ?_
  obtain ⟨b_1, hb_2, h⟩ := h
  rw [hb_2]
  obtain ⟨h_3, h⟩ := h
  refine ru_go (t := (4, [some (.inr (some a0)), some (.inr (some b_1))], [.inr (sm_R M b_1 1)], M)) sm_a102_1 rfl rfl (st_getR h_3 rfl rfl) ?_
  refine ru_go (t := (5, [some (.inr (some a0)), some (.inr (some b_1))], [.inr (some a0), .inr (sm_R M b_1 1)], M)) sm_a102_4 rfl rfl rfl ?_
  obtain ⟨h_4, h⟩ := h
  refine ru_go (t := (8, [some (.inr (some a0)), some (.inr (some b_1))], [.inr (sm_R M a0 4), .inr (sm_R M b_1 1)], M)) sm_a102_5 rfl rfl (st_getR h_4 rfl rfl) ?_
  refine ru_acmpeq (pc := 8) (p := 34) (p2 := 11) sm_a102_8 (by decide) rfl ⟨fun hc_5 => ?_, fun hc_5 => ?_⟩
  · have h := h.1 hc_5
    refine ru_go (t := (35, [some (.inr (some a0)), some (.inr (some b_1))], [.inr (some b_1)], M)) sm_a102_34 rfl rfl rfl ?_
    refine ru_go (t := (38, [some (.inr (some a0)), some (.inr (some b_1))], [.inl (sm_I M b_1 8)], M)) sm_a102_35 rfl rfl (st_getI h_3 rfl) ?_
    refine ru_if (pc := 38) (p := 49) (p2 := 41) sm_a102_38 (by decide) rfl ⟨fun hc_6 => ?_, fun hc_6 => ?_⟩
    · have h := h.1 hc_6
      refine ru_go (t := (50, [some (.inr (some a0)), some (.inr (some b_1))], [.inr (some b_1)], M)) sm_a102_49 rfl rfl rfl ?_
      refine ru_go (t := (53, [some (.inr (some a0)), some (.inr (some b_1))], [.inl (sm_I M b_1 11)], M)) sm_a102_50 rfl rfl (st_getI h_3 rfl) ?_
      refine ru_go (t := (54, [some (.inr (some a0)), some (.inr (some b_1))], [.inl 1, .inl (sm_I M b_1 11)], M)) sm_a102_53 rfl rfl (st_iconst (by decide)) ?_
      refine ru_icmp (pc := 54) (p := 70) (p2 := 57) sm_a102_54 (by decide) rfl ⟨fun hc_7 => ?_, fun hc_7 => ?_⟩
      · have h := h.1 hc_7
        exact ru_ret sm_a102_70 (sm_rvv rfl) h
      · have h := h.2 hc_7
        refine ru_go (t := (58, [some (.inr (some a0)), some (.inr (some b_1))], [.inr (some a0)], M)) sm_a102_57 rfl rfl rfl ?_
        refine ru_go (t := (61, [some (.inr (some a0)), some (.inr (some b_1))], [.inr (sm_R M a0 0)], M)) sm_a102_58 rfl rfl (st_getR h_4 rfl rfl) ?_
        refine ru_go (t := (62, [some (.inr (some a0)), some (.inr (some b_1))], [.inr (some b_1), .inr (sm_R M a0 0)], M)) sm_a102_61 rfl rfl rfl ?_
        refine ru_go (t := (65, [some (.inr (some a0)), some (.inr (some b_1))], [.inl (sm_I M b_1 0), .inr (sm_R M a0 0)], M)) sm_a102_62 rfl rfl (st_getI h_3 rfl) ?_
        obtain ⟨b_8, hb_9, h⟩ := h
        rw [hb_9]
        obtain ⟨h_10, h⟩ := h
        obtain ⟨h_11, h⟩ := h
        refine ru_go (t := (66, [some (.inr (some a0)), some (.inr (some b_1))], [.inr (sm_R M b_8 (sm_I M b_1 0).toNatClampNeg)], M)) sm_a102_65 rfl rfl (st_aald h_10.choose_spec h_11 rfl) ?_
        refine ru_go (t := (67, [some (.inr (some a0)), some (.inr (some b_1))], [.inr (some b_1), .inr (sm_R M b_8 (sm_I M b_1 0).toNatClampNeg)], M)) sm_a102_66 rfl rfl rfl ?_
        obtain ⟨b_12, hb_13, h⟩ := h
        rw [hb_13]
        obtain ⟨h_14, h⟩ := h
        exact ru_call (p := 70) sm_a102_67 rfl (sc_virt (Or.inl rfl) rfl rfl h_14 (Nat.le_of_ble_eq_true rfl)) rfl h
    · have h := h.2 hc_6
      refine ru_go (t := (42, [some (.inr (some a0)), some (.inr (some b_1))], [.inr (some a0)], M)) sm_a102_41 rfl rfl rfl ?_
      refine ru_go (t := (43, [some (.inr (some a0)), some (.inr (some b_1))], [.inr (some b_1), .inr (some a0)], M)) sm_a102_42 rfl rfl rfl ?_
      exact ru_call (p := 46) sm_a102_43 rfl (sc_virt (Or.inl rfl) rfl rfl h_4 (Nat.le_of_ble_eq_true rfl)) rfl h
  · have h := h.2 hc_5
    refine ru_go (t := (12, [some (.inr (some a0)), some (.inr (some b_1))], [.inr (some b_1)], M)) sm_a102_11 rfl rfl rfl ?_
    refine ru_go (t := (15, [some (.inr (some a0)), some (.inr (some b_1))], [.inr (sm_R M b_1 1)], M)) sm_a102_12 rfl rfl (st_getR h_3 rfl rfl) ?_
    refine ru_go (t := (16, [some (.inr (some a0)), some (.inr (some b_1))], [.inr (some b_1), .inr (sm_R M b_1 1)], M)) sm_a102_15 rfl rfl rfl ?_
    refine ru_go (t := (19, [some (.inr (some a0)), some (.inr (some b_1))], [.inl (sm_I M b_1 11), .inr (sm_R M b_1 1)], M)) sm_a102_16 rfl rfl (st_getI h_3 rfl) ?_
    refine ru_go (t := (20, [some (.inr (some a0)), some (.inr (some b_1))], [.inl 1, .inl (sm_I M b_1 11), .inr (sm_R M b_1 1)], M)) sm_a102_19 rfl rfl (st_iconst (by decide)) ?_
    refine ru_icmp (pc := 20) (p := 27) (p2 := 23) sm_a102_20 (by decide) rfl ⟨fun hc_15 => ?_, fun hc_15 => ?_⟩
    · have h := h.1 hc_15
      refine ru_go (t := (28, [some (.inr (some a0)), some (.inr (some b_1))], [.inl 0, .inr (sm_R M b_1 1)], M)) sm_a102_27 rfl rfl (st_iconst (by decide)) ?_
      obtain ⟨b_16, hb_17, h⟩ := h
      rw [hb_17]
      obtain ⟨h_18, h⟩ := h
      refine ru_go (t := (31, [some (.inr (some a0)), some (.inr (some b_1))], [], sm_putI M b_16 4 0)) sm_a102_28 rfl rfl (st_putI h_18 (by decide)) ?_
      refine ru_go (t := (70, [some (.inr (some a0)), some (.inr (some b_1))], [], sm_putI M b_16 4 0)) sm_a102_31 rfl rfl (st_goto (pc := 31) (by decide)) ?_
      exact ru_ret sm_a102_70 (sm_rvv rfl) h
    · have h := h.2 hc_15
      refine ru_go (t := (24, [some (.inr (some a0)), some (.inr (some b_1))], [.inl 1, .inr (sm_R M b_1 1)], M)) sm_a102_23 rfl rfl (st_iconst (by decide)) ?_
      refine ru_go (t := (28, [some (.inr (some a0)), some (.inr (some b_1))], [.inl 1, .inr (sm_R M b_1 1)], M)) sm_a102_24 rfl rfl (st_goto (pc := 24) (by decide)) ?_
      obtain ⟨b_19, hb_20, h⟩ := h
      rw [hb_20]
      obtain ⟨h_21, h⟩ := h
      refine ru_go (t := (31, [some (.inr (some a0)), some (.inr (some b_1))], [], sm_putI M b_19 4 1)) sm_a102_28 rfl rfl (st_putI h_21 (by decide)) ?_
      refine ru_go (t := (70, [some (.inr (some a0)), some (.inr (some b_1))], [], sm_putI M b_19 4 1)) sm_a102_31 rfl rfl (st_goto (pc := 31) (by decide)) ?_
      exact ru_ret sm_a102_70 (sm_rvv rfl) h
theorem bb_102_46 {d : Nat} {M : sm_M} {Q : Option sm_V → sm_M → Prop} {a0 : Nat} {r1 : Option Nat}
    (h : Q none M) :
    sm_Run (d + 1) 102 46 [some (.inr (some a0)), some (.inr r1)] [] M Q := by
  refine ru_go (t := (70, [some (.inr (some a0)), some (.inr r1)], [], M)) sm_a102_46 rfl rfl (st_goto (pc := 46) (by decide)) ?_
  exact ru_ret sm_a102_70 (sm_rvv rfl) h
theorem bb_102_70 {d : Nat} {M : sm_M} {Q : Option sm_V → sm_M → Prop} {a0 : Nat} {r1 : Option Nat}
    (h : Q none M) :
    sm_Run (d + 1) 102 70 [some (.inr (some a0)), some (.inr r1)] [] M Q := by
  exact ru_ret sm_a102_70 (sm_rvv rfl) h

/-! WireBus$Host.goOnFinding:(LWireBus$Transfer;)V -/
theorem sm_a103_0 : sm_at 103 0 = some (.aload_n 0, 1, (0, 0, 0, 0)) := by decide +kernel
theorem sm_a103_1 : sm_at 103 1 = some (.getfield 15, 3, (6, 0, 0, 424)) := by decide +kernel
theorem sm_a103_4 : sm_at 103 4 = some (.aload_n 1, 1, (0, 0, 0, 0)) := by decide +kernel
theorem sm_a103_5 : sm_at 103 5 = some (.getfield 93, 3, (10, 0, 1, 623)) := by decide +kernel
theorem sm_a103_8 : sm_at 103 8 = some (.aaload, 1, (0, 0, 0, 0)) := by decide +kernel
theorem sm_a103_9 : sm_at 103 9 = some (.astore_n 2, 1, (0, 0, 0, 0)) := by decide +kernel
theorem sm_a103_10 : sm_at 103 10 = some (.iconst 0, 1, (0, 0, 0, 0)) := by decide +kernel
theorem sm_a103_11 : sm_at 103 11 = some (.istore_n 3, 1, (0, 0, 0, 0)) := by decide +kernel
theorem sm_a103_12 : sm_at 103 12 = some (.aload_n 1, 1, (0, 0, 0, 0)) := by decide +kernel
theorem sm_a103_13 : sm_at 103 13 = some (.invokevirtual 198, 3, (10, 125, 10, 1085)) := by decide +kernel
theorem sm_a103_16 : sm_at 103 16 = some (.istore 4, 2, (0, 0, 0, 0)) := by decide +kernel
theorem sm_a103_18 : sm_at 103 18 = some (.iload 4, 2, (0, 0, 0, 0)) := by decide +kernel
theorem sm_a103_20 : sm_at 103 20 = some (.ifCond .eq 47, 3, (0, 0, 0, 0)) := by decide +kernel
theorem sm_a103_23 : sm_at 103 23 = some (.aload_n 1, 1, (0, 0, 0, 0)) := by decide +kernel
theorem sm_a103_24 : sm_at 103 24 = some (.getfield 90, 3, (10, 8, 1, 639)) := by decide +kernel
theorem sm_a103_27 : sm_at 103 27 = some (.iconst 1, 1, (0, 0, 0, 0)) := by decide +kernel
theorem sm_a103_28 : sm_at 103 28 = some (.if_icmp .ne 39, 3, (0, 0, 0, 0)) := by decide +kernel
theorem sm_a103_31 : sm_at 103 31 = some (.aload_n 1, 1, (0, 0, 0, 0)) := by decide +kernel
theorem sm_a103_32 : sm_at 103 32 = some (.bipush 7, 2, (0, 0, 0, 0)) := by decide +kernel
theorem sm_a103_34 : sm_at 103 34 = some (.invokevirtual 201, 3, (10, 124, 10, 1089)) := by decide +kernel
theorem sm_a103_37 : sm_at 103 37 = some (.invokestatic 205, 3, (13, 22, 0, 1093)) := by decide +kernel
theorem sm_a103_40 : sm_at 103 40 = some (.istore 4, 2, (0, 0, 0, 0)) := by decide +kernel
theorem sm_a103_42 : sm_at 103 42 = some (.aload_n 2, 1, (0, 0, 0, 0)) := by decide +kernel
theorem sm_a103_43 : sm_at 103 43 = some (.iload 4, 2, (0, 0, 0, 0)) := by decide +kernel
theorem sm_a103_45 : sm_at 103 45 = some (.ifCond .eq 12, 3, (0, 0, 0, 0)) := by decide +kernel
theorem sm_a103_48 : sm_at 103 48 = some (.aload_n 1, 1, (0, 0, 0, 0)) := by decide +kernel
theorem sm_a103_49 : sm_at 103 49 = some (.bipush 7, 2, (0, 0, 0, 0)) := by decide +kernel
theorem sm_a103_51 : sm_at 103 51 = some (.invokevirtual 201, 3, (10, 124, 10, 1089)) := by decide +kernel
theorem sm_a103_54 : sm_at 103 54 = some (.goto 7, 3, (0, 0, 0, 0)) := by decide +kernel
theorem sm_a103_57 : sm_at 103 57 = some (.aload_n 2, 1, (0, 0, 0, 0)) := by decide +kernel
theorem sm_a103_58 : sm_at 103 58 = some (.getfield 75, 3, (8, 2, 1, 404)) := by decide +kernel
theorem sm_a103_61 : sm_at 103 61 = some (.putfield 75, 3, (8, 2, 1, 404)) := by decide +kernel
theorem sm_a103_64 : sm_at 103 64 = some (.goto 93, 3, (0, 0, 0, 0)) := by decide +kernel
theorem sm_a103_67 : sm_at 103 67 = some (.iload 4, 2, (0, 0, 0, 0)) := by decide +kernel
theorem sm_a103_69 : sm_at 103 69 = some (.ifCond .eq 19, 3, (0, 0, 0, 0)) := by decide +kernel
theorem sm_a103_72 : sm_at 103 72 = some (.aload_n 1, 1, (0, 0, 0, 0)) := by decide +kernel
theorem sm_a103_73 : sm_at 103 73 = some (.getfield 90, 3, (10, 8, 1, 639)) := by decide +kernel
theorem sm_a103_76 : sm_at 103 76 = some (.iconst 2, 1, (0, 0, 0, 0)) := by decide +kernel
theorem sm_a103_77 : sm_at 103 77 = some (.if_icmp .ne 11, 3, (0, 0, 0, 0)) := by decide +kernel
theorem sm_a103_80 : sm_at 103 80 = some (.aload_n 2, 1, (0, 0, 0, 0)) := by decide +kernel
theorem sm_a103_81 : sm_at 103 81 = some (.iconst 1, 1, (0, 0, 0, 0)) := by decide +kernel
theorem sm_a103_82 : sm_at 103 82 = some (.putfield 208, 3, (8, 1, 1, 402)) := by decide +kernel
theorem sm_a103_85 : sm_at 103 85 = some (.goto 72, 3, (0, 0, 0, 0)) := by decide +kernel
theorem sm_a103_88 : sm_at 103 88 = some (.iload 4, 2, (0, 0, 0, 0)) := by decide +kernel
theorem sm_a103_90 : sm_at 103 90 = some (.ifCond .eq 49, 3, (0, 0, 0, 0)) := by decide +kernel
theorem sm_a103_93 : sm_at 103 93 = some (.aload_n 1, 1, (0, 0, 0, 0)) := by decide +kernel
theorem sm_a103_94 : sm_at 103 94 = some (.getfield 90, 3, (10, 8, 1, 639)) := by decide +kernel
theorem sm_a103_97 : sm_at 103 97 = some (.iconst 4, 1, (0, 0, 0, 0)) := by decide +kernel
theorem sm_a103_98 : sm_at 103 98 = some (.if_icmp .ne 41, 3, (0, 0, 0, 0)) := by decide +kernel
theorem sm_a103_101 : sm_at 103 101 = some (.aload_n 1, 1, (0, 0, 0, 0)) := by decide +kernel
theorem sm_a103_102 : sm_at 103 102 = some (.iconst 2, 1, (0, 0, 0, 0)) := by decide +kernel
theorem sm_a103_103 : sm_at 103 103 = some (.invokevirtual 201, 3, (10, 124, 10, 1089)) := by decide +kernel
theorem sm_a103_106 : sm_at 103 106 = some (.sipush 256, 3, (0, 0, 0, 0)) := by decide +kernel
theorem sm_a103_109 : sm_at 103 109 = some (.aload_n 1, 1, (0, 0, 0, 0)) := by decide +kernel
theorem sm_a103_110 : sm_at 103 110 = some (.iconst 3, 1, (0, 0, 0, 0)) := by decide +kernel
theorem sm_a103_111 : sm_at 103 111 = some (.invokevirtual 201, 3, (10, 124, 10, 1089)) := by decide +kernel
theorem sm_a103_114 : sm_at 103 114 = some (.imul, 1, (0, 0, 0, 0)) := by decide +kernel
theorem sm_a103_115 : sm_at 103 115 = some (.iadd, 1, (0, 0, 0, 0)) := by decide +kernel
theorem sm_a103_116 : sm_at 103 116 = some (.istore_n 3, 1, (0, 0, 0, 0)) := by decide +kernel
theorem sm_a103_117 : sm_at 103 117 = some (.iload_n 3, 1, (0, 0, 0, 0)) := by decide +kernel
theorem sm_a103_118 : sm_at 103 118 = some (.bipush 18, 2, (0, 0, 0, 0)) := by decide +kernel
theorem sm_a103_120 : sm_at 103 120 = some (.if_icmp .lt 13, 3, (0, 0, 0, 0)) := by decide +kernel
theorem sm_a103_123 : sm_at 103 123 = some (.iload_n 3, 1, (0, 0, 0, 0)) := by decide +kernel
theorem sm_a103_124 : sm_at 103 124 = some (.bipush 60, 2, (0, 0, 0, 0)) := by decide +kernel
theorem sm_a103_126 : sm_at 103 126 = some (.if_icmp .gt 7, 3, (0, 0, 0, 0)) := by decide +kernel
theorem sm_a103_129 : sm_at 103 129 = some (.iconst 1, 1, (0, 0, 0, 0)) := by decide +kernel
theorem sm_a103_130 : sm_at 103 130 = some (.goto 4, 3, (0, 0, 0, 0)) := by decide +kernel
theorem sm_a103_133 : sm_at 103 133 = some (.iconst 0, 1, (0, 0, 0, 0)) := by decide +kernel
theorem sm_a103_134 : sm_at 103 134 = some (.istore 4, 2, (0, 0, 0, 0)) := by decide +kernel
theorem sm_a103_136 : sm_at 103 136 = some (.goto 21, 3, (0, 0, 0, 0)) := by decide +kernel
theorem sm_a103_139 : sm_at 103 139 = some (.iload 4, 2, (0, 0, 0, 0)) := by decide +kernel
theorem sm_a103_141 : sm_at 103 141 = some (.ifCond .eq 16, 3, (0, 0, 0, 0)) := by decide +kernel
theorem sm_a103_144 : sm_at 103 144 = some (.aload_n 1, 1, (0, 0, 0, 0)) := by decide +kernel
theorem sm_a103_145 : sm_at 103 145 = some (.getfield 90, 3, (10, 8, 1, 639)) := by decide +kernel
theorem sm_a103_148 : sm_at 103 148 = some (.iconst 5, 1, (0, 0, 0, 0)) := by decide +kernel
theorem sm_a103_149 : sm_at 103 149 = some (.if_icmp .ne 8, 3, (0, 0, 0, 0)) := by decide +kernel
theorem sm_a103_152 : sm_at 103 152 = some (.aload_n 2, 1, (0, 0, 0, 0)) := by decide +kernel
theorem sm_a103_153 : sm_at 103 153 = some (.aload_n 1, 1, (0, 0, 0, 0)) := by decide +kernel
theorem sm_a103_154 : sm_at 103 154 = some (.putfield 211, 3, (8, 5, 1, 410)) := by decide +kernel
theorem sm_a103_157 : sm_at 103 157 = some (.iload 4, 2, (0, 0, 0, 0)) := by decide +kernel
theorem sm_a103_159 : sm_at 103 159 = some (.ifCond .ne 11, 3, (0, 0, 0, 0)) := by decide +kernel
theorem sm_a103_162 : sm_at 103 162 = some (.aload_n 2, 1, (0, 0, 0, 0)) := by decide +kernel
theorem sm_a103_163 : sm_at 103 163 = some (.iconst 3, 1, (0, 0, 0, 0)) := by decide +kernel
theorem sm_a103_164 : sm_at 103 164 = some (.putfield 215, 3, (8, 0, 1, 400)) := by decide +kernel
theorem sm_a103_167 : sm_at 103 167 = some (.goto 34, 3, (0, 0, 0, 0)) := by decide +kernel
theorem sm_a103_170 : sm_at 103 170 = some (.aload_n 1, 1, (0, 0, 0, 0)) := by decide +kernel
theorem sm_a103_171 : sm_at 103 171 = some (.getfield 90, 3, (10, 8, 1, 639)) := by decide +kernel
theorem sm_a103_174 : sm_at 103 174 = some (.bipush 6, 2, (0, 0, 0, 0)) := by decide +kernel
theorem sm_a103_176 : sm_at 103 176 = some (.if_icmp .ne 10, 3, (0, 0, 0, 0)) := by decide +kernel
theorem sm_a103_179 : sm_at 103 179 = some (.aload_n 2, 1, (0, 0, 0, 0)) := by decide +kernel
theorem sm_a103_180 : sm_at 103 180 = some (.invokevirtual 218, 3, (10, 116, 8, 1094)) := by decide +kernel
theorem sm_a103_183 : sm_at 103 183 = some (.goto 18, 3, (0, 0, 0, 0)) := by decide +kernel
theorem sm_a103_186 : sm_at 103 186 = some (.aload_n 0, 1, (0, 0, 0, 0)) := by decide +kernel
theorem sm_a103_187 : sm_at 103 187 = some (.aload_n 1, 1, (0, 0, 0, 0)) := by decide +kernel
theorem sm_a103_188 : sm_at 103 188 = some (.getfield 93, 3, (10, 0, 1, 623)) := by decide +kernel
theorem sm_a103_191 : sm_at 103 191 = some (.aload_n 1, 1, (0, 0, 0, 0)) := by decide +kernel
theorem sm_a103_192 : sm_at 103 192 = some (.getfield 90, 3, (10, 8, 1, 639)) := by decide +kernel
theorem sm_a103_195 : sm_at 103 195 = some (.iconst 1, 1, (0, 0, 0, 0)) := by decide +kernel
theorem sm_a103_196 : sm_at 103 196 = some (.iadd, 1, (0, 0, 0, 0)) := by decide +kernel
theorem sm_a103_197 : sm_at 103 197 = some (.iload_n 3, 1, (0, 0, 0, 0)) := by decide +kernel
theorem sm_a103_198 : sm_at 103 198 = some (.invokevirtual 87, 3, (10, 91, 6, 606)) := by decide +kernel
theorem sm_a103_201 : sm_at 103 201 = some (.return_, 1, (0, 0, 0, 0)) := by decide +kernel
theorem bb_103_0 {d : Nat} {M : sm_M} {Q : Option sm_V → sm_M → Prop} {a0 : Nat} {r1 : Option Nat} {z2 : Option sm_V} {z3 : Option sm_V} {z4 : Option sm_V}
    (h : sm_K M a0 = 21 ∧ ∃ b_2, r1 = some b_2 ∧ sm_K M b_2 = 33 ∧ ∃ b_5, sm_R M a0 0 = some b_5 ∧ (∃ ci, sm_K M b_5 = 4 + 3 * ci) ∧ sm_in_ M b_5 (sm_I M b_2 0) ∧ sm_Run d 125 0 (sm_ent 125 [.inr (some b_2)]) [] M (fun v M1 => sm_Run (d + 1) 103 16 [some (.inr (some a0)), some (.inr (some b_2)), some (.inr (sm_R M b_5 (sm_I M b_2 0).toNatClampNeg)), some (.inl 0), z4] (v.toList ++ []) M1 Q)) :
    sm_Run (d + 1) 103 0 [some (.inr (some a0)), some (.inr r1), z2, z3, z4] [] M Q := by
  refine ru_go (t := (1, [some (.inr (some a0)), some (.inr r1), z2, z3, z4], [.inr (some a0)], M)) sm_a103_0 rfl rfl rfl ?_
  obtain ⟨h_1, h⟩ := h
  refine ru_go (t := (4, [some (.inr (some a0)), some (.inr r1), z2, z3, z4], [.inr (sm_R M a0 0)], M)) sm_a103_1 rfl rfl (st_getR h_1 rfl rfl) ?_
  refine ru_go (t := (5, [some (.inr (some a0)), some (.inr r1), z2, z3, z4], [.inr r1, .inr (sm_R M a0 0)], M)) sm_a103_4 rfl rfl rfl ?_
  obtain ⟨b_2, hb_3, h⟩ := h
  rw [hb_3]
  obtain ⟨h_4, h⟩ := h
  refine ru_go (t := (8, [some (.inr (some a0)), some (.inr (some b_2)), z2, z3, z4], [.inl (sm_I M b_2 0), .inr (sm_R M a0 0)], M)) sm_a103_5 rfl rfl (st_getI h_4 rfl) ?_
  obtain ⟨b_5, hb_6, h⟩ := h
  rw [hb_6]
  obtain ⟨h_7, h⟩ := h
  obtain ⟨h_8, h⟩ := h
  refine ru_go (t := (9, [some (.inr (some a0)), some (.inr (some b_2)), z2, z3, z4], [.inr (sm_R M b_5 (sm_I M b_2 0).toNatClampNeg)], M)) sm_a103_8 rfl rfl (st_aald h_7.choose_spec h_8 rfl) ?_
  refine ru_go (t := (10, [some (.inr (some a0)), some (.inr (some b_2)), some (.inr (sm_R M b_5 (sm_I M b_2 0).toNatClampNeg)), z3, z4], [], M)) sm_a103_9 rfl rfl rfl ?_
  refine ru_go (t := (11, [some (.inr (some a0)), some (.inr (some b_2)), some (.inr (sm_R M b_5 (sm_I M b_2 0).toNatClampNeg)), z3, z4], [.inl 0], M)) sm_a103_10 rfl rfl (st_iconst (by decide)) ?_
  refine ru_go (t := (12, [some (.inr (some a0)), some (.inr (some b_2)), some (.inr (sm_R M b_5 (sm_I M b_2 0).toNatClampNeg)), some (.inl 0), z4], [], M)) sm_a103_11 rfl rfl rfl ?_
  refine ru_go (t := (13, [some (.inr (some a0)), some (.inr (some b_2)), some (.inr (sm_R M b_5 (sm_I M b_2 0).toNatClampNeg)), some (.inl 0), z4], [.inr (some b_2)], M)) sm_a103_12 rfl rfl rfl ?_
  exact ru_call (p := 16) sm_a103_13 rfl (sc_virt (Or.inl rfl) rfl rfl h_4 (Nat.le_of_ble_eq_true rfl)) rfl h
theorem bb_103_16 {d : Nat} {M : sm_M} {Q : Option sm_V → sm_M → Prop} {a0 : Nat} {r1 : Option Nat} {r2 : Option Nat} {x3 : Int32} {z4 : Option sm_V} {y0 : Int32}
    (h : ((y0 = 0 → sm_Run (d + 1) 103 67 [some (.inr (some a0)), some (.inr r1), some (.inr r2), some (.inl x3), some (.inl y0)] [] M Q) ∧ (¬ (y0 = 0) → ∃ b_2, r1 = some b_2 ∧ sm_K M b_2 = 33 ∧ ((¬ (sm_I M b_2 8) = 1 → sm_Run (d + 1) 103 67 [some (.inr (some a0)), some (.inr (some b_2)), some (.inr r2), some (.inl x3), some (.inl y0)] [] M Q) ∧ (¬ (¬ (sm_I M b_2 8) = 1) → sm_Run d 124 0 (sm_ent 124 [.inr (some b_2), .inl 7]) [] M (fun v M1 => sm_Run (d + 1) 103 37 [some (.inr (some a0)), some (.inr (some b_2)), some (.inr r2), some (.inl x3), some (.inl y0)] (v.toList ++ []) M1 Q)))))) :
    sm_Run (d + 1) 103 16 [some (.inr (some a0)), some (.inr r1), some (.inr r2), some (.inl x3), z4] [.inl y0] M Q := by
  refine ru_go (t := (18, [some (.inr (some a0)), some (.inr r1), some (.inr r2), some (.inl x3), some (.inl y0)], [], M)) sm_a103_16 rfl rfl rfl ?_
  refine ru_go (t := (20, [some (.inr (some a0)), some (.inr r1), some (.inr r2), some (.inl x3), some (.inl y0)], [.inl y0], M)) sm_a103_18 rfl rfl rfl ?_
  refine ru_if (pc := 20) (p := 67) (p2 := 23) sm_a103_20 (by decide) rfl ⟨fun hc_1 => ?_, fun hc_1 => ?_⟩
  · have h := h.1 hc_1
    exact h
  · have h := h.2 hc_1
    refine ru_go (t := (24, [some (.inr (some a0)), some (.inr r1), some (.inr r2), some (.inl x3), some (.inl y0)], [.inr r1], M)) sm_a103_23 rfl rfl rfl ?_
    obtain ⟨b_2, hb_3, h⟩ := h
    rw [hb_3]
    obtain ⟨h_4, h⟩ := h
    refine ru_go (t := (27, [some (.inr (some a0)), some (.inr (some b_2)), some (.inr r2), some (.inl x3), some (.inl y0)], [.inl (sm_I M b_2 8)], M)) sm_a103_24 rfl rfl (st_getI h_4 rfl) ?_
    refine ru_go (t := (28, [some (.inr (some a0)), some (.inr (some b_2)), some (.inr r2), some (.inl x3), some (.inl y0)], [.inl 1, .inl (sm_I M b_2 8)], M)) sm_a103_27 rfl rfl (st_iconst (by decide)) ?_
    refine ru_icmp (pc := 28) (p := 67) (p2 := 31) sm_a103_28 (by decide) rfl ⟨fun hc_5 => ?_, fun hc_5 => ?_⟩
    · have h := h.1 hc_5
      exact h
    · have h := h.2 hc_5
      refine ru_go (t := (32, [some (.inr (some a0)), some (.inr (some b_2)), some (.inr r2), some (.inl x3), some (.inl y0)], [.inr (some b_2)], M)) sm_a103_31 rfl rfl rfl ?_
      refine ru_go (t := (34, [some (.inr (some a0)), some (.inr (some b_2)), some (.inr r2), some (.inl x3), some (.inl y0)], [.inl 7, .inr (some b_2)], M)) sm_a103_32 rfl rfl (st_bipush (by decide)) ?_
      exact ru_call (p := 37) sm_a103_34 rfl (sc_virt (Or.inl rfl) rfl rfl h_4 (Nat.le_of_ble_eq_true rfl)) rfl h
theorem bb_103_37 {d : Nat} {M : sm_M} {Q : Option sm_V → sm_M → Prop} {a0 : Nat} {r1 : Option Nat} {r2 : Option Nat} {x3 : Int32} {x4 : Int32} {y0 : Int32}
    (h : sm_Run d 22 0 (sm_ent 22 [.inl y0]) [] M (fun v M1 => sm_Run (d + 1) 103 40 [some (.inr (some a0)), some (.inr r1), some (.inr r2), some (.inl x3), some (.inl x4)] (v.toList ++ []) M1 Q)) :
    sm_Run (d + 1) 103 37 [some (.inr (some a0)), some (.inr r1), some (.inr r2), some (.inl x3), some (.inl x4)] [.inl y0] M Q := by
  exact ru_call (p := 40) sm_a103_37 rfl (sc_stat (Or.inr rfl) (Nat.le_of_ble_eq_true rfl) rfl rfl (Nat.le_of_ble_eq_true rfl)) rfl h
theorem bb_103_40 {d : Nat} {M : sm_M} {Q : Option sm_V → sm_M → Prop} {a0 : Nat} {r1 : Option Nat} {r2 : Option Nat} {x3 : Int32} {x4 : Int32} {y0 : Int32}
    (h : ((y0 = 0 → ∃ b_2, r2 = some b_2 ∧ sm_K M b_2 = 27 ∧ sm_Run (d + 1) 103 157 [some (.inr (some a0)), some (.inr r1), some (.inr (some b_2)), some (.inl x3), some (.inl y0)] [] (sm_putI M b_2 2 (sm_I M b_2 2)) Q) ∧ (¬ (y0 = 0) → ∃ b_5, r1 = some b_5 ∧ sm_K M b_5 = 33 ∧ sm_Run d 124 0 (sm_ent 124 [.inr (some b_5), .inl 7]) [] M (fun v M1 => sm_Run (d + 1) 103 54 [some (.inr (some a0)), some (.inr (some b_5)), some (.inr r2), some (.inl x3), some (.inl y0)] (v.toList ++ [.inr r2]) M1 Q)))) :
    sm_Run (d + 1) 103 40 [some (.inr (some a0)), some (.inr r1), some (.inr r2), some (.inl x3), some (.inl x4)] [.inl y0] M Q := by
  refine ru_go (t := (42, [some (.inr (some a0)), some (.inr r1), some (.inr r2), some (.inl x3), some (.inl y0)], [], M)) sm_a103_40 rfl rfl rfl ?_
  refine ru_go (t := (43, [some (.inr (some a0)), some (.inr r1), some (.inr r2), some (.inl x3), some (.inl y0)], [.inr r2], M)) sm_a103_42 rfl rfl rfl ?_
  refine ru_go (t := (45, [some (.inr (some a0)), some (.inr r1), some (.inr r2), some (.inl x3), some (.inl y0)], [.inl y0, .inr r2], M)) sm_a103_43 rfl rfl rfl ?_
  refine ru_if (pc := 45) (p := 57) (p2 := 48) sm_a103_45 (by decide) rfl ⟨fun hc_1 => ?_, fun hc_1 => ?_⟩
  · have h := h.1 hc_1
    refine ru_go (t := (58, [some (.inr (some a0)), some (.inr r1), some (.inr r2), some (.inl x3), some (.inl y0)], [.inr r2, .inr r2], M)) sm_a103_57 rfl rfl rfl ?_
    obtain ⟨b_2, hb_3, h⟩ := h
    rw [hb_3]
    obtain ⟨h_4, h⟩ := h
    refine ru_go (t := (61, [some (.inr (some a0)), some (.inr r1), some (.inr (some b_2)), some (.inl x3), some (.inl y0)], [.inl (sm_I M b_2 2), .inr (some b_2)], M)) sm_a103_58 rfl rfl (st_getI h_4 rfl) ?_
    refine ru_go (t := (64, [some (.inr (some a0)), some (.inr r1), some (.inr (some b_2)), some (.inl x3), some (.inl y0)], [], sm_putI M b_2 2 (sm_I M b_2 2))) sm_a103_61 rfl rfl (st_putI h_4 rfl) ?_
    refine ru_go (t := (157, [some (.inr (some a0)), some (.inr r1), some (.inr (some b_2)), some (.inl x3), some (.inl y0)], [], sm_putI M b_2 2 (sm_I M b_2 2))) sm_a103_64 rfl rfl (st_goto (pc := 64) (by decide)) ?_
    exact h
  · have h := h.2 hc_1
    refine ru_go (t := (49, [some (.inr (some a0)), some (.inr r1), some (.inr r2), some (.inl x3), some (.inl y0)], [.inr r1, .inr r2], M)) sm_a103_48 rfl rfl rfl ?_
    refine ru_go (t := (51, [some (.inr (some a0)), some (.inr r1), some (.inr r2), some (.inl x3), some (.inl y0)], [.inl 7, .inr r1, .inr r2], M)) sm_a103_49 rfl rfl (st_bipush (by decide)) ?_
    obtain ⟨b_5, hb_6, h⟩ := h
    rw [hb_6]
    obtain ⟨h_7, h⟩ := h
    exact ru_call (p := 54) sm_a103_51 rfl (sc_virt (Or.inl rfl) rfl rfl h_7 (Nat.le_of_ble_eq_true rfl)) rfl h
theorem bb_103_54 {d : Nat} {M : sm_M} {Q : Option sm_V → sm_M → Prop} {a0 : Nat} {r1 : Option Nat} {r2 : Option Nat} {x3 : Int32} {x4 : Int32} {y0 : Int32} {t1 : Option Nat}
    (h : ∃ b_1, t1 = some b_1 ∧ sm_K M b_1 = 27 ∧ sm_Run (d + 1) 103 157 [some (.inr (some a0)), some (.inr r1), some (.inr r2), some (.inl x3), some (.inl x4)] [] (sm_putI M b_1 2 y0) Q) :
    sm_Run (d + 1) 103 54 [some (.inr (some a0)), some (.inr r1), some (.inr r2), some (.inl x3), some (.inl x4)] [.inl y0, .inr t1] M Q := by
  refine ru_go (t := (61, [some (.inr (some a0)), some (.inr r1), some (.inr r2), some (.inl x3), some (.inl x4)], [.inl y0, .inr t1], M)) sm_a103_54 rfl rfl (st_goto (pc := 54) (by decide)) ?_
  obtain ⟨b_1, hb_2, h⟩ := h
  rw [hb_2]
  obtain ⟨h_3, h⟩ := h
  refine ru_go (t := (64, [some (.inr (some a0)), some (.inr r1), some (.inr r2), some (.inl x3), some (.inl x4)], [], sm_putI M b_1 2 y0)) sm_a103_61 rfl rfl (st_putI h_3 rfl) ?_
  refine ru_go (t := (157, [some (.inr (some a0)), some (.inr r1), some (.inr r2), some (.inl x3), some (.inl x4)], [], sm_putI M b_1 2 y0)) sm_a103_64 rfl rfl (st_goto (pc := 64) (by decide)) ?_
  exact h
theorem bb_103_67 {d : Nat} {M : sm_M} {Q : Option sm_V → sm_M → Prop} {a0 : Nat} {r1 : Option Nat} {r2 : Option Nat} {x3 : Int32} {x4 : Int32}
    (h : ((x4 = 0 → sm_Run (d + 1) 103 88 [some (.inr (some a0)), some (.inr r1), some (.inr r2), some (.inl x3), some (.inl x4)] [] M Q) ∧ (¬ (x4 = 0) → ∃ b_2, r1 = some b_2 ∧ sm_K M b_2 = 33 ∧ ((¬ (sm_I M b_2 8) = 2 → sm_Run (d + 1) 103 88 [some (.inr (some a0)), some (.inr (some b_2)), some (.inr r2), some (.inl x3), some (.inl x4)] [] M Q) ∧ (¬ (¬ (sm_I M b_2 8) = 2) → ∃ b_6, r2 = some b_6 ∧ sm_K M b_6 = 27 ∧ sm_Run (d + 1) 103 157 [some (.inr (some a0)), some (.inr (some b_2)), some (.inr (some b_6)), some (.inl x3), some (.inl x4)] [] (sm_putI M b_6 1 1) Q))))) :
    sm_Run (d + 1) 103 67 [some (.inr (some a0)), some (.inr r1), some (.inr r2), some (.inl x3), some (.inl x4)] [] M Q := by
  refine ru_go (t := (69, [some (.inr (some a0)), some (.inr r1), some (.inr r2), some (.inl x3), some (.inl x4)], [.inl x4], M)) sm_a103_67 rfl rfl rfl ?_
  refine ru_if (pc := 69) (p := 88) (p2 := 72) sm_a103_69 (by decide) rfl ⟨fun hc_1 => ?_, fun hc_1 => ?_⟩
  · have h := h.1 hc_1
    exact h
  · have h := h.2 hc_1
    refine ru_go (t := (73, [some (.inr (some a0)), some (.inr r1), some (.inr r2), some (.inl x3), some (.inl x4)], [.inr r1], M)) sm_a103_72 rfl rfl rfl ?_
    obtain ⟨b_2, hb_3, h⟩ := h
    rw [hb_3]
    obtain ⟨h_4, h⟩ := h
    refine ru_go (t := (76, [some (.inr (some a0)), some (.inr (some b_2)), some (.inr r2), some (.inl x3), some (.inl x4)], [.inl (sm_I M b_2 8)], M)) sm_a103_73 rfl rfl (st_getI h_4 rfl) ?_
    refine ru_go (t := (77, [some (.inr (some a0)), some (.inr (some b_2)), some (.inr r2), some (.inl x3), some (.inl x4)], [.inl 2, .inl (sm_I M b_2 8)], M)) sm_a103_76 rfl rfl (st_iconst (by decide)) ?_
    refine ru_icmp (pc := 77) (p := 88) (p2 := 80) sm_a103_77 (by decide) rfl ⟨fun hc_5 => ?_, fun hc_5 => ?_⟩
    · have h := h.1 hc_5
      exact h
    · have h := h.2 hc_5
      refine ru_go (t := (81, [some (.inr (some a0)), some (.inr (some b_2)), some (.inr r2), some (.inl x3), some (.inl x4)], [.inr r2], M)) sm_a103_80 rfl rfl rfl ?_
      refine ru_go (t := (82, [some (.inr (some a0)), some (.inr (some b_2)), some (.inr r2), some (.inl x3), some (.inl x4)], [.inl 1, .inr r2], M)) sm_a103_81 rfl rfl (st_iconst (by decide)) ?_
      obtain ⟨b_6, hb_7, h⟩ := h
      rw [hb_7]
      obtain ⟨h_8, h⟩ := h
      refine ru_go (t := (85, [some (.inr (some a0)), some (.inr (some b_2)), some (.inr (some b_6)), some (.inl x3), some (.inl x4)], [], sm_putI M b_6 1 1)) sm_a103_82 rfl rfl (st_putI h_8 (by decide)) ?_
      refine ru_go (t := (157, [some (.inr (some a0)), some (.inr (some b_2)), some (.inr (some b_6)), some (.inl x3), some (.inl x4)], [], sm_putI M b_6 1 1)) sm_a103_85 rfl rfl (st_goto (pc := 85) (by decide)) ?_
      exact h
theorem bb_103_88 {d : Nat} {M : sm_M} {Q : Option sm_V → sm_M → Prop} {a0 : Nat} {r1 : Option Nat} {r2 : Option Nat} {x3 : Int32} {x4 : Int32}
    (h : ((x4 = 0 → sm_Run (d + 1) 103 139 [some (.inr (some a0)), some (.inr r1), some (.inr r2), some (.inl x3), some (.inl x4)] [] M Q) ∧ (¬ (x4 = 0) → ∃ b_2, r1 = some b_2 ∧ sm_K M b_2 = 33 ∧ ((¬ (sm_I M b_2 8) = 4 → sm_Run (d + 1) 103 139 [some (.inr (some a0)), some (.inr (some b_2)), some (.inr r2), some (.inl x3), some (.inl x4)] [] M Q) ∧ (¬ (¬ (sm_I M b_2 8) = 4) → sm_Run d 124 0 (sm_ent 124 [.inr (some b_2), .inl 2]) [] M (fun v M1 => sm_Run (d + 1) 103 106 [some (.inr (some a0)), some (.inr (some b_2)), some (.inr r2), some (.inl x3), some (.inl x4)] (v.toList ++ []) M1 Q)))))) :
    sm_Run (d + 1) 103 88 [some (.inr (some a0)), some (.inr r1), some (.inr r2), some (.inl x3), some (.inl x4)] [] M Q := by
  refine ru_go (t := (90, [some (.inr (some a0)), some (.inr r1), some (.inr r2), some (.inl x3), some (.inl x4)], [.inl x4], M)) sm_a103_88 rfl rfl rfl ?_
  refine ru_if (pc := 90) (p := 139) (p2 := 93) sm_a103_90 (by decide) rfl ⟨fun hc_1 => ?_, fun hc_1 => ?_⟩
  · have h := h.1 hc_1
    exact h
  · have h := h.2 hc_1
    refine ru_go (t := (94, [some (.inr (some a0)), some (.inr r1), some (.inr r2), some (.inl x3), some (.inl x4)], [.inr r1], M)) sm_a103_93 rfl rfl rfl ?_
    obtain ⟨b_2, hb_3, h⟩ := h
    rw [hb_3]
    obtain ⟨h_4, h⟩ := h
    refine ru_go (t := (97, [some (.inr (some a0)), some (.inr (some b_2)), some (.inr r2), some (.inl x3), some (.inl x4)], [.inl (sm_I M b_2 8)], M)) sm_a103_94 rfl rfl (st_getI h_4 rfl) ?_
    refine ru_go (t := (98, [some (.inr (some a0)), some (.inr (some b_2)), some (.inr r2), some (.inl x3), some (.inl x4)], [.inl 4, .inl (sm_I M b_2 8)], M)) sm_a103_97 rfl rfl (st_iconst (by decide)) ?_
    refine ru_icmp (pc := 98) (p := 139) (p2 := 101) sm_a103_98 (by decide) rfl ⟨fun hc_5 => ?_, fun hc_5 => ?_⟩
    · have h := h.1 hc_5
      exact h
    · have h := h.2 hc_5
      refine ru_go (t := (102, [some (.inr (some a0)), some (.inr (some b_2)), some (.inr r2), some (.inl x3), some (.inl x4)], [.inr (some b_2)], M)) sm_a103_101 rfl rfl rfl ?_
      refine ru_go (t := (103, [some (.inr (some a0)), some (.inr (some b_2)), some (.inr r2), some (.inl x3), some (.inl x4)], [.inl 2, .inr (some b_2)], M)) sm_a103_102 rfl rfl (st_iconst (by decide)) ?_
      exact ru_call (p := 106) sm_a103_103 rfl (sc_virt (Or.inl rfl) rfl rfl h_4 (Nat.le_of_ble_eq_true rfl)) rfl h
theorem bb_103_106 {d : Nat} {M : sm_M} {Q : Option sm_V → sm_M → Prop} {a0 : Nat} {r1 : Option Nat} {r2 : Option Nat} {x3 : Int32} {x4 : Int32} {y0 : Int32}
    (h : ∃ b_1, r1 = some b_1 ∧ sm_K M b_1 = 33 ∧ sm_Run d 124 0 (sm_ent 124 [.inr (some b_1), .inl 3]) [] M (fun v M1 => sm_Run (d + 1) 103 114 [some (.inr (some a0)), some (.inr (some b_1)), some (.inr r2), some (.inl x3), some (.inl x4)] (v.toList ++ [.inl 256, .inl y0]) M1 Q)) :
    sm_Run (d + 1) 103 106 [some (.inr (some a0)), some (.inr r1), some (.inr r2), some (.inl x3), some (.inl x4)] [.inl y0] M Q := by
  refine ru_go (t := (109, [some (.inr (some a0)), some (.inr r1), some (.inr r2), some (.inl x3), some (.inl x4)], [.inl 256, .inl y0], M)) sm_a103_106 rfl rfl (st_sipush (by decide)) ?_
  refine ru_go (t := (110, [some (.inr (some a0)), some (.inr r1), some (.inr r2), some (.inl x3), some (.inl x4)], [.inr r1, .inl 256, .inl y0], M)) sm_a103_109 rfl rfl rfl ?_
  refine ru_go (t := (111, [some (.inr (some a0)), some (.inr r1), some (.inr r2), some (.inl x3), some (.inl x4)], [.inl 3, .inr r1, .inl 256, .inl y0], M)) sm_a103_110 rfl rfl (st_iconst (by decide)) ?_
  obtain ⟨b_1, hb_2, h⟩ := h
  rw [hb_2]
  obtain ⟨h_3, h⟩ := h
  exact ru_call (p := 114) sm_a103_111 rfl (sc_virt (Or.inl rfl) rfl rfl h_3 (Nat.le_of_ble_eq_true rfl)) rfl h
theorem bb_103_114 {d : Nat} {M : sm_M} {Q : Option sm_V → sm_M → Prop} {a0 : Nat} {r1 : Option Nat} {r2 : Option Nat} {x3 : Int32} {x4 : Int32} {y0 : Int32} {y1 : Int32} {y2 : Int32}
    (h : (((y2 + (y1 * y0)) < 18 → sm_Run (d + 1) 103 133 [some (.inr (some a0)), some (.inr r1), some (.inr r2), some (.inl (y2 + (y1 * y0))), some (.inl x4)] [] M Q) ∧ (¬ ((y2 + (y1 * y0)) < 18) → ((60 < (y2 + (y1 * y0)) → sm_Run (d + 1) 103 133 [some (.inr (some a0)), some (.inr r1), some (.inr r2), some (.inl (y2 + (y1 * y0))), some (.inl x4)] [] M Q) ∧ (¬ (60 < (y2 + (y1 * y0))) → sm_Run (d + 1) 103 157 [some (.inr (some a0)), some (.inr r1), some (.inr r2), some (.inl (y2 + (y1 * y0))), some (.inl 1)] [] M Q))))) :
    sm_Run (d + 1) 103 114 [some (.inr (some a0)), some (.inr r1), some (.inr r2), some (.inl x3), some (.inl x4)] [.inl y0, .inl y1, .inl y2] M Q := by
  refine ru_go (t := (115, [some (.inr (some a0)), some (.inr r1), some (.inr r2), some (.inl x3), some (.inl x4)], [.inl (y1 * y0), .inl y2], M)) sm_a103_114 rfl rfl rfl ?_
  refine ru_go (t := (116, [some (.inr (some a0)), some (.inr r1), some (.inr r2), some (.inl x3), some (.inl x4)], [.inl (y2 + (y1 * y0))], M)) sm_a103_115 rfl rfl rfl ?_
  refine ru_go (t := (117, [some (.inr (some a0)), some (.inr r1), some (.inr r2), some (.inl (y2 + (y1 * y0))), some (.inl x4)], [], M)) sm_a103_116 rfl rfl rfl ?_
  refine ru_go (t := (118, [some (.inr (some a0)), some (.inr r1), some (.inr r2), some (.inl (y2 + (y1 * y0))), some (.inl x4)], [.inl (y2 + (y1 * y0))], M)) sm_a103_117 rfl rfl rfl ?_
  refine ru_go (t := (120, [some (.inr (some a0)), some (.inr r1), some (.inr r2), some (.inl (y2 + (y1 * y0))), some (.inl x4)], [.inl 18, .inl (y2 + (y1 * y0))], M)) sm_a103_118 rfl rfl (st_bipush (by decide)) ?_
  refine ru_icmp (pc := 120) (p := 133) (p2 := 123) sm_a103_120 (by decide) rfl ⟨fun hc_1 => ?_, fun hc_1 => ?_⟩
  · have h := h.1 hc_1
    exact h
  · have h := h.2 hc_1
    refine ru_go (t := (124, [some (.inr (some a0)), some (.inr r1), some (.inr r2), some (.inl (y2 + (y1 * y0))), some (.inl x4)], [.inl (y2 + (y1 * y0))], M)) sm_a103_123 rfl rfl rfl ?_
    refine ru_go (t := (126, [some (.inr (some a0)), some (.inr r1), some (.inr r2), some (.inl (y2 + (y1 * y0))), some (.inl x4)], [.inl 60, .inl (y2 + (y1 * y0))], M)) sm_a103_124 rfl rfl (st_bipush (by decide)) ?_
    refine ru_icmp (pc := 126) (p := 133) (p2 := 129) sm_a103_126 (by decide) rfl ⟨fun hc_2 => ?_, fun hc_2 => ?_⟩
    · have h := h.1 hc_2
      exact h
    · have h := h.2 hc_2
      refine ru_go (t := (130, [some (.inr (some a0)), some (.inr r1), some (.inr r2), some (.inl (y2 + (y1 * y0))), some (.inl x4)], [.inl 1], M)) sm_a103_129 rfl rfl (st_iconst (by decide)) ?_
      refine ru_go (t := (134, [some (.inr (some a0)), some (.inr r1), some (.inr r2), some (.inl (y2 + (y1 * y0))), some (.inl x4)], [.inl 1], M)) sm_a103_130 rfl rfl (st_goto (pc := 130) (by decide)) ?_
      refine ru_go (t := (136, [some (.inr (some a0)), some (.inr r1), some (.inr r2), some (.inl (y2 + (y1 * y0))), some (.inl 1)], [], M)) sm_a103_134 rfl rfl rfl ?_
      refine ru_go (t := (157, [some (.inr (some a0)), some (.inr r1), some (.inr r2), some (.inl (y2 + (y1 * y0))), some (.inl 1)], [], M)) sm_a103_136 rfl rfl (st_goto (pc := 136) (by decide)) ?_
      exact h
theorem bb_103_133 {d : Nat} {M : sm_M} {Q : Option sm_V → sm_M → Prop} {a0 : Nat} {r1 : Option Nat} {r2 : Option Nat} {x3 : Int32} {x4 : Int32}
    (h : sm_Run (d + 1) 103 157 [some (.inr (some a0)), some (.inr r1), some (.inr r2), some (.inl x3), some (.inl 0)] [] M Q) :
    sm_Run (d + 1) 103 133 [some (.inr (some a0)), some (.inr r1), some (.inr r2), some (.inl x3), some (.inl x4)] [] M Q := by
  refine ru_go (t := (134, [some (.inr (some a0)), some (.inr r1), some (.inr r2), some (.inl x3), some (.inl x4)], [.inl 0], M)) sm_a103_133 rfl rfl (st_iconst (by decide)) ?_
  refine ru_go (t := (136, [some (.inr (some a0)), some (.inr r1), some (.inr r2), some (.inl x3), some (.inl 0)], [], M)) sm_a103_134 rfl rfl rfl ?_
  refine ru_go (t := (157, [some (.inr (some a0)), some (.inr r1), some (.inr r2), some (.inl x3), some (.inl 0)], [], M)) sm_a103_136 rfl rfl (st_goto (pc := 136) (by decide)) ?_
  exact h
theorem bb_103_139 {d : Nat} {M : sm_M} {Q : Option sm_V → sm_M → Prop} {a0 : Nat} {r1 : Option Nat} {r2 : Option Nat} {x3 : Int32} {x4 : Int32}
    (h : ((x4 = 0 → sm_Run (d + 1) 103 157 [some (.inr (some a0)), some (.inr r1), some (.inr r2), some (.inl x3), some (.inl x4)] [] M Q) ∧ (¬ (x4 = 0) → ∃ b_2, r1 = some b_2 ∧ sm_K M b_2 = 33 ∧ ((¬ (sm_I M b_2 8) = 5 → sm_Run (d + 1) 103 157 [some (.inr (some a0)), some (.inr (some b_2)), some (.inr r2), some (.inl x3), some (.inl x4)] [] M Q) ∧ (¬ (¬ (sm_I M b_2 8) = 5) → ∃ b_6, r2 = some b_6 ∧ sm_K M b_6 = 27 ∧ sm_Run (d + 1) 103 157 [some (.inr (some a0)), some (.inr (some b_2)), some (.inr (some b_6)), some (.inl x3), some (.inl x4)] [] (sm_putR M b_6 5 (some b_2)) Q))))) :
    sm_Run (d + 1) 103 139 [some (.inr (some a0)), some (.inr r1), some (.inr r2), some (.inl x3), some (.inl x4)] [] M Q := by
  refine ru_go (t := (141, [some (.inr (some a0)), some (.inr r1), some (.inr r2), some (.inl x3), some (.inl x4)], [.inl x4], M)) sm_a103_139 rfl rfl rfl ?_
  refine ru_if (pc := 141) (p := 157) (p2 := 144) sm_a103_141 (by decide) rfl ⟨fun hc_1 => ?_, fun hc_1 => ?_⟩
  · have h := h.1 hc_1
    exact h
  · have h := h.2 hc_1
    refine ru_go (t := (145, [some (.inr (some a0)), some (.inr r1), some (.inr r2), some (.inl x3), some (.inl x4)], [.inr r1], M)) sm_a103_144 rfl rfl rfl ?_
    obtain ⟨b_2, hb_3, h⟩ := h
    rw [hb_3]
    obtain ⟨h_4, h⟩ := h
    refine ru_go (t := (148, [some (.inr (some a0)), some (.inr (some b_2)), some (.inr r2), some (.inl x3), some (.inl x4)], [.inl (sm_I M b_2 8)], M)) sm_a103_145 rfl rfl (st_getI h_4 rfl) ?_
    refine ru_go (t := (149, [some (.inr (some a0)), some (.inr (some b_2)), some (.inr r2), some (.inl x3), some (.inl x4)], [.inl 5, .inl (sm_I M b_2 8)], M)) sm_a103_148 rfl rfl (st_iconst (by decide)) ?_
    refine ru_icmp (pc := 149) (p := 157) (p2 := 152) sm_a103_149 (by decide) rfl ⟨fun hc_5 => ?_, fun hc_5 => ?_⟩
    · have h := h.1 hc_5
      exact h
    · have h := h.2 hc_5
      refine ru_go (t := (153, [some (.inr (some a0)), some (.inr (some b_2)), some (.inr r2), some (.inl x3), some (.inl x4)], [.inr r2], M)) sm_a103_152 rfl rfl rfl ?_
      refine ru_go (t := (154, [some (.inr (some a0)), some (.inr (some b_2)), some (.inr r2), some (.inl x3), some (.inl x4)], [.inr (some b_2), .inr r2], M)) sm_a103_153 rfl rfl rfl ?_
      obtain ⟨b_6, hb_7, h⟩ := h
      rw [hb_7]
      obtain ⟨h_8, h⟩ := h
      refine ru_go (t := (157, [some (.inr (some a0)), some (.inr (some b_2)), some (.inr (some b_6)), some (.inl x3), some (.inl x4)], [], sm_putR M b_6 5 (some b_2))) sm_a103_154 rfl rfl (st_putR h_8 rfl) ?_
      exact h
theorem bb_103_157 {d : Nat} {M : sm_M} {Q : Option sm_V → sm_M → Prop} {a0 : Nat} {r1 : Option Nat} {r2 : Option Nat} {x3 : Int32} {x4 : Int32}
    (h : ((¬ x4 = 0 → ∃ b_2, r1 = some b_2 ∧ sm_K M b_2 = 33 ∧ ((¬ (sm_I M b_2 8) = 6 → sm_K M a0 = 21 ∧ sm_Run d 91 0 (sm_ent 91 [.inr (some a0), .inl (sm_I M b_2 0), .inl ((sm_I M b_2 8) + 1), .inl x3]) [] M (fun v M1 => sm_Run (d + 1) 103 201 [some (.inr (some a0)), some (.inr (some b_2)), some (.inr r2), some (.inl x3), some (.inl x4)] (v.toList ++ []) M1 Q)) ∧ (¬ (¬ (sm_I M b_2 8) = 6) → ∃ b_7, r2 = some b_7 ∧ sm_K M b_7 = 27 ∧ sm_Run d 116 0 (sm_ent 116 [.inr (some b_7)]) [] M (fun v M1 => sm_Run (d + 1) 103 183 [some (.inr (some a0)), some (.inr (some b_2)), some (.inr (some b_7)), some (.inl x3), some (.inl x4)] (v.toList ++ []) M1 Q)))) ∧ (¬ (¬ x4 = 0) → ∃ b_10, r2 = some b_10 ∧ sm_K M b_10 = 27 ∧ Q none (sm_putI M b_10 0 3)))) :
    sm_Run (d + 1) 103 157 [some (.inr (some a0)), some (.inr r1), some (.inr r2), some (.inl x3), some (.inl x4)] [] M Q := by
  refine ru_go (t := (159, [some (.inr (some a0)), some (.inr r1), some (.inr r2), some (.inl x3), some (.inl x4)], [.inl x4], M)) sm_a103_157 rfl rfl rfl ?_
  refine ru_if (pc := 159) (p := 170) (p2 := 162) sm_a103_159 (by decide) rfl ⟨fun hc_1 => ?_, fun hc_1 => ?_⟩
  · have h := h.1 hc_1
    refine ru_go (t := (171, [some (.inr (some a0)), some (.inr r1), some (.inr r2), some (.inl x3), some (.inl x4)], [.inr r1], M)) sm_a103_170 rfl rfl rfl ?_
    obtain ⟨b_2, hb_3, h⟩ := h
    rw [hb_3]
    obtain ⟨h_4, h⟩ := h
    refine ru_go (t := (174, [some (.inr (some a0)), some (.inr (some b_2)), some (.inr r2), some (.inl x3), some (.inl x4)], [.inl (sm_I M b_2 8)], M)) sm_a103_171 rfl rfl (st_getI h_4 rfl) ?_
    refine ru_go (t := (176, [some (.inr (some a0)), some (.inr (some b_2)), some (.inr r2), some (.inl x3), some (.inl x4)], [.inl 6, .inl (sm_I M b_2 8)], M)) sm_a103_174 rfl rfl (st_bipush (by decide)) ?_
    refine ru_icmp (pc := 176) (p := 186) (p2 := 179) sm_a103_176 (by decide) rfl ⟨fun hc_5 => ?_, fun hc_5 => ?_⟩
    · have h := h.1 hc_5
      refine ru_go (t := (187, [some (.inr (some a0)), some (.inr (some b_2)), some (.inr r2), some (.inl x3), some (.inl x4)], [.inr (some a0)], M)) sm_a103_186 rfl rfl rfl ?_
      refine ru_go (t := (188, [some (.inr (some a0)), some (.inr (some b_2)), some (.inr r2), some (.inl x3), some (.inl x4)], [.inr (some b_2), .inr (some a0)], M)) sm_a103_187 rfl rfl rfl ?_
      refine ru_go (t := (191, [some (.inr (some a0)), some (.inr (some b_2)), some (.inr r2), some (.inl x3), some (.inl x4)], [.inl (sm_I M b_2 0), .inr (some a0)], M)) sm_a103_188 rfl rfl (st_getI h_4 rfl) ?_
      refine ru_go (t := (192, [some (.inr (some a0)), some (.inr (some b_2)), some (.inr r2), some (.inl x3), some (.inl x4)], [.inr (some b_2), .inl (sm_I M b_2 0), .inr (some a0)], M)) sm_a103_191 rfl rfl rfl ?_
      refine ru_go (t := (195, [some (.inr (some a0)), some (.inr (some b_2)), some (.inr r2), some (.inl x3), some (.inl x4)], [.inl (sm_I M b_2 8), .inl (sm_I M b_2 0), .inr (some a0)], M)) sm_a103_192 rfl rfl (st_getI h_4 rfl) ?_
      refine ru_go (t := (196, [some (.inr (some a0)), some (.inr (some b_2)), some (.inr r2), some (.inl x3), some (.inl x4)], [.inl 1, .inl (sm_I M b_2 8), .inl (sm_I M b_2 0), .inr (some a0)], M)) sm_a103_195 rfl rfl (st_iconst (by decide)) ?_
      refine ru_go (t := (197, [some (.inr (some a0)), some (.inr (some b_2)), some (.inr r2), some (.inl x3), some (.inl x4)], [.inl ((sm_I M b_2 8) + 1), .inl (sm_I M b_2 0), .inr (some a0)], M)) sm_a103_196 rfl rfl rfl ?_
      refine ru_go (t := (198, [some (.inr (some a0)), some (.inr (some b_2)), some (.inr r2), some (.inl x3), some (.inl x4)], [.inl x3, .inl ((sm_I M b_2 8) + 1), .inl (sm_I M b_2 0), .inr (some a0)], M)) sm_a103_197 rfl rfl rfl ?_
      obtain ⟨h_6, h⟩ := h
      exact ru_call (p := 201) sm_a103_198 rfl (sc_virt (Or.inl rfl) rfl rfl h_6 (Nat.le_of_ble_eq_true rfl)) rfl h
    · have h := h.2 hc_5
      refine ru_go (t := (180, [some (.inr (some a0)), some (.inr (some b_2)), some (.inr r2), some (.inl x3), some (.inl x4)], [.inr r2], M)) sm_a103_179 rfl rfl rfl ?_
      obtain ⟨b_7, hb_8, h⟩ := h
      rw [hb_8]
      obtain ⟨h_9, h⟩ := h
      exact ru_call (p := 183) sm_a103_180 rfl (sc_virt (Or.inl rfl) rfl rfl h_9 (Nat.le_of_ble_eq_true rfl)) rfl h
  · have h := h.2 hc_1
    refine ru_go (t := (163, [some (.inr (some a0)), some (.inr r1), some (.inr r2), some (.inl x3), some (.inl x4)], [.inr r2], M)) sm_a103_162 rfl rfl rfl ?_
    refine ru_go (t := (164, [some (.inr (some a0)), some (.inr r1), some (.inr r2), some (.inl x3), some (.inl x4)], [.inl 3, .inr r2], M)) sm_a103_163 rfl rfl (st_iconst (by decide)) ?_
    obtain ⟨b_10, hb_11, h⟩ := h
    rw [hb_11]
    obtain ⟨h_12, h⟩ := h
    refine ru_go (t := (167, [some (.inr (some a0)), some (.inr r1), some (.inr (some b_10)), some (.inl x3), some (.inl x4)], [], sm_putI M b_10 0 3)) sm_a103_164 rfl rfl (st_putI h_12 rfl) ?_
    refine ru_go (t := (201, [some (.inr (some a0)), some (.inr r1), some (.inr (some b_10)), some (.inl x3), some (.inl x4)], [], sm_putI M b_10 0 3)) sm_a103_167 rfl rfl (st_goto (pc := 167) (by decide)) ?_
    exact ru_ret sm_a103_201 (sm_rvv rfl) h
theorem bb_103_183 {d : Nat} {M : sm_M} {Q : Option sm_V → sm_M → Prop} {a0 : Nat} {r1 : Option Nat} {r2 : Option Nat} {x3 : Int32} {x4 : Int32}
    (h : Q none M) :
    sm_Run (d + 1) 103 183 [some (.inr (some a0)), some (.inr r1), some (.inr r2), some (.inl x3), some (.inl x4)] [] M Q := by
  refine ru_go (t := (201, [some (.inr (some a0)), some (.inr r1), some (.inr r2), some (.inl x3), some (.inl x4)], [], M)) sm_a103_183 rfl rfl (st_goto (pc := 183) (by decide)) ?_
  exact ru_ret sm_a103_201 (sm_rvv rfl) h
theorem bb_103_201 {d : Nat} {M : sm_M} {Q : Option sm_V → sm_M → Prop} {a0 : Nat} {r1 : Option Nat} {r2 : Option Nat} {x3 : Int32} {x4 : Int32}
    (h : Q none M) :
    sm_Run (d + 1) 103 201 [some (.inr (some a0)), some (.inr r1), some (.inr r2), some (.inl x3), some (.inl x4)] [] M Q := by
  exact ru_ret sm_a103_201 (sm_rvv rfl) h
