/-! WireBus$Wire.<init>:()V -/
theorem sm_a137_0 : sm_at 137 0 = some (.aload_n 0, 1, (0, 0, 0, 0)) := by decide +kernel
theorem sm_a137_1 : sm_at 137 1 = some (.invokespecial 3, 3, (1, 0, 0, 132)) := by decide +kernel
theorem sm_a137_4 : sm_at 137 4 = some (.aload_n 0, 1, (0, 0, 0, 0)) := by decide +kernel
theorem sm_a137_5 : sm_at 137 5 = some (.bipush 60, 2, (0, 0, 0, 0)) := by decide +kernel
theorem sm_a137_7 : sm_at 137 7 = some (.anewarray 11, 3, (7, 0, 0, 133)) := by decide +kernel
theorem sm_a137_10 : sm_at 137 10 = some (.putfield 13, 3, (11, 0, 0, 306)) := by decide +kernel
theorem sm_a137_13 : sm_at 137 13 = some (.aload_n 0, 1, (0, 0, 0, 0)) := by decide +kernel
theorem sm_a137_14 : sm_at 137 14 = some (.new 11, 3, (7, 0, 0, 133)) := by decide +kernel
theorem sm_a137_17 : sm_at 137 17 = some (.dup, 1, (0, 0, 0, 0)) := by decide +kernel
theorem sm_a137_18 : sm_at 137 18 = some (.invokespecial 17, 3, (15, 104, 7, 136)) := by decide +kernel
theorem sm_a137_21 : sm_at 137 21 = some (.putfield 18, 3, (11, 1, 0, 307)) := by decide +kernel
theorem sm_a137_24 : sm_at 137 24 = some (.aload_n 0, 1, (0, 0, 0, 0)) := by decide +kernel
theorem sm_a137_25 : sm_at 137 25 = some (.new 22, 3, (2, 0, 0, 185)) := by decide +kernel
theorem sm_a137_28 : sm_at 137 28 = some (.dup, 1, (0, 0, 0, 0)) := by decide +kernel
theorem sm_a137_29 : sm_at 137 29 = some (.invokespecial 24, 3, (15, 37, 2, 187)) := by decide +kernel
theorem sm_a137_32 : sm_at 137 32 = some (.putfield 25, 3, (11, 2, 0, 308)) := by decide +kernel
theorem sm_a137_35 : sm_at 137 35 = some (.aload_n 0, 1, (0, 0, 0, 0)) := by decide +kernel
theorem sm_a137_36 : sm_at 137 36 = some (.bipush 6, 2, (0, 0, 0, 0)) := by decide +kernel
theorem sm_a137_38 : sm_at 137 38 = some (.anewarray 29, 3, (4, 0, 0, 206)) := by decide +kernel
theorem sm_a137_41 : sm_at 137 41 = some (.putfield 31, 3, (11, 3, 0, 309)) := by decide +kernel
theorem sm_a137_44 : sm_at 137 44 = some (.aload_n 0, 1, (0, 0, 0, 0)) := by decide +kernel
theorem sm_a137_45 : sm_at 137 45 = some (.bipush 50, 2, (0, 0, 0, 0)) := by decide +kernel
theorem sm_a137_47 : sm_at 137 47 = some (.newarray .int, 2, (8, 0, 0, 0)) := by decide +kernel
theorem sm_a137_49 : sm_at 137 49 = some (.putfield 35, 3, (11, 4, 0, 311)) := by decide +kernel
theorem sm_a137_52 : sm_at 137 52 = some (.aload_n 0, 1, (0, 0, 0, 0)) := by decide +kernel
theorem sm_a137_53 : sm_at 137 53 = some (.bipush 50, 2, (0, 0, 0, 0)) := by decide +kernel
theorem sm_a137_55 : sm_at 137 55 = some (.newarray .int, 2, (9, 0, 0, 0)) := by decide +kernel
theorem sm_a137_57 : sm_at 137 57 = some (.putfield 39, 3, (11, 5, 0, 312)) := by decide +kernel
theorem sm_a137_60 : sm_at 137 60 = some (.aload_n 0, 1, (0, 0, 0, 0)) := by decide +kernel
theorem sm_a137_61 : sm_at 137 61 = some (.bipush 50, 2, (0, 0, 0, 0)) := by decide +kernel
theorem sm_a137_63 : sm_at 137 63 = some (.newarray .int, 2, (10, 0, 0, 0)) := by decide +kernel
theorem sm_a137_65 : sm_at 137 65 = some (.putfield 42, 3, (11, 6, 0, 313)) := by decide +kernel
theorem sm_a137_68 : sm_at 137 68 = some (.aload_n 0, 1, (0, 0, 0, 0)) := by decide +kernel
theorem sm_a137_69 : sm_at 137 69 = some (.iconst (-1), 1, (0, 0, 0, 0)) := by decide +kernel
theorem sm_a137_70 : sm_at 137 70 = some (.putfield 45, 3, (11, 9, 0, 318)) := by decide +kernel
theorem sm_a137_73 : sm_at 137 73 = some (.iconst 0, 1, (0, 0, 0, 0)) := by decide +kernel
theorem sm_a137_74 : sm_at 137 74 = some (.istore_n 1, 1, (0, 0, 0, 0)) := by decide +kernel
theorem sm_a137_75 : sm_at 137 75 = some (.iload_n 1, 1, (0, 0, 0, 0)) := by decide +kernel
theorem sm_a137_76 : sm_at 137 76 = some (.bipush 60, 2, (0, 0, 0, 0)) := by decide +kernel
theorem sm_a137_78 : sm_at 137 78 = some (.if_icmp .ge 22, 3, (0, 0, 0, 0)) := by decide +kernel
theorem sm_a137_81 : sm_at 137 81 = some (.aload_n 0, 1, (0, 0, 0, 0)) := by decide +kernel
theorem sm_a137_82 : sm_at 137 82 = some (.getfield 13, 3, (11, 0, 0, 306)) := by decide +kernel
theorem sm_a137_85 : sm_at 137 85 = some (.iload_n 1, 1, (0, 0, 0, 0)) := by decide +kernel
theorem sm_a137_86 : sm_at 137 86 = some (.new 11, 3, (7, 0, 0, 133)) := by decide +kernel
theorem sm_a137_89 : sm_at 137 89 = some (.dup, 1, (0, 0, 0, 0)) := by decide +kernel
theorem sm_a137_90 : sm_at 137 90 = some (.invokespecial 17, 3, (15, 104, 7, 136)) := by decide +kernel
theorem sm_a137_93 : sm_at 137 93 = some (.aastore, 1, (0, 0, 0, 0)) := by decide +kernel
theorem sm_a137_94 : sm_at 137 94 = some (.iinc 1 1, 3, (0, 0, 0, 0)) := by decide +kernel
theorem sm_a137_97 : sm_at 137 97 = some (.goto (-22), 3, (0, 0, 0, 0)) := by decide +kernel
theorem sm_a137_100 : sm_at 137 100 = some (.iconst 0, 1, (0, 0, 0, 0)) := by decide +kernel
theorem sm_a137_101 : sm_at 137 101 = some (.istore_n 1, 1, (0, 0, 0, 0)) := by decide +kernel
theorem sm_a137_102 : sm_at 137 102 = some (.iload_n 1, 1, (0, 0, 0, 0)) := by decide +kernel
theorem sm_a137_103 : sm_at 137 103 = some (.bipush 6, 2, (0, 0, 0, 0)) := by decide +kernel
theorem sm_a137_105 : sm_at 137 105 = some (.if_icmp .ge 22, 3, (0, 0, 0, 0)) := by decide +kernel
theorem sm_a137_108 : sm_at 137 108 = some (.aload_n 0, 1, (0, 0, 0, 0)) := by decide +kernel
theorem sm_a137_109 : sm_at 137 109 = some (.getfield 31, 3, (11, 3, 0, 309)) := by decide +kernel
theorem sm_a137_112 : sm_at 137 112 = some (.iload_n 1, 1, (0, 0, 0, 0)) := by decide +kernel
theorem sm_a137_113 : sm_at 137 113 = some (.new 29, 3, (4, 0, 0, 206)) := by decide +kernel
theorem sm_a137_116 : sm_at 137 116 = some (.dup, 1, (0, 0, 0, 0)) := by decide +kernel
theorem sm_a137_117 : sm_at 137 117 = some (.invokespecial 49, 3, (15, 59, 4, 209)) := by decide +kernel
theorem sm_a137_120 : sm_at 137 120 = some (.aastore, 1, (0, 0, 0, 0)) := by decide +kernel
theorem sm_a137_121 : sm_at 137 121 = some (.iinc 1 1, 3, (0, 0, 0, 0)) := by decide +kernel
theorem sm_a137_124 : sm_at 137 124 = some (.goto (-22), 3, (0, 0, 0, 0)) := by decide +kernel
theorem sm_a137_127 : sm_at 137 127 = some (.return_, 1, (0, 0, 0, 0)) := by decide +kernel
theorem bb_137_0 {d : Nat} {M : sm_M} {Q : Option sm_V → sm_M → Prop} {a0 : Nat} {z1 : Option sm_V}
    (h : sm_K (sm_new M 25 (60 : Int32).toNatClampNeg (60 : Int32).toNatClampNeg) a0 = 36 ∧ sm_Run d 104 0 (sm_ent 104 [.inr (some (sm_N (sm_putR (sm_new M 25 (60 : Int32).toNatClampNeg (60 : Int32).toNatClampNeg) a0 0 (some (sm_N M)))))]) [] (sm_new (sm_putR (sm_new M 25 (60 : Int32).toNatClampNeg (60 : Int32).toNatClampNeg) a0 0 (some (sm_N M))) 24 0 8) (fun v M1 => sm_Run (d + 1) 137 21 [some (.inr (some a0)), z1] (v.toList ++ [.inr (some (sm_N (sm_putR (sm_new M 25 (60 : Int32).toNatClampNeg (60 : Int32).toNatClampNeg) a0 0 (some (sm_N M))))), .inr (some a0)]) M1 Q)) :
    sm_Run (d + 1) 137 0 [some (.inr (some a0)), z1] [] M Q := by
  refine ru_go (t := (1, [some (.inr (some a0)), z1], [.inr (some a0)], M)) sm_a137_0 rfl rfl rfl ?_
  refine ru_go (t := (4, [some (.inr (some a0)), z1], [], M)) sm_a137_1 rfl rfl (st_oi (Nat.le_of_ble_eq_true rfl)) ?_
  refine ru_go (t := (5, [some (.inr (some a0)), z1], [.inr (some a0)], M)) sm_a137_4 rfl rfl rfl ?_
  refine ru_go (t := (7, [some (.inr (some a0)), z1], [.inl 60, .inr (some a0)], M)) sm_a137_5 rfl rfl (st_bipush (by decide)) ?_
  refine ru_go (t := (10, [some (.inr (some a0)), z1], [.inr (some (sm_N M)), .inr (some a0)], sm_new M 25 (60 : Int32).toNatClampNeg (60 : Int32).toNatClampNeg)) sm_a137_7 rfl rfl (st_newq (by decide)) ?_
  obtain ⟨h_1, h⟩ := h
  refine ru_go (t := (13, [some (.inr (some a0)), z1], [], sm_putR (sm_new M 25 (60 : Int32).toNatClampNeg (60 : Int32).toNatClampNeg) a0 0 (some (sm_N M)))) sm_a137_10 rfl rfl (st_putR h_1 rfl) ?_
  refine ru_go (t := (14, [some (.inr (some a0)), z1], [.inr (some a0)], sm_putR (sm_new M 25 (60 : Int32).toNatClampNeg (60 : Int32).toNatClampNeg) a0 0 (some (sm_N M)))) sm_a137_13 rfl rfl rfl ?_
  refine ru_go (t := (17, [some (.inr (some a0)), z1], [.inr (some (sm_N (sm_putR (sm_new M 25 (60 : Int32).toNatClampNeg (60 : Int32).toNatClampNeg) a0 0 (some (sm_N M))))), .inr (some a0)], sm_new (sm_putR (sm_new M 25 (60 : Int32).toNatClampNeg (60 : Int32).toNatClampNeg) a0 0 (some (sm_N M))) 24 0 8)) sm_a137_14 rfl rfl rfl ?_
  refine ru_go (t := (18, [some (.inr (some a0)), z1], [.inr (some (sm_N (sm_putR (sm_new M 25 (60 : Int32).toNatClampNeg (60 : Int32).toNatClampNeg) a0 0 (some (sm_N M))))), .inr (some (sm_N (sm_putR (sm_new M 25 (60 : Int32).toNatClampNeg (60 : Int32).toNatClampNeg) a0 0 (some (sm_N M))))), .inr (some a0)], sm_new (sm_putR (sm_new M 25 (60 : Int32).toNatClampNeg (60 : Int32).toNatClampNeg) a0 0 (some (sm_N M))) 24 0 8)) sm_a137_17 rfl rfl rfl ?_
  exact ru_call (p := 21) sm_a137_18 rfl (sc_spec (Or.inr rfl) rfl rfl (Nat.le_of_ble_eq_true rfl)) rfl h
theorem bb_137_21 {d : Nat} {M : sm_M} {Q : Option sm_V → sm_M → Prop} {a0 : Nat} {z1 : Option sm_V} {t0 : Option Nat} {b1 : Nat}
    (h : sm_K M b1 = 36 ∧ sm_Run d 37 0 (sm_ent 37 [.inr (some (sm_N (sm_putR M b1 1 t0)))]) [] (sm_new (sm_putR M b1 1 t0) 9 0 4) (fun v M1 => sm_Run (d + 1) 137 32 [some (.inr (some a0)), z1] (v.toList ++ [.inr (some (sm_N (sm_putR M b1 1 t0))), .inr (some a0)]) M1 Q)) :
    sm_Run (d + 1) 137 21 [some (.inr (some a0)), z1] [.inr t0, .inr (some b1)] M Q := by
  obtain ⟨h_1, h⟩ := h
  refine ru_go (t := (24, [some (.inr (some a0)), z1], [], sm_putR M b1 1 t0)) sm_a137_21 rfl rfl (st_putR h_1 rfl) ?_
  refine ru_go (t := (25, [some (.inr (some a0)), z1], [.inr (some a0)], sm_putR M b1 1 t0)) sm_a137_24 rfl rfl rfl ?_
  refine ru_go (t := (28, [some (.inr (some a0)), z1], [.inr (some (sm_N (sm_putR M b1 1 t0))), .inr (some a0)], sm_new (sm_putR M b1 1 t0) 9 0 4)) sm_a137_25 rfl rfl rfl ?_
  refine ru_go (t := (29, [some (.inr (some a0)), z1], [.inr (some (sm_N (sm_putR M b1 1 t0))), .inr (some (sm_N (sm_putR M b1 1 t0))), .inr (some a0)], sm_new (sm_putR M b1 1 t0) 9 0 4)) sm_a137_28 rfl rfl rfl ?_
  exact ru_call (p := 32) sm_a137_29 rfl (sc_spec (Or.inr rfl) rfl rfl (Nat.le_of_ble_eq_true rfl)) rfl h
theorem bb_137_32 {d : Nat} {M : sm_M} {Q : Option sm_V → sm_M → Prop} {a0 : Nat} {z1 : Option sm_V} {t0 : Option Nat} {b1 : Nat}
    (h : sm_K M b1 = 36 ∧ sm_K (sm_new (sm_putR M b1 2 t0) 16 (6 : Int32).toNatClampNeg (6 : Int32).toNatClampNeg) a0 = 36 ∧ sm_K (sm_new (sm_putR (sm_new (sm_putR M b1 2 t0) 16 (6 : Int32).toNatClampNeg (6 : Int32).toNatClampNeg) a0 3 (some (sm_N (sm_putR M b1 2 t0)))) 26 (50 : Int32).toNatClampNeg (50 : Int32).toNatClampNeg) a0 = 36 ∧ sm_Run (d + 1) 137 52 [some (.inr (some a0)), z1] [] (sm_putR (sm_new (sm_putR (sm_new (sm_putR M b1 2 t0) 16 (6 : Int32).toNatClampNeg (6 : Int32).toNatClampNeg) a0 3 (some (sm_N (sm_putR M b1 2 t0)))) 26 (50 : Int32).toNatClampNeg (50 : Int32).toNatClampNeg) a0 4 (some (sm_N (sm_putR (sm_new (sm_putR M b1 2 t0) 16 (6 : Int32).toNatClampNeg (6 : Int32).toNatClampNeg) a0 3 (some (sm_N (sm_putR M b1 2 t0))))))) Q) :
    sm_Run (d + 1) 137 32 [some (.inr (some a0)), z1] [.inr t0, .inr (some b1)] M Q := by
  obtain ⟨h_1, h⟩ := h
  refine ru_go (t := (35, [some (.inr (some a0)), z1], [], sm_putR M b1 2 t0)) sm_a137_32 rfl rfl (st_putR h_1 rfl) ?_
  refine ru_go (t := (36, [some (.inr (some a0)), z1], [.inr (some a0)], sm_putR M b1 2 t0)) sm_a137_35 rfl rfl rfl ?_
  refine ru_go (t := (38, [some (.inr (some a0)), z1], [.inl 6, .inr (some a0)], sm_putR M b1 2 t0)) sm_a137_36 rfl rfl (st_bipush (by decide)) ?_
  refine ru_go (t := (41, [some (.inr (some a0)), z1], [.inr (some (sm_N (sm_putR M b1 2 t0))), .inr (some a0)], sm_new (sm_putR M b1 2 t0) 16 (6 : Int32).toNatClampNeg (6 : Int32).toNatClampNeg)) sm_a137_38 rfl rfl (st_newq (by decide)) ?_
  obtain ⟨h_2, h⟩ := h
  refine ru_go (t := (44, [some (.inr (some a0)), z1], [], sm_putR (sm_new (sm_putR M b1 2 t0) 16 (6 : Int32).toNatClampNeg (6 : Int32).toNatClampNeg) a0 3 (some (sm_N (sm_putR M b1 2 t0))))) sm_a137_41 rfl rfl (st_putR h_2 rfl) ?_
  refine ru_go (t := (45, [some (.inr (some a0)), z1], [.inr (some a0)], sm_putR (sm_new (sm_putR M b1 2 t0) 16 (6 : Int32).toNatClampNeg (6 : Int32).toNatClampNeg) a0 3 (some (sm_N (sm_putR M b1 2 t0))))) sm_a137_44 rfl rfl rfl ?_
  refine ru_go (t := (47, [some (.inr (some a0)), z1], [.inl 50, .inr (some a0)], sm_putR (sm_new (sm_putR M b1 2 t0) 16 (6 : Int32).toNatClampNeg (6 : Int32).toNatClampNeg) a0 3 (some (sm_N (sm_putR M b1 2 t0))))) sm_a137_45 rfl rfl (st_bipush (by decide)) ?_
  refine ru_go (t := (49, [some (.inr (some a0)), z1], [.inr (some (sm_N (sm_putR (sm_new (sm_putR M b1 2 t0) 16 (6 : Int32).toNatClampNeg (6 : Int32).toNatClampNeg) a0 3 (some (sm_N (sm_putR M b1 2 t0)))))), .inr (some a0)], sm_new (sm_putR (sm_new (sm_putR M b1 2 t0) 16 (6 : Int32).toNatClampNeg (6 : Int32).toNatClampNeg) a0 3 (some (sm_N (sm_putR M b1 2 t0)))) 26 (50 : Int32).toNatClampNeg (50 : Int32).toNatClampNeg)) sm_a137_47 rfl rfl (st_newa (by decide)) ?_
  obtain ⟨h_3, h⟩ := h
  refine ru_go (t := (52, [some (.inr (some a0)), z1], [], sm_putR (sm_new (sm_putR (sm_new (sm_putR M b1 2 t0) 16 (6 : Int32).toNatClampNeg (6 : Int32).toNatClampNeg) a0 3 (some (sm_N (sm_putR M b1 2 t0)))) 26 (50 : Int32).toNatClampNeg (50 : Int32).toNatClampNeg) a0 4 (some (sm_N (sm_putR (sm_new (sm_putR M b1 2 t0) 16 (6 : Int32).toNatClampNeg (6 : Int32).toNatClampNeg) a0 3 (some (sm_N (sm_putR M b1 2 t0)))))))) sm_a137_49 rfl rfl (st_putR h_3 rfl) ?_
  exact h
theorem bb_137_52 {d : Nat} {M : sm_M} {Q : Option sm_V → sm_M → Prop} {a0 : Nat} {z1 : Option sm_V}
    (h : sm_K (sm_new M 29 (50 : Int32).toNatClampNeg (50 : Int32).toNatClampNeg) a0 = 36 ∧ sm_K (sm_new (sm_putR (sm_new M 29 (50 : Int32).toNatClampNeg (50 : Int32).toNatClampNeg) a0 5 (some (sm_N M))) 32 (50 : Int32).toNatClampNeg (50 : Int32).toNatClampNeg) a0 = 36 ∧ sm_Run (d + 1) 137 75 [some (.inr (some a0)), some (.inl 0)] [] (sm_putI (sm_putR (sm_new (sm_putR (sm_new M 29 (50 : Int32).toNatClampNeg (50 : Int32).toNatClampNeg) a0 5 (some (sm_N M))) 32 (50 : Int32).toNatClampNeg (50 : Int32).toNatClampNeg) a0 6 (some (sm_N (sm_putR (sm_new M 29 (50 : Int32).toNatClampNeg (50 : Int32).toNatClampNeg) a0 5 (some (sm_N M)))))) a0 9 (-1)) Q) :
    sm_Run (d + 1) 137 52 [some (.inr (some a0)), z1] [] M Q := by
  refine ru_go (t := (53, [some (.inr (some a0)), z1], [.inr (some a0)], M)) sm_a137_52 rfl rfl rfl ?_
  refine ru_go (t := (55, [some (.inr (some a0)), z1], [.inl 50, .inr (some a0)], M)) sm_a137_53 rfl rfl (st_bipush (by decide)) ?_
  refine ru_go (t := (57, [some (.inr (some a0)), z1], [.inr (some (sm_N M)), .inr (some a0)], sm_new M 29 (50 : Int32).toNatClampNeg (50 : Int32).toNatClampNeg)) sm_a137_55 rfl rfl (st_newa (by decide)) ?_
  obtain ⟨h_1, h⟩ := h
  refine ru_go (t := (60, [some (.inr (some a0)), z1], [], sm_putR (sm_new M 29 (50 : Int32).toNatClampNeg (50 : Int32).toNatClampNeg) a0 5 (some (sm_N M)))) sm_a137_57 rfl rfl (st_putR h_1 rfl) ?_
  refine ru_go (t := (61, [some (.inr (some a0)), z1], [.inr (some a0)], sm_putR (sm_new M 29 (50 : Int32).toNatClampNeg (50 : Int32).toNatClampNeg) a0 5 (some (sm_N M)))) sm_a137_60 rfl rfl rfl ?_
  refine ru_go (t := (63, [some (.inr (some a0)), z1], [.inl 50, .inr (some a0)], sm_putR (sm_new M 29 (50 : Int32).toNatClampNeg (50 : Int32).toNatClampNeg) a0 5 (some (sm_N M)))) sm_a137_61 rfl rfl (st_bipush (by decide)) ?_
  refine ru_go (t := (65, [some (.inr (some a0)), z1], [.inr (some (sm_N (sm_putR (sm_new M 29 (50 : Int32).toNatClampNeg (50 : Int32).toNatClampNeg) a0 5 (some (sm_N M))))), .inr (some a0)], sm_new (sm_putR (sm_new M 29 (50 : Int32).toNatClampNeg (50 : Int32).toNatClampNeg) a0 5 (some (sm_N M))) 32 (50 : Int32).toNatClampNeg (50 : Int32).toNatClampNeg)) sm_a137_63 rfl rfl (st_newa (by decide)) ?_
  obtain ⟨h_2, h⟩ := h
  refine ru_go (t := (68, [some (.inr (some a0)), z1], [], sm_putR (sm_new (sm_putR (sm_new M 29 (50 : Int32).toNatClampNeg (50 : Int32).toNatClampNeg) a0 5 (some (sm_N M))) 32 (50 : Int32).toNatClampNeg (50 : Int32).toNatClampNeg) a0 6 (some (sm_N (sm_putR (sm_new M 29 (50 : Int32).toNatClampNeg (50 : Int32).toNatClampNeg) a0 5 (some (sm_N M))))))) sm_a137_65 rfl rfl (st_putR h_2 rfl) ?_
  refine ru_go (t := (69, [some (.inr (some a0)), z1], [.inr (some a0)], sm_putR (sm_new (sm_putR (sm_new M 29 (50 : Int32).toNatClampNeg (50 : Int32).toNatClampNeg) a0 5 (some (sm_N M))) 32 (50 : Int32).toNatClampNeg (50 : Int32).toNatClampNeg) a0 6 (some (sm_N (sm_putR (sm_new M 29 (50 : Int32).toNatClampNeg (50 : Int32).toNatClampNeg) a0 5 (some (sm_N M))))))) sm_a137_68 rfl rfl rfl ?_
  refine ru_go (t := (70, [some (.inr (some a0)), z1], [.inl (-1), .inr (some a0)], sm_putR (sm_new (sm_putR (sm_new M 29 (50 : Int32).toNatClampNeg (50 : Int32).toNatClampNeg) a0 5 (some (sm_N M))) 32 (50 : Int32).toNatClampNeg (50 : Int32).toNatClampNeg) a0 6 (some (sm_N (sm_putR (sm_new M 29 (50 : Int32).toNatClampNeg (50 : Int32).toNatClampNeg) a0 5 (some (sm_N M))))))) sm_a137_69 rfl rfl (st_iconst (by decide)) ?_
  refine ru_go (t := (73, [some (.inr (some a0)), z1], [], sm_putI (sm_putR (sm_new (sm_putR (sm_new M 29 (50 : Int32).toNatClampNeg (50 : Int32).toNatClampNeg) a0 5 (some (sm_N M))) 32 (50 : Int32).toNatClampNeg (50 : Int32).toNatClampNeg) a0 6 (some (sm_N (sm_putR (sm_new M 29 (50 : Int32).toNatClampNeg (50 : Int32).toNatClampNeg) a0 5 (some (sm_N M)))))) a0 9 (-1))) sm_a137_70 rfl rfl (st_putI h_2 rfl) ?_
  refine ru_go (t := (74, [some (.inr (some a0)), z1], [.inl 0], sm_putI (sm_putR (sm_new (sm_putR (sm_new M 29 (50 : Int32).toNatClampNeg (50 : Int32).toNatClampNeg) a0 5 (some (sm_N M))) 32 (50 : Int32).toNatClampNeg (50 : Int32).toNatClampNeg) a0 6 (some (sm_N (sm_putR (sm_new M 29 (50 : Int32).toNatClampNeg (50 : Int32).toNatClampNeg) a0 5 (some (sm_N M)))))) a0 9 (-1))) sm_a137_73 rfl rfl (st_iconst (by decide)) ?_
  refine ru_go (t := (75, [some (.inr (some a0)), some (.inl 0)], [], sm_putI (sm_putR (sm_new (sm_putR (sm_new M 29 (50 : Int32).toNatClampNeg (50 : Int32).toNatClampNeg) a0 5 (some (sm_N M))) 32 (50 : Int32).toNatClampNeg (50 : Int32).toNatClampNeg) a0 6 (some (sm_N (sm_putR (sm_new M 29 (50 : Int32).toNatClampNeg (50 : Int32).toNatClampNeg) a0 5 (some (sm_N M)))))) a0 9 (-1))) sm_a137_74 rfl rfl rfl ?_
  exact h
theorem bb_137_75 {d : Nat} {M : sm_M} {Q : Option sm_V → sm_M → Prop} {a0 : Nat} {x1 : Int32}
    (h : ((60 ≤ x1 → sm_Run (d + 1) 137 102 [some (.inr (some a0)), some (.inl 0)] [] M Q) ∧ (¬ (60 ≤ x1) → sm_K M a0 = 36 ∧ sm_Run d 104 0 (sm_ent 104 [.inr (some (sm_N M))]) [] (sm_new M 24 0 8) (fun v M1 => sm_Run (d + 1) 137 93 [some (.inr (some a0)), some (.inl x1)] (v.toList ++ [.inr (some (sm_N M)), .inl x1, .inr (sm_R M a0 0)]) M1 Q)))) :
    sm_Run (d + 1) 137 75 [some (.inr (some a0)), some (.inl x1)] [] M Q := by
  refine ru_go (t := (76, [some (.inr (some a0)), some (.inl x1)], [.inl x1], M)) sm_a137_75 rfl rfl rfl ?_
  refine ru_go (t := (78, [some (.inr (some a0)), some (.inl x1)], [.inl 60, .inl x1], M)) sm_a137_76 rfl rfl (st_bipush (by decide)) ?_
  refine ru_icmp (pc := 78) (p := 100) (p2 := 81) sm_a137_78 (by decide) rfl ⟨fun hc_1 => ?_, fun hc_1 => ?_⟩
  · have h := h.1 hc_1
    refine ru_go (t := (101, [some (.inr (some a0)), some (.inl x1)], [.inl 0], M)) sm_a137_100 rfl rfl (st_iconst (by decide)) ?_
    refine ru_go (t := (102, [some (.inr (some a0)), some (.inl 0)], [], M)) sm_a137_101 rfl rfl rfl ?_
    exact h
  · have h := h.2 hc_1
    refine ru_go (t := (82, [some (.inr (some a0)), some (.inl x1)], [.inr (some a0)], M)) sm_a137_81 rfl rfl rfl ?_
    obtain ⟨h_2, h⟩ := h
    refine ru_go (t := (85, [some (.inr (some a0)), some (.inl x1)], [.inr (sm_R M a0 0)], M)) sm_a137_82 rfl rfl (st_getR h_2 rfl rfl) ?_
    refine ru_go (t := (86, [some (.inr (some a0)), some (.inl x1)], [.inl x1, .inr (sm_R M a0 0)], M)) sm_a137_85 rfl rfl rfl ?_
    refine ru_go (t := (89, [some (.inr (some a0)), some (.inl x1)], [.inr (some (sm_N M)), .inl x1, .inr (sm_R M a0 0)], sm_new M 24 0 8)) sm_a137_86 rfl rfl rfl ?_
    refine ru_go (t := (90, [some (.inr (some a0)), some (.inl x1)], [.inr (some (sm_N M)), .inr (some (sm_N M)), .inl x1, .inr (sm_R M a0 0)], sm_new M 24 0 8)) sm_a137_89 rfl rfl rfl ?_
    exact ru_call (p := 93) sm_a137_90 rfl (sc_spec (Or.inr rfl) rfl rfl (Nat.le_of_ble_eq_true rfl)) rfl h
theorem bb_137_93 {d : Nat} {M : sm_M} {Q : Option sm_V → sm_M → Prop} {a0 : Nat} {x1 : Int32} {t0 : Option Nat} {y1 : Int32} {t2 : Option Nat}
    (h : ∃ b_1, t2 = some b_1 ∧ (∃ ci, sm_K M b_1 = 4 + 3 * ci ∧ sm_grp (4 + 3 * ci) = 0 ∧ ∀ q, t0 = some q → sm_K M q = 3 + 3 * ci) ∧ sm_in_ M b_1 y1 ∧ sm_Run (d + 1) 137 75 [some (.inr (some a0)), some (.inl (x1 + 1))] [] (sm_putR M b_1 (y1).toNatClampNeg t0) Q) :
    sm_Run (d + 1) 137 93 [some (.inr (some a0)), some (.inl x1)] [.inr t0, .inl y1, .inr t2] M Q := by
  obtain ⟨b_1, hb_2, h⟩ := h
  rw [hb_2]
  obtain ⟨⟨ci_4, h_3, h_5, h_6⟩, h⟩ := h
  obtain ⟨h_7, h⟩ := h
  refine ru_go (t := (94, [some (.inr (some a0)), some (.inl x1)], [], sm_putR M b_1 (y1).toNatClampNeg t0)) sm_a137_93 rfl rfl (st_aast h_3 h_5 h_7 h_6) ?_
  refine ru_go (t := (97, [some (.inr (some a0)), some (.inl (x1 + 1))], [], sm_putR M b_1 (y1).toNatClampNeg t0)) sm_a137_94 rfl rfl (st_iinc rfl (by decide)) ?_
  refine ru_go (t := (75, [some (.inr (some a0)), some (.inl (x1 + 1))], [], sm_putR M b_1 (y1).toNatClampNeg t0)) sm_a137_97 rfl rfl (st_goto (pc := 97) (by decide)) ?_
  exact h
theorem bb_137_102 {d : Nat} {M : sm_M} {Q : Option sm_V → sm_M → Prop} {a0 : Nat} {x1 : Int32}
    (h : ((6 ≤ x1 → Q none M) ∧ (¬ (6 ≤ x1) → sm_K M a0 = 36 ∧ sm_Run d 59 0 (sm_ent 59 [.inr (some (sm_N M))]) [] (sm_new M 15 0 13) (fun v M1 => sm_Run (d + 1) 137 120 [some (.inr (some a0)), some (.inl x1)] (v.toList ++ [.inr (some (sm_N M)), .inl x1, .inr (sm_R M a0 3)]) M1 Q)))) :
    sm_Run (d + 1) 137 102 [some (.inr (some a0)), some (.inl x1)] [] M Q := by
  refine ru_go (t := (103, [some (.inr (some a0)), some (.inl x1)], [.inl x1], M)) sm_a137_102 rfl rfl rfl ?_
  refine ru_go (t := (105, [some (.inr (some a0)), some (.inl x1)], [.inl 6, .inl x1], M)) sm_a137_103 rfl rfl (st_bipush (by decide)) ?_
  refine ru_icmp (pc := 105) (p := 127) (p2 := 108) sm_a137_105 (by decide) rfl ⟨fun hc_1 => ?_, fun hc_1 => ?_⟩
  · have h := h.1 hc_1
    exact ru_ret sm_a137_127 (sm_rvv rfl) h
  · have h := h.2 hc_1
    refine ru_go (t := (109, [some (.inr (some a0)), some (.inl x1)], [.inr (some a0)], M)) sm_a137_108 rfl rfl rfl ?_
    obtain ⟨h_2, h⟩ := h
    refine ru_go (t := (112, [some (.inr (some a0)), some (.inl x1)], [.inr (sm_R M a0 3)], M)) sm_a137_109 rfl rfl (st_getR h_2 rfl rfl) ?_
    refine ru_go (t := (113, [some (.inr (some a0)), some (.inl x1)], [.inl x1, .inr (sm_R M a0 3)], M)) sm_a137_112 rfl rfl rfl ?_
    refine ru_go (t := (116, [some (.inr (some a0)), some (.inl x1)], [.inr (some (sm_N M)), .inl x1, .inr (sm_R M a0 3)], sm_new M 15 0 13)) sm_a137_113 rfl rfl rfl ?_
    refine ru_go (t := (117, [some (.inr (some a0)), some (.inl x1)], [.inr (some (sm_N M)), .inr (some (sm_N M)), .inl x1, .inr (sm_R M a0 3)], sm_new M 15 0 13)) sm_a137_116 rfl rfl rfl ?_
    exact ru_call (p := 120) sm_a137_117 rfl (sc_spec (Or.inr rfl) rfl rfl (Nat.le_of_ble_eq_true rfl)) rfl h
theorem bb_137_120 {d : Nat} {M : sm_M} {Q : Option sm_V → sm_M → Prop} {a0 : Nat} {x1 : Int32} {t0 : Option Nat} {y1 : Int32} {t2 : Option Nat}
    (h : ∃ b_1, t2 = some b_1 ∧ (∃ ci, sm_K M b_1 = 4 + 3 * ci ∧ sm_grp (4 + 3 * ci) = 0 ∧ ∀ q, t0 = some q → sm_K M q = 3 + 3 * ci) ∧ sm_in_ M b_1 y1 ∧ sm_Run (d + 1) 137 102 [some (.inr (some a0)), some (.inl (x1 + 1))] [] (sm_putR M b_1 (y1).toNatClampNeg t0) Q) :
    sm_Run (d + 1) 137 120 [some (.inr (some a0)), some (.inl x1)] [.inr t0, .inl y1, .inr t2] M Q := by
  obtain ⟨b_1, hb_2, h⟩ := h
  rw [hb_2]
  obtain ⟨⟨ci_4, h_3, h_5, h_6⟩, h⟩ := h
  obtain ⟨h_7, h⟩ := h
  refine ru_go (t := (121, [some (.inr (some a0)), some (.inl x1)], [], sm_putR M b_1 (y1).toNatClampNeg t0)) sm_a137_120 rfl rfl (st_aast h_3 h_5 h_7 h_6) ?_
  refine ru_go (t := (124, [some (.inr (some a0)), some (.inl (x1 + 1))], [], sm_putR M b_1 (y1).toNatClampNeg t0)) sm_a137_121 rfl rfl (st_iinc rfl (by decide)) ?_
  refine ru_go (t := (102, [some (.inr (some a0)), some (.inl (x1 + 1))], [], sm_putR M b_1 (y1).toNatClampNeg t0)) sm_a137_124 rfl rfl (st_goto (pc := 124) (by decide)) ?_
  exact h

/-! WireBus$Wire.hasDefault:()Z -/
theorem sm_a138_0 : sm_at 138 0 = some (.iconst 0, 1, (0, 0, 0, 0)) := by decide +kernel
theorem sm_a138_1 : sm_at 138 1 = some (.istore_n 1, 1, (0, 0, 0, 0)) := by decide +kernel
theorem sm_a138_2 : sm_at 138 2 = some (.iload_n 1, 1, (0, 0, 0, 0)) := by decide +kernel
theorem sm_a138_3 : sm_at 138 3 = some (.bipush 6, 2, (0, 0, 0, 0)) := by decide +kernel
theorem sm_a138_5 : sm_at 138 5 = some (.if_icmp .ge 24, 3, (0, 0, 0, 0)) := by decide +kernel
theorem sm_a138_8 : sm_at 138 8 = some (.aload_n 0, 1, (0, 0, 0, 0)) := by decide +kernel
theorem sm_a138_9 : sm_at 138 9 = some (.getfield 31, 3, (11, 3, 0, 309)) := by decide +kernel
theorem sm_a138_12 : sm_at 138 12 = some (.iload_n 1, 1, (0, 0, 0, 0)) := by decide +kernel
theorem sm_a138_13 : sm_at 138 13 = some (.aaload, 1, (0, 0, 0, 0)) := by decide +kernel
theorem sm_a138_14 : sm_at 138 14 = some (.getfield 50, 3, (4, 3, 1, 260)) := by decide +kernel
theorem sm_a138_17 : sm_at 138 17 = some (.iconst 1, 1, (0, 0, 0, 0)) := by decide +kernel
theorem sm_a138_18 : sm_at 138 18 = some (.if_icmp .ne 5, 3, (0, 0, 0, 0)) := by decide +kernel
theorem sm_a138_21 : sm_at 138 21 = some (.iconst 1, 1, (0, 0, 0, 0)) := by decide +kernel
theorem sm_a138_22 : sm_at 138 22 = some (.ireturn, 1, (0, 0, 0, 0)) := by decide +kernel
theorem sm_a138_23 : sm_at 138 23 = some (.iinc 1 1, 3, (0, 0, 0, 0)) := by decide +kernel
theorem sm_a138_26 : sm_at 138 26 = some (.goto (-24), 3, (0, 0, 0, 0)) := by decide +kernel
theorem sm_a138_29 : sm_at 138 29 = some (.iconst 0, 1, (0, 0, 0, 0)) := by decide +kernel
theorem sm_a138_30 : sm_at 138 30 = some (.ireturn, 1, (0, 0, 0, 0)) := by decide +kernel
theorem bb_138_0 {d : Nat} {M : sm_M} {Q : Option sm_V → sm_M → Prop} {a0 : Nat} {z1 : Option sm_V}
    (h : sm_Run d 138 2 [some (.inr (some a0)), some (.inl 0)] [] M Q) :
    sm_Run d 138 0 [some (.inr (some a0)), z1] [] M Q := by
  refine ru_go (t := (1, [some (.inr (some a0)), z1], [.inl 0], M)) sm_a138_0 rfl rfl (st_iconst (by decide)) ?_
  refine ru_go (t := (2, [some (.inr (some a0)), some (.inl 0)], [], M)) sm_a138_1 rfl rfl rfl ?_
  exact h
theorem bb_138_2 {d : Nat} {M : sm_M} {Q : Option sm_V → sm_M → Prop} {a0 : Nat} {x1 : Int32}
    (h : ((6 ≤ x1 → Q (some (.inl 0)) M) ∧ (¬ (6 ≤ x1) → sm_K M a0 = 36 ∧ ∃ b_3, sm_R M a0 3 = some b_3 ∧ (∃ ci, sm_K M b_3 = 4 + 3 * ci) ∧ sm_in_ M b_3 x1 ∧ ∃ b_7, sm_R M b_3 (x1).toNatClampNeg = some b_7 ∧ sm_K M b_7 = 15 ∧ ((¬ (sm_I M b_7 3) = 1 → sm_Run d 138 2 [some (.inr (some a0)), some (.inl (x1 + 1))] [] M Q) ∧ (¬ (¬ (sm_I M b_7 3) = 1) → Q (some (.inl 1)) M))))) :
    sm_Run d 138 2 [some (.inr (some a0)), some (.inl x1)] [] M Q := by
  refine ru_go (t := (3, [some (.inr (some a0)), some (.inl x1)], [.inl x1], M)) sm_a138_2 rfl rfl rfl ?_
  refine ru_go (t := (5, [some (.inr (some a0)), some (.inl x1)], [.inl 6, .inl x1], M)) sm_a138_3 rfl rfl (st_bipush (by decide)) ?_
  refine ru_icmp (pc := 5) (p := 29) (p2 := 8) sm_a138_5 (by decide) rfl ⟨fun hc_1 => ?_, fun hc_1 => ?_⟩
  · have h := h.1 hc_1
    refine ru_go (t := (30, [some (.inr (some a0)), some (.inl x1)], [.inl 0], M)) sm_a138_29 rfl rfl (st_iconst (by decide)) ?_
    exact ru_ret sm_a138_30 (sm_rvz rfl (by decide)) h
  · have h := h.2 hc_1
    refine ru_go (t := (9, [some (.inr (some a0)), some (.inl x1)], [.inr (some a0)], M)) sm_a138_8 rfl rfl rfl ?_
    obtain ⟨h_2, h⟩ := h
    refine ru_go (t := (12, [some (.inr (some a0)), some (.inl x1)], [.inr (sm_R M a0 3)], M)) sm_a138_9 rfl rfl (st_getR h_2 rfl rfl) ?_
    refine ru_go (t := (13, [some (.inr (some a0)), some (.inl x1)], [.inl x1, .inr (sm_R M a0 3)], M)) sm_a138_12 rfl rfl rfl ?_
    obtain ⟨b_3, hb_4, h⟩ := h
    rw [hb_4]
    obtain ⟨h_5, h⟩ := h
    obtain ⟨h_6, h⟩ := h
    refine ru_go (t := (14, [some (.inr (some a0)), some (.inl x1)], [.inr (sm_R M b_3 (x1).toNatClampNeg)], M)) sm_a138_13 rfl rfl (st_aald h_5.choose_spec h_6 rfl) ?_
    obtain ⟨b_7, hb_8, h⟩ := h
    rw [hb_8]
    obtain ⟨h_9, h⟩ := h
    refine ru_go (t := (17, [some (.inr (some a0)), some (.inl x1)], [.inl (sm_I M b_7 3)], M)) sm_a138_14 rfl rfl (st_getI h_9 rfl) ?_
    refine ru_go (t := (18, [some (.inr (some a0)), some (.inl x1)], [.inl 1, .inl (sm_I M b_7 3)], M)) sm_a138_17 rfl rfl (st_iconst (by decide)) ?_
    refine ru_icmp (pc := 18) (p := 23) (p2 := 21) sm_a138_18 (by decide) rfl ⟨fun hc_10 => ?_, fun hc_10 => ?_⟩
    · have h := h.1 hc_10
      refine ru_go (t := (26, [some (.inr (some a0)), some (.inl (x1 + 1))], [], M)) sm_a138_23 rfl rfl (st_iinc rfl (by decide)) ?_
      refine ru_go (t := (2, [some (.inr (some a0)), some (.inl (x1 + 1))], [], M)) sm_a138_26 rfl rfl (st_goto (pc := 26) (by decide)) ?_
      exact h
    · have h := h.2 hc_10
      refine ru_go (t := (22, [some (.inr (some a0)), some (.inl x1)], [.inl 1], M)) sm_a138_21 rfl rfl (st_iconst (by decide)) ?_
      exact ru_ret sm_a138_22 (sm_rvz rfl (by decide)) h

/-! WireBus$Wire.faultOf:(I)I -/
theorem sm_a139_0 : sm_at 139 0 = some (.iconst 0, 1, (0, 0, 0, 0)) := by decide +kernel
theorem sm_a139_1 : sm_at 139 1 = some (.istore_n 2, 1, (0, 0, 0, 0)) := by decide +kernel
theorem sm_a139_2 : sm_at 139 2 = some (.iload_n 2, 1, (0, 0, 0, 0)) := by decide +kernel
theorem sm_a139_3 : sm_at 139 3 = some (.aload_n 0, 1, (0, 0, 0, 0)) := by decide +kernel
theorem sm_a139_4 : sm_at 139 4 = some (.getfield 53, 3, (11, 7, 0, 314)) := by decide +kernel
theorem sm_a139_7 : sm_at 139 7 = some (.if_icmp .ge 21, 3, (0, 0, 0, 0)) := by decide +kernel
theorem sm_a139_10 : sm_at 139 10 = some (.aload_n 0, 1, (0, 0, 0, 0)) := by decide +kernel
theorem sm_a139_11 : sm_at 139 11 = some (.getfield 35, 3, (11, 4, 0, 311)) := by decide +kernel
theorem sm_a139_14 : sm_at 139 14 = some (.iload_n 2, 1, (0, 0, 0, 0)) := by decide +kernel
theorem sm_a139_15 : sm_at 139 15 = some (.iaload, 1, (0, 0, 0, 0)) := by decide +kernel
theorem sm_a139_16 : sm_at 139 16 = some (.iload_n 1, 1, (0, 0, 0, 0)) := by decide +kernel
theorem sm_a139_17 : sm_at 139 17 = some (.if_icmp .ne 5, 3, (0, 0, 0, 0)) := by decide +kernel
theorem sm_a139_20 : sm_at 139 20 = some (.iload_n 2, 1, (0, 0, 0, 0)) := by decide +kernel
theorem sm_a139_21 : sm_at 139 21 = some (.ireturn, 1, (0, 0, 0, 0)) := by decide +kernel
theorem sm_a139_22 : sm_at 139 22 = some (.iinc 2 1, 3, (0, 0, 0, 0)) := by decide +kernel
theorem sm_a139_25 : sm_at 139 25 = some (.goto (-23), 3, (0, 0, 0, 0)) := by decide +kernel
theorem sm_a139_28 : sm_at 139 28 = some (.iconst (-1), 1, (0, 0, 0, 0)) := by decide +kernel
theorem sm_a139_29 : sm_at 139 29 = some (.ireturn, 1, (0, 0, 0, 0)) := by decide +kernel
theorem bb_139_0 {d : Nat} {M : sm_M} {Q : Option sm_V → sm_M → Prop} {a0 : Nat} {x1 : Int32} {z2 : Option sm_V}
    (h : sm_Run d 139 2 [some (.inr (some a0)), some (.inl x1), some (.inl 0)] [] M Q) :
    sm_Run d 139 0 [some (.inr (some a0)), some (.inl x1), z2] [] M Q := by
  refine ru_go (t := (1, [some (.inr (some a0)), some (.inl x1), z2], [.inl 0], M)) sm_a139_0 rfl rfl (st_iconst (by decide)) ?_
  refine ru_go (t := (2, [some (.inr (some a0)), some (.inl x1), some (.inl 0)], [], M)) sm_a139_1 rfl rfl rfl ?_
  exact h
theorem bb_139_2 {d : Nat} {M : sm_M} {Q : Option sm_V → sm_M → Prop} {a0 : Nat} {x1 : Int32} {x2 : Int32}
    (h : sm_K M a0 = 36 ∧ (((sm_I M a0 7) ≤ x2 → Q (some (.inl (-1))) M) ∧ (¬ ((sm_I M a0 7) ≤ x2) → ∃ b_3, sm_R M a0 4 = some b_3 ∧ sm_iA M b_3 ∧ sm_in_ M b_3 x2 ∧ ((¬ (sm_I M b_3 (x2).toNatClampNeg) = x1 → sm_Run d 139 2 [some (.inr (some a0)), some (.inl x1), some (.inl (x2 + 1))] [] M Q) ∧ (¬ (¬ (sm_I M b_3 (x2).toNatClampNeg) = x1) → Q (some (.inl x2)) M))))) :
    sm_Run d 139 2 [some (.inr (some a0)), some (.inl x1), some (.inl x2)] [] M Q := by
  refine ru_go (t := (3, [some (.inr (some a0)), some (.inl x1), some (.inl x2)], [.inl x2], M)) sm_a139_2 rfl rfl rfl ?_
  refine ru_go (t := (4, [some (.inr (some a0)), some (.inl x1), some (.inl x2)], [.inr (some a0), .inl x2], M)) sm_a139_3 rfl rfl rfl ?_
  obtain ⟨h_1, h⟩ := h
  refine ru_go (t := (7, [some (.inr (some a0)), some (.inl x1), some (.inl x2)], [.inl (sm_I M a0 7), .inl x2], M)) sm_a139_4 rfl rfl (st_getI h_1 rfl) ?_
  refine ru_icmp (pc := 7) (p := 28) (p2 := 10) sm_a139_7 (by decide) rfl ⟨fun hc_2 => ?_, fun hc_2 => ?_⟩
  · have h := h.1 hc_2
    refine ru_go (t := (29, [some (.inr (some a0)), some (.inl x1), some (.inl x2)], [.inl (-1)], M)) sm_a139_28 rfl rfl (st_iconst (by decide)) ?_
    exact ru_ret sm_a139_29 rfl h
  · have h := h.2 hc_2
    refine ru_go (t := (11, [some (.inr (some a0)), some (.inl x1), some (.inl x2)], [.inr (some a0)], M)) sm_a139_10 rfl rfl rfl ?_
    refine ru_go (t := (14, [some (.inr (some a0)), some (.inl x1), some (.inl x2)], [.inr (sm_R M a0 4)], M)) sm_a139_11 rfl rfl (st_getR h_1 rfl rfl) ?_
    refine ru_go (t := (15, [some (.inr (some a0)), some (.inl x1), some (.inl x2)], [.inl x2, .inr (sm_R M a0 4)], M)) sm_a139_14 rfl rfl rfl ?_
    obtain ⟨b_3, hb_4, h⟩ := h
    rw [hb_4]
    obtain ⟨h_5, h⟩ := h
    obtain ⟨h_6, h⟩ := h
    refine ru_go (t := (16, [some (.inr (some a0)), some (.inl x1), some (.inl x2)], [.inl (sm_I M b_3 (x2).toNatClampNeg)], M)) sm_a139_15 rfl rfl (st_iald h_5 h_6) ?_
    refine ru_go (t := (17, [some (.inr (some a0)), some (.inl x1), some (.inl x2)], [.inl x1, .inl (sm_I M b_3 (x2).toNatClampNeg)], M)) sm_a139_16 rfl rfl rfl ?_
    refine ru_icmp (pc := 17) (p := 22) (p2 := 20) sm_a139_17 (by decide) rfl ⟨fun hc_7 => ?_, fun hc_7 => ?_⟩
    · have h := h.1 hc_7
      refine ru_go (t := (25, [some (.inr (some a0)), some (.inl x1), some (.inl (x2 + 1))], [], M)) sm_a139_22 rfl rfl (st_iinc rfl (by decide)) ?_
      refine ru_go (t := (2, [some (.inr (some a0)), some (.inl x1), some (.inl (x2 + 1))], [], M)) sm_a139_25 rfl rfl (st_goto (pc := 25) (by decide)) ?_
      exact h
    · have h := h.2 hc_7
      refine ru_go (t := (21, [some (.inr (some a0)), some (.inl x1), some (.inl x2)], [.inl x2], M)) sm_a139_20 rfl rfl rfl ?_
      exact ru_ret sm_a139_21 rfl h

/-! WireBus$Wire.planFault:(III)Z -/
theorem sm_a140_0 : sm_at 140 0 = some (.iload_n 1, 1, (0, 0, 0, 0)) := by decide +kernel
theorem sm_a140_1 : sm_at 140 1 = some (.aload_n 0, 1, (0, 0, 0, 0)) := by decide +kernel
theorem sm_a140_2 : sm_at 140 2 = some (.getfield 56, 3, (11, 8, 0, 316)) := by decide +kernel
theorem sm_a140_5 : sm_at 140 5 = some (.if_icmp .lt 21, 3, (0, 0, 0, 0)) := by decide +kernel
theorem sm_a140_8 : sm_at 140 8 = some (.aload_n 0, 1, (0, 0, 0, 0)) := by decide +kernel
theorem sm_a140_9 : sm_at 140 9 = some (.getfield 53, 3, (11, 7, 0, 314)) := by decide +kernel
theorem sm_a140_12 : sm_at 140 12 = some (.bipush 50, 2, (0, 0, 0, 0)) := by decide +kernel
theorem sm_a140_14 : sm_at 140 14 = some (.if_icmp .ge 12, 3, (0, 0, 0, 0)) := by decide +kernel
theorem sm_a140_17 : sm_at 140 17 = some (.aload_n 0, 1, (0, 0, 0, 0)) := by decide +kernel
theorem sm_a140_18 : sm_at 140 18 = some (.iload_n 1, 1, (0, 0, 0, 0)) := by decide +kernel
theorem sm_a140_19 : sm_at 140 19 = some (.invokevirtual 59, 3, (10, 139, 11, 768)) := by decide +kernel
theorem sm_a140_22 : sm_at 140 22 = some (.iconst (-1), 1, (0, 0, 0, 0)) := by decide +kernel
theorem sm_a140_23 : sm_at 140 23 = some (.if_icmp .eq 5, 3, (0, 0, 0, 0)) := by decide +kernel
theorem sm_a140_26 : sm_at 140 26 = some (.iconst 0, 1, (0, 0, 0, 0)) := by decide +kernel
theorem sm_a140_27 : sm_at 140 27 = some (.ireturn, 1, (0, 0, 0, 0)) := by decide +kernel
theorem sm_a140_28 : sm_at 140 28 = some (.aload_n 0, 1, (0, 0, 0, 0)) := by decide +kernel
theorem sm_a140_29 : sm_at 140 29 = some (.getfield 35, 3, (11, 4, 0, 311)) := by decide +kernel
theorem sm_a140_32 : sm_at 140 32 = some (.aload_n 0, 1, (0, 0, 0, 0)) := by decide +kernel
theorem sm_a140_33 : sm_at 140 33 = some (.getfield 53, 3, (11, 7, 0, 314)) := by decide +kernel
theorem sm_a140_36 : sm_at 140 36 = some (.iload_n 1, 1, (0, 0, 0, 0)) := by decide +kernel
theorem sm_a140_37 : sm_at 140 37 = some (.iastore, 1, (0, 0, 0, 0)) := by decide +kernel
theorem sm_a140_38 : sm_at 140 38 = some (.aload_n 0, 1, (0, 0, 0, 0)) := by decide +kernel
theorem sm_a140_39 : sm_at 140 39 = some (.getfield 39, 3, (11, 5, 0, 312)) := by decide +kernel
theorem sm_a140_42 : sm_at 140 42 = some (.aload_n 0, 1, (0, 0, 0, 0)) := by decide +kernel
theorem sm_a140_43 : sm_at 140 43 = some (.getfield 53, 3, (11, 7, 0, 314)) := by decide +kernel
theorem sm_a140_46 : sm_at 140 46 = some (.iload_n 2, 1, (0, 0, 0, 0)) := by decide +kernel
theorem sm_a140_47 : sm_at 140 47 = some (.iastore, 1, (0, 0, 0, 0)) := by decide +kernel
theorem sm_a140_48 : sm_at 140 48 = some (.aload_n 0, 1, (0, 0, 0, 0)) := by decide +kernel
theorem sm_a140_49 : sm_at 140 49 = some (.getfield 42, 3, (11, 6, 0, 313)) := by decide +kernel
theorem sm_a140_52 : sm_at 140 52 = some (.aload_n 0, 1, (0, 0, 0, 0)) := by decide +kernel
theorem sm_a140_53 : sm_at 140 53 = some (.getfield 53, 3, (11, 7, 0, 314)) := by decide +kernel
theorem sm_a140_56 : sm_at 140 56 = some (.iload_n 3, 1, (0, 0, 0, 0)) := by decide +kernel
theorem sm_a140_57 : sm_at 140 57 = some (.iastore, 1, (0, 0, 0, 0)) := by decide +kernel
theorem sm_a140_58 : sm_at 140 58 = some (.aload_n 0, 1, (0, 0, 0, 0)) := by decide +kernel
theorem sm_a140_59 : sm_at 140 59 = some (.dup, 1, (0, 0, 0, 0)) := by decide +kernel
theorem sm_a140_60 : sm_at 140 60 = some (.getfield 53, 3, (11, 7, 0, 314)) := by decide +kernel
theorem sm_a140_63 : sm_at 140 63 = some (.iconst 1, 1, (0, 0, 0, 0)) := by decide +kernel
theorem sm_a140_64 : sm_at 140 64 = some (.iadd, 1, (0, 0, 0, 0)) := by decide +kernel
theorem sm_a140_65 : sm_at 140 65 = some (.putfield 53, 3, (11, 7, 0, 314)) := by decide +kernel
theorem sm_a140_68 : sm_at 140 68 = some (.iconst 1, 1, (0, 0, 0, 0)) := by decide +kernel
theorem sm_a140_69 : sm_at 140 69 = some (.ireturn, 1, (0, 0, 0, 0)) := by decide +kernel
theorem bb_140_0 {d : Nat} {M : sm_M} {Q : Option sm_V → sm_M → Prop} {a0 : Nat} {x1 : Int32} {x2 : Int32} {x3 : Int32}
    (h : sm_K M a0 = 36 ∧ ((x1 < (sm_I M a0 8) → Q (some (.inl 0)) M) ∧ (¬ (x1 < (sm_I M a0 8)) → ((50 ≤ (sm_I M a0 7) → Q (some (.inl 0)) M) ∧ (¬ (50 ≤ (sm_I M a0 7)) → sm_Run d 139 0 (sm_ent 139 [.inr (some a0), .inl x1]) [] M (fun v M1 => sm_Run (d + 1) 140 22 [some (.inr (some a0)), some (.inl x1), some (.inl x2), some (.inl x3)] (v.toList ++ []) M1 Q)))))) :
    sm_Run (d + 1) 140 0 [some (.inr (some a0)), some (.inl x1), some (.inl x2), some (.inl x3)] [] M Q := by
  refine ru_go (t := (1, [some (.inr (some a0)), some (.inl x1), some (.inl x2), some (.inl x3)], [.inl x1], M)) sm_a140_0 rfl rfl rfl ?_
  refine ru_go (t := (2, [some (.inr (some a0)), some (.inl x1), some (.inl x2), some (.inl x3)], [.inr (some a0), .inl x1], M)) sm_a140_1 rfl rfl rfl ?_
  obtain ⟨h_1, h⟩ := h
  refine ru_go (t := (5, [some (.inr (some a0)), some (.inl x1), some (.inl x2), some (.inl x3)], [.inl (sm_I M a0 8), .inl x1], M)) sm_a140_2 rfl rfl (st_getI h_1 rfl) ?_
  refine ru_icmp (pc := 5) (p := 26) (p2 := 8) sm_a140_5 (by decide) rfl ⟨fun hc_2 => ?_, fun hc_2 => ?_⟩
  · have h := h.1 hc_2
    refine ru_go (t := (27, [some (.inr (some a0)), some (.inl x1), some (.inl x2), some (.inl x3)], [.inl 0], M)) sm_a140_26 rfl rfl (st_iconst (by decide)) ?_
    exact ru_ret sm_a140_27 (sm_rvz rfl (by decide)) h
  · have h := h.2 hc_2
    refine ru_go (t := (9, [some (.inr (some a0)), some (.inl x1), some (.inl x2), some (.inl x3)], [.inr (some a0)], M)) sm_a140_8 rfl rfl rfl ?_
    refine ru_go (t := (12, [some (.inr (some a0)), some (.inl x1), some (.inl x2), some (.inl x3)], [.inl (sm_I M a0 7)], M)) sm_a140_9 rfl rfl (st_getI h_1 rfl) ?_
    refine ru_go (t := (14, [some (.inr (some a0)), some (.inl x1), some (.inl x2), some (.inl x3)], [.inl 50, .inl (sm_I M a0 7)], M)) sm_a140_12 rfl rfl (st_bipush (by decide)) ?_
    refine ru_icmp (pc := 14) (p := 26) (p2 := 17) sm_a140_14 (by decide) rfl ⟨fun hc_3 => ?_, fun hc_3 => ?_⟩
    · have h := h.1 hc_3
      refine ru_go (t := (27, [some (.inr (some a0)), some (.inl x1), some (.inl x2), some (.inl x3)], [.inl 0], M)) sm_a140_26 rfl rfl (st_iconst (by decide)) ?_
      exact ru_ret sm_a140_27 (sm_rvz rfl (by decide)) h
    · have h := h.2 hc_3
      refine ru_go (t := (18, [some (.inr (some a0)), some (.inl x1), some (.inl x2), some (.inl x3)], [.inr (some a0)], M)) sm_a140_17 rfl rfl rfl ?_
      refine ru_go (t := (19, [some (.inr (some a0)), some (.inl x1), some (.inl x2), some (.inl x3)], [.inl x1, .inr (some a0)], M)) sm_a140_18 rfl rfl rfl ?_
      exact ru_call (p := 22) sm_a140_19 rfl (sc_virt (Or.inl rfl) rfl rfl h_1 (Nat.le_of_ble_eq_true rfl)) rfl h
theorem bb_140_22 {d : Nat} {M : sm_M} {Q : Option sm_V → sm_M → Prop} {a0 : Nat} {x1 : Int32} {x2 : Int32} {x3 : Int32} {y0 : Int32}
    (h : ((y0 = (-1) → sm_K M a0 = 36 ∧ ∃ b_3, sm_R M a0 4 = some b_3 ∧ sm_wA 0 M b_3 ∧ sm_in_ M b_3 (sm_I M a0 7) ∧ ∃ b_7, sm_R (sm_putI M b_3 (sm_I M a0 7).toNatClampNeg x1) a0 5 = some b_7 ∧ sm_wA 0 M b_7 ∧ sm_in_ M b_7 (sm_I (sm_putI M b_3 (sm_I M a0 7).toNatClampNeg x1) a0 7) ∧ ∃ b_11, sm_R (sm_putI (sm_putI M b_3 (sm_I M a0 7).toNatClampNeg x1) b_7 (sm_I (sm_putI M b_3 (sm_I M a0 7).toNatClampNeg x1) a0 7).toNatClampNeg x2) a0 6 = some b_11 ∧ sm_wA 0 M b_11 ∧ sm_in_ M b_11 (sm_I (sm_putI (sm_putI M b_3 (sm_I M a0 7).toNatClampNeg x1) b_7 (sm_I (sm_putI M b_3 (sm_I M a0 7).toNatClampNeg x1) a0 7).toNatClampNeg x2) a0 7) ∧ sm_Run (d + 1) 140 68 [some (.inr (some a0)), some (.inl x1), some (.inl x2), some (.inl x3)] [] (sm_putI (sm_putI (sm_putI (sm_putI M b_3 (sm_I M a0 7).toNatClampNeg x1) b_7 (sm_I (sm_putI M b_3 (sm_I M a0 7).toNatClampNeg x1) a0 7).toNatClampNeg x2) b_11 (sm_I (sm_putI (sm_putI M b_3 (sm_I M a0 7).toNatClampNeg x1) b_7 (sm_I (sm_putI M b_3 (sm_I M a0 7).toNatClampNeg x1) a0 7).toNatClampNeg x2) a0 7).toNatClampNeg x3) a0 7 ((sm_I (sm_putI (sm_putI (sm_putI M b_3 (sm_I M a0 7).toNatClampNeg x1) b_7 (sm_I (sm_putI M b_3 (sm_I M a0 7).toNatClampNeg x1) a0 7).toNatClampNeg x2) b_11 (sm_I (sm_putI (sm_putI M b_3 (sm_I M a0 7).toNatClampNeg x1) b_7 (sm_I (sm_putI M b_3 (sm_I M a0 7).toNatClampNeg x1) a0 7).toNatClampNeg x2) a0 7).toNatClampNeg x3) a0 7) + 1)) Q) ∧ (¬ (y0 = (-1)) → Q (some (.inl 0)) M))) :
    sm_Run (d + 1) 140 22 [some (.inr (some a0)), some (.inl x1), some (.inl x2), some (.inl x3)] [.inl y0] M Q := by
  refine ru_go (t := (23, [some (.inr (some a0)), some (.inl x1), some (.inl x2), some (.inl x3)], [.inl (-1), .inl y0], M)) sm_a140_22 rfl rfl (st_iconst (by decide)) ?_
  refine ru_icmp (pc := 23) (p := 28) (p2 := 26) sm_a140_23 (by decide) rfl ⟨fun hc_1 => ?_, fun hc_1 => ?_⟩
  · have h := h.1 hc_1
    refine ru_go (t := (29, [some (.inr (some a0)), some (.inl x1), some (.inl x2), some (.inl x3)], [.inr (some a0)], M)) sm_a140_28 rfl rfl rfl ?_
    obtain ⟨h_2, h⟩ := h
    refine ru_go (t := (32, [some (.inr (some a0)), some (.inl x1), some (.inl x2), some (.inl x3)], [.inr (sm_R M a0 4)], M)) sm_a140_29 rfl rfl (st_getR h_2 rfl rfl) ?_
    refine ru_go (t := (33, [some (.inr (some a0)), some (.inl x1), some (.inl x2), some (.inl x3)], [.inr (some a0), .inr (sm_R M a0 4)], M)) sm_a140_32 rfl rfl rfl ?_
    refine ru_go (t := (36, [some (.inr (some a0)), some (.inl x1), some (.inl x2), some (.inl x3)], [.inl (sm_I M a0 7), .inr (sm_R M a0 4)], M)) sm_a140_33 rfl rfl (st_getI h_2 rfl) ?_
    refine ru_go (t := (37, [some (.inr (some a0)), some (.inl x1), some (.inl x2), some (.inl x3)], [.inl x1, .inl (sm_I M a0 7), .inr (sm_R M a0 4)], M)) sm_a140_36 rfl rfl rfl ?_
    obtain ⟨b_3, hb_4, h⟩ := h
    rw [hb_4]
    obtain ⟨h_5, h⟩ := h
    obtain ⟨h_6, h⟩ := h
    refine ru_go (t := (38, [some (.inr (some a0)), some (.inl x1), some (.inl x2), some (.inl x3)], [], sm_putI M b_3 (sm_I M a0 7).toNatClampNeg x1)) sm_a140_37 rfl rfl (st_iast h_5 h_6) ?_
    refine ru_go (t := (39, [some (.inr (some a0)), some (.inl x1), some (.inl x2), some (.inl x3)], [.inr (some a0)], sm_putI M b_3 (sm_I M a0 7).toNatClampNeg x1)) sm_a140_38 rfl rfl rfl ?_
    refine ru_go (t := (42, [some (.inr (some a0)), some (.inl x1), some (.inl x2), some (.inl x3)], [.inr (sm_R (sm_putI M b_3 (sm_I M a0 7).toNatClampNeg x1) a0 5)], sm_putI M b_3 (sm_I M a0 7).toNatClampNeg x1)) sm_a140_39 rfl rfl (st_getR h_2 rfl rfl) ?_
    refine ru_go (t := (43, [some (.inr (some a0)), some (.inl x1), some (.inl x2), some (.inl x3)], [.inr (some a0), .inr (sm_R (sm_putI M b_3 (sm_I M a0 7).toNatClampNeg x1) a0 5)], sm_putI M b_3 (sm_I M a0 7).toNatClampNeg x1)) sm_a140_42 rfl rfl rfl ?_
    refine ru_go (t := (46, [some (.inr (some a0)), some (.inl x1), some (.inl x2), some (.inl x3)], [.inl (sm_I (sm_putI M b_3 (sm_I M a0 7).toNatClampNeg x1) a0 7), .inr (sm_R (sm_putI M b_3 (sm_I M a0 7).toNatClampNeg x1) a0 5)], sm_putI M b_3 (sm_I M a0 7).toNatClampNeg x1)) sm_a140_43 rfl rfl (st_getI h_2 rfl) ?_
    refine ru_go (t := (47, [some (.inr (some a0)), some (.inl x1), some (.inl x2), some (.inl x3)], [.inl x2, .inl (sm_I (sm_putI M b_3 (sm_I M a0 7).toNatClampNeg x1) a0 7), .inr (sm_R (sm_putI M b_3 (sm_I M a0 7).toNatClampNeg x1) a0 5)], sm_putI M b_3 (sm_I M a0 7).toNatClampNeg x1)) sm_a140_46 rfl rfl rfl ?_
    obtain ⟨b_7, hb_8, h⟩ := h
    rw [hb_8]
    obtain ⟨h_9, h⟩ := h
    obtain ⟨h_10, h⟩ := h
    refine ru_go (t := (48, [some (.inr (some a0)), some (.inl x1), some (.inl x2), some (.inl x3)], [], sm_putI (sm_putI M b_3 (sm_I M a0 7).toNatClampNeg x1) b_7 (sm_I (sm_putI M b_3 (sm_I M a0 7).toNatClampNeg x1) a0 7).toNatClampNeg x2)) sm_a140_47 rfl rfl (st_iast h_9 h_10) ?_
    refine ru_go (t := (49, [some (.inr (some a0)), some (.inl x1), some (.inl x2), some (.inl x3)], [.inr (some a0)], sm_putI (sm_putI M b_3 (sm_I M a0 7).toNatClampNeg x1) b_7 (sm_I (sm_putI M b_3 (sm_I M a0 7).toNatClampNeg x1) a0 7).toNatClampNeg x2)) sm_a140_48 rfl rfl rfl ?_
    refine ru_go (t := (52, [some (.inr (some a0)), some (.inl x1), some (.inl x2), some (.inl x3)], [.inr (sm_R (sm_putI (sm_putI M b_3 (sm_I M a0 7).toNatClampNeg x1) b_7 (sm_I (sm_putI M b_3 (sm_I M a0 7).toNatClampNeg x1) a0 7).toNatClampNeg x2) a0 6)], sm_putI (sm_putI M b_3 (sm_I M a0 7).toNatClampNeg x1) b_7 (sm_I (sm_putI M b_3 (sm_I M a0 7).toNatClampNeg x1) a0 7).toNatClampNeg x2)) sm_a140_49 rfl rfl (st_getR h_2 rfl rfl) ?_
    refine ru_go (t := (53, [some (.inr (some a0)), some (.inl x1), some (.inl x2), some (.inl x3)], [.inr (some a0), .inr (sm_R (sm_putI (sm_putI M b_3 (sm_I M a0 7).toNatClampNeg x1) b_7 (sm_I (sm_putI M b_3 (sm_I M a0 7).toNatClampNeg x1) a0 7).toNatClampNeg x2) a0 6)], sm_putI (sm_putI M b_3 (sm_I M a0 7).toNatClampNeg x1) b_7 (sm_I (sm_putI M b_3 (sm_I M a0 7).toNatClampNeg x1) a0 7).toNatClampNeg x2)) sm_a140_52 rfl rfl rfl ?_
    refine ru_go (t := (56, [some (.inr (some a0)), some (.inl x1), some (.inl x2), some (.inl x3)], [.inl (sm_I (sm_putI (sm_putI M b_3 (sm_I M a0 7).toNatClampNeg x1) b_7 (sm_I (sm_putI M b_3 (sm_I M a0 7).toNatClampNeg x1) a0 7).toNatClampNeg x2) a0 7), .inr (sm_R (sm_putI (sm_putI M b_3 (sm_I M a0 7).toNatClampNeg x1) b_7 (sm_I (sm_putI M b_3 (sm_I M a0 7).toNatClampNeg x1) a0 7).toNatClampNeg x2) a0 6)], sm_putI (sm_putI M b_3 (sm_I M a0 7).toNatClampNeg x1) b_7 (sm_I (sm_putI M b_3 (sm_I M a0 7).toNatClampNeg x1) a0 7).toNatClampNeg x2)) sm_a140_53 rfl rfl (st_getI h_2 rfl) ?_
    refine ru_go (t := (57, [some (.inr (some a0)), some (.inl x1), some (.inl x2), some (.inl x3)], [.inl x3, .inl (sm_I (sm_putI (sm_putI M b_3 (sm_I M a0 7).toNatClampNeg x1) b_7 (sm_I (sm_putI M b_3 (sm_I M a0 7).toNatClampNeg x1) a0 7).toNatClampNeg x2) a0 7), .inr (sm_R (sm_putI (sm_putI M b_3 (sm_I M a0 7).toNatClampNeg x1) b_7 (sm_I (sm_putI M b_3 (sm_I M a0 7).toNatClampNeg x1) a0 7).toNatClampNeg x2) a0 6)], sm_putI (sm_putI M b_3 (sm_I M a0 7).toNatClampNeg x1) b_7 (sm_I (sm_putI M b_3 (sm_I M a0 7).toNatClampNeg x1) a0 7).toNatClampNeg x2)) sm_a140_56 rfl rfl rfl ?_
    obtain ⟨b_11, hb_12, h⟩ := h
    rw [hb_12]
    obtain ⟨h_13, h⟩ := h
    obtain ⟨h_14, h⟩ := h
    refine ru_go (t := (58, [some (.inr (some a0)), some (.inl x1), some (.inl x2), some (.inl x3)], [], sm_putI (sm_putI (sm_putI M b_3 (sm_I M a0 7).toNatClampNeg x1) b_7 (sm_I (sm_putI M b_3 (sm_I M a0 7).toNatClampNeg x1) a0 7).toNatClampNeg x2) b_11 (sm_I (sm_putI (sm_putI M b_3 (sm_I M a0 7).toNatClampNeg x1) b_7 (sm_I (sm_putI M b_3 (sm_I M a0 7).toNatClampNeg x1) a0 7).toNatClampNeg x2) a0 7).toNatClampNeg x3)) sm_a140_57 rfl rfl (st_iast h_13 h_14) ?_
    refine ru_go (t := (59, [some (.inr (some a0)), some (.inl x1), some (.inl x2), some (.inl x3)], [.inr (some a0)], sm_putI (sm_putI (sm_putI M b_3 (sm_I M a0 7).toNatClampNeg x1) b_7 (sm_I (sm_putI M b_3 (sm_I M a0 7).toNatClampNeg x1) a0 7).toNatClampNeg x2) b_11 (sm_I (sm_putI (sm_putI M b_3 (sm_I M a0 7).toNatClampNeg x1) b_7 (sm_I (sm_putI M b_3 (sm_I M a0 7).toNatClampNeg x1) a0 7).toNatClampNeg x2) a0 7).toNatClampNeg x3)) sm_a140_58 rfl rfl rfl ?_
    refine ru_go (t := (60, [some (.inr (some a0)), some (.inl x1), some (.inl x2), some (.inl x3)], [.inr (some a0), .inr (some a0)], sm_putI (sm_putI (sm_putI M b_3 (sm_I M a0 7).toNatClampNeg x1) b_7 (sm_I (sm_putI M b_3 (sm_I M a0 7).toNatClampNeg x1) a0 7).toNatClampNeg x2) b_11 (sm_I (sm_putI (sm_putI M b_3 (sm_I M a0 7).toNatClampNeg x1) b_7 (sm_I (sm_putI M b_3 (sm_I M a0 7).toNatClampNeg x1) a0 7).toNatClampNeg x2) a0 7).toNatClampNeg x3)) sm_a140_59 rfl rfl rfl ?_
    refine ru_go (t := (63, [some (.inr (some a0)), some (.inl x1), some (.inl x2), some (.inl x3)], [.inl (sm_I (sm_putI (sm_putI (sm_putI M b_3 (sm_I M a0 7).toNatClampNeg x1) b_7 (sm_I (sm_putI M b_3 (sm_I M a0 7).toNatClampNeg x1) a0 7).toNatClampNeg x2) b_11 (sm_I (sm_putI (sm_putI M b_3 (sm_I M a0 7).toNatClampNeg x1) b_7 (sm_I (sm_putI M b_3 (sm_I M a0 7).toNatClampNeg x1) a0 7).toNatClampNeg x2) a0 7).toNatClampNeg x3) a0 7), .inr (some a0)], sm_putI (sm_putI (sm_putI M b_3 (sm_I M a0 7).toNatClampNeg x1) b_7 (sm_I (sm_putI M b_3 (sm_I M a0 7).toNatClampNeg x1) a0 7).toNatClampNeg x2) b_11 (sm_I (sm_putI (sm_putI M b_3 (sm_I M a0 7).toNatClampNeg x1) b_7 (sm_I (sm_putI M b_3 (sm_I M a0 7).toNatClampNeg x1) a0 7).toNatClampNeg x2) a0 7).toNatClampNeg x3)) sm_a140_60 rfl rfl (st_getI h_2 rfl) ?_
    refine ru_go (t := (64, [some (.inr (some a0)), some (.inl x1), some (.inl x2), some (.inl x3)], [.inl 1, .inl (sm_I (sm_putI (sm_putI (sm_putI M b_3 (sm_I M a0 7).toNatClampNeg x1) b_7 (sm_I (sm_putI M b_3 (sm_I M a0 7).toNatClampNeg x1) a0 7).toNatClampNeg x2) b_11 (sm_I (sm_putI (sm_putI M b_3 (sm_I M a0 7).toNatClampNeg x1) b_7 (sm_I (sm_putI M b_3 (sm_I M a0 7).toNatClampNeg x1) a0 7).toNatClampNeg x2) a0 7).toNatClampNeg x3) a0 7), .inr (some a0)], sm_putI (sm_putI (sm_putI M b_3 (sm_I M a0 7).toNatClampNeg x1) b_7 (sm_I (sm_putI M b_3 (sm_I M a0 7).toNatClampNeg x1) a0 7).toNatClampNeg x2) b_11 (sm_I (sm_putI (sm_putI M b_3 (sm_I M a0 7).toNatClampNeg x1) b_7 (sm_I (sm_putI M b_3 (sm_I M a0 7).toNatClampNeg x1) a0 7).toNatClampNeg x2) a0 7).toNatClampNeg x3)) sm_a140_63 rfl rfl (st_iconst (by decide)) ?_
    refine ru_go (t := (65, [some (.inr (some a0)), some (.inl x1), some (.inl x2), some (.inl x3)], [.inl ((sm_I (sm_putI (sm_putI (sm_putI M b_3 (sm_I M a0 7).toNatClampNeg x1) b_7 (sm_I (sm_putI M b_3 (sm_I M a0 7).toNatClampNeg x1) a0 7).toNatClampNeg x2) b_11 (sm_I (sm_putI (sm_putI M b_3 (sm_I M a0 7).toNatClampNeg x1) b_7 (sm_I (sm_putI M b_3 (sm_I M a0 7).toNatClampNeg x1) a0 7).toNatClampNeg x2) a0 7).toNatClampNeg x3) a0 7) + 1), .inr (some a0)], sm_putI (sm_putI (sm_putI M b_3 (sm_I M a0 7).toNatClampNeg x1) b_7 (sm_I (sm_putI M b_3 (sm_I M a0 7).toNatClampNeg x1) a0 7).toNatClampNeg x2) b_11 (sm_I (sm_putI (sm_putI M b_3 (sm_I M a0 7).toNatClampNeg x1) b_7 (sm_I (sm_putI M b_3 (sm_I M a0 7).toNatClampNeg x1) a0 7).toNatClampNeg x2) a0 7).toNatClampNeg x3)) sm_a140_64 rfl rfl rfl ?_
    refine ru_go (t := (68, [some (.inr (some a0)), some (.inl x1), some (.inl x2), some (.inl x3)], [], sm_putI (sm_putI (sm_putI (sm_putI M b_3 (sm_I M a0 7).toNatClampNeg x1) b_7 (sm_I (sm_putI M b_3 (sm_I M a0 7).toNatClampNeg x1) a0 7).toNatClampNeg x2) b_11 (sm_I (sm_putI (sm_putI M b_3 (sm_I M a0 7).toNatClampNeg x1) b_7 (sm_I (sm_putI M b_3 (sm_I M a0 7).toNatClampNeg x1) a0 7).toNatClampNeg x2) a0 7).toNatClampNeg x3) a0 7 ((sm_I (sm_putI (sm_putI (sm_putI M b_3 (sm_I M a0 7).toNatClampNeg x1) b_7 (sm_I (sm_putI M b_3 (sm_I M a0 7).toNatClampNeg x1) a0 7).toNatClampNeg x2) b_11 (sm_I (sm_putI (sm_putI M b_3 (sm_I M a0 7).toNatClampNeg x1) b_7 (sm_I (sm_putI M b_3 (sm_I M a0 7).toNatClampNeg x1) a0 7).toNatClampNeg x2) a0 7).toNatClampNeg x3) a0 7) + 1))) sm_a140_65 rfl rfl (st_putI h_2 rfl) ?_
    exact h
  · have h := h.2 hc_1
    refine ru_go (t := (27, [some (.inr (some a0)), some (.inl x1), some (.inl x2), some (.inl x3)], [.inl 0], M)) sm_a140_26 rfl rfl (st_iconst (by decide)) ?_
    exact ru_ret sm_a140_27 (sm_rvz rfl (by decide)) h
theorem bb_140_68 {d : Nat} {M : sm_M} {Q : Option sm_V → sm_M → Prop} {a0 : Nat} {x1 : Int32} {x2 : Int32} {x3 : Int32}
    (h : Q (some (.inl 1)) M) :
    sm_Run (d + 1) 140 68 [some (.inr (some a0)), some (.inl x1), some (.inl x2), some (.inl x3)] [] M Q := by
  refine ru_go (t := (69, [some (.inr (some a0)), some (.inl x1), some (.inl x2), some (.inl x3)], [.inl 1], M)) sm_a140_68 rfl rfl (st_iconst (by decide)) ?_
  exact ru_ret sm_a140_69 (sm_rvz rfl (by decide)) h

/-! WireBus$Wire.dropFault:(I)V -/
theorem sm_a141_0 : sm_at 141 0 = some (.aload_n 0, 1, (0, 0, 0, 0)) := by decide +kernel
theorem sm_a141_1 : sm_at 141 1 = some (.dup, 1, (0, 0, 0, 0)) := by decide +kernel
theorem sm_a141_2 : sm_at 141 2 = some (.getfield 53, 3, (11, 7, 0, 314)) := by decide +kernel
theorem sm_a141_5 : sm_at 141 5 = some (.iconst 1, 1, (0, 0, 0, 0)) := by decide +kernel
theorem sm_a141_6 : sm_at 141 6 = some (.isub, 1, (0, 0, 0, 0)) := by decide +kernel
theorem sm_a141_7 : sm_at 141 7 = some (.putfield 53, 3, (11, 7, 0, 314)) := by decide +kernel
theorem sm_a141_10 : sm_at 141 10 = some (.aload_n 0, 1, (0, 0, 0, 0)) := by decide +kernel
theorem sm_a141_11 : sm_at 141 11 = some (.getfield 35, 3, (11, 4, 0, 311)) := by decide +kernel
theorem sm_a141_14 : sm_at 141 14 = some (.iload_n 1, 1, (0, 0, 0, 0)) := by decide +kernel
theorem sm_a141_15 : sm_at 141 15 = some (.aload_n 0, 1, (0, 0, 0, 0)) := by decide +kernel
theorem sm_a141_16 : sm_at 141 16 = some (.getfield 35, 3, (11, 4, 0, 311)) := by decide +kernel
theorem sm_a141_19 : sm_at 141 19 = some (.aload_n 0, 1, (0, 0, 0, 0)) := by decide +kernel
theorem sm_a141_20 : sm_at 141 20 = some (.getfield 53, 3, (11, 7, 0, 314)) := by decide +kernel
theorem sm_a141_23 : sm_at 141 23 = some (.iaload, 1, (0, 0, 0, 0)) := by decide +kernel
theorem sm_a141_24 : sm_at 141 24 = some (.iastore, 1, (0, 0, 0, 0)) := by decide +kernel
theorem sm_a141_25 : sm_at 141 25 = some (.aload_n 0, 1, (0, 0, 0, 0)) := by decide +kernel
theorem sm_a141_26 : sm_at 141 26 = some (.getfield 39, 3, (11, 5, 0, 312)) := by decide +kernel
theorem sm_a141_29 : sm_at 141 29 = some (.iload_n 1, 1, (0, 0, 0, 0)) := by decide +kernel
theorem sm_a141_30 : sm_at 141 30 = some (.aload_n 0, 1, (0, 0, 0, 0)) := by decide +kernel
theorem sm_a141_31 : sm_at 141 31 = some (.getfield 39, 3, (11, 5, 0, 312)) := by decide +kernel
theorem sm_a141_34 : sm_at 141 34 = some (.aload_n 0, 1, (0, 0, 0, 0)) := by decide +kernel
theorem sm_a141_35 : sm_at 141 35 = some (.getfield 53, 3, (11, 7, 0, 314)) := by decide +kernel
theorem sm_a141_38 : sm_at 141 38 = some (.iaload, 1, (0, 0, 0, 0)) := by decide +kernel
theorem sm_a141_39 : sm_at 141 39 = some (.iastore, 1, (0, 0, 0, 0)) := by decide +kernel
theorem sm_a141_40 : sm_at 141 40 = some (.aload_n 0, 1, (0, 0, 0, 0)) := by decide +kernel
theorem sm_a141_41 : sm_at 141 41 = some (.getfield 42, 3, (11, 6, 0, 313)) := by decide +kernel
theorem sm_a141_44 : sm_at 141 44 = some (.iload_n 1, 1, (0, 0, 0, 0)) := by decide +kernel
theorem sm_a141_45 : sm_at 141 45 = some (.aload_n 0, 1, (0, 0, 0, 0)) := by decide +kernel
theorem sm_a141_46 : sm_at 141 46 = some (.getfield 42, 3, (11, 6, 0, 313)) := by decide +kernel
theorem sm_a141_49 : sm_at 141 49 = some (.aload_n 0, 1, (0, 0, 0, 0)) := by decide +kernel
theorem sm_a141_50 : sm_at 141 50 = some (.getfield 53, 3, (11, 7, 0, 314)) := by decide +kernel
theorem sm_a141_53 : sm_at 141 53 = some (.iaload, 1, (0, 0, 0, 0)) := by decide +kernel
theorem sm_a141_54 : sm_at 141 54 = some (.iastore, 1, (0, 0, 0, 0)) := by decide +kernel
theorem sm_a141_55 : sm_at 141 55 = some (.return_, 1, (0, 0, 0, 0)) := by decide +kernel
theorem bb_141_0 {d : Nat} {M : sm_M} {Q : Option sm_V → sm_M → Prop} {a0 : Nat} {x1 : Int32}
    (h : sm_K M a0 = 36 ∧ ∃ b_2, sm_R (sm_putI M a0 7 ((sm_I M a0 7) - 1)) a0 4 = some b_2 ∧ sm_iA M b_2 ∧ sm_in_ M b_2 (sm_I (sm_putI M a0 7 ((sm_I M a0 7) - 1)) a0 7) ∧ sm_wA 0 M b_2 ∧ sm_in_ M b_2 x1 ∧ ∃ b_8, sm_R (sm_putI (sm_putI M a0 7 ((sm_I M a0 7) - 1)) b_2 (x1).toNatClampNeg (sm_I (sm_putI M a0 7 ((sm_I M a0 7) - 1)) b_2 (sm_I (sm_putI M a0 7 ((sm_I M a0 7) - 1)) a0 7).toNatClampNeg)) a0 5 = some b_8 ∧ sm_iA M b_8 ∧ sm_in_ M b_8 (sm_I (sm_putI (sm_putI M a0 7 ((sm_I M a0 7) - 1)) b_2 (x1).toNatClampNeg (sm_I (sm_putI M a0 7 ((sm_I M a0 7) - 1)) b_2 (sm_I (sm_putI M a0 7 ((sm_I M a0 7) - 1)) a0 7).toNatClampNeg)) a0 7) ∧ sm_wA 0 M b_8 ∧ sm_in_ M b_8 x1 ∧ sm_Run d 141 40 [some (.inr (some a0)), some (.inl x1)] [] (sm_putI (sm_putI (sm_putI M a0 7 ((sm_I M a0 7) - 1)) b_2 (x1).toNatClampNeg (sm_I (sm_putI M a0 7 ((sm_I M a0 7) - 1)) b_2 (sm_I (sm_putI M a0 7 ((sm_I M a0 7) - 1)) a0 7).toNatClampNeg)) b_8 (x1).toNatClampNeg (sm_I (sm_putI (sm_putI M a0 7 ((sm_I M a0 7) - 1)) b_2 (x1).toNatClampNeg (sm_I (sm_putI M a0 7 ((sm_I M a0 7) - 1)) b_2 (sm_I (sm_putI M a0 7 ((sm_I M a0 7) - 1)) a0 7).toNatClampNeg)) b_8 (sm_I (sm_putI (sm_putI M a0 7 ((sm_I M a0 7) - 1)) b_2 (x1).toNatClampNeg (sm_I (sm_putI M a0 7 ((sm_I M a0 7) - 1)) b_2 (sm_I (sm_putI M a0 7 ((sm_I M a0 7) - 1)) a0 7).toNatClampNeg)) a0 7).toNatClampNeg)) Q) :
    sm_Run d 141 0 [some (.inr (some a0)), some (.inl x1)] [] M Q := by
  refine ru_go (t := (1, [some (.inr (some a0)), some (.inl x1)], [.inr (some a0)], M)) sm_a141_0 rfl rfl rfl ?_
  refine ru_go (t := (2, [some (.inr (some a0)), some (.inl x1)], [.inr (some a0), .inr (some a0)], M)) sm_a141_1 rfl rfl rfl ?_
  obtain ⟨h_1, h⟩ := h
  refine ru_go (t := (5, [some (.inr (some a0)), some (.inl x1)], [.inl (sm_I M a0 7), .inr (some a0)], M)) sm_a141_2 rfl rfl (st_getI h_1 rfl) ?_
  refine ru_go (t := (6, [some (.inr (some a0)), some (.inl x1)], [.inl 1, .inl (sm_I M a0 7), .inr (some a0)], M)) sm_a141_5 rfl rfl (st_iconst (by decide)) ?_
  refine ru_go (t := (7, [some (.inr (some a0)), some (.inl x1)], [.inl ((sm_I M a0 7) - 1), .inr (some a0)], M)) sm_a141_6 rfl rfl rfl ?_
  refine ru_go (t := (10, [some (.inr (some a0)), some (.inl x1)], [], sm_putI M a0 7 ((sm_I M a0 7) - 1))) sm_a141_7 rfl rfl (st_putI h_1 rfl) ?_
  refine ru_go (t := (11, [some (.inr (some a0)), some (.inl x1)], [.inr (some a0)], sm_putI M a0 7 ((sm_I M a0 7) - 1))) sm_a141_10 rfl rfl rfl ?_
  refine ru_go (t := (14, [some (.inr (some a0)), some (.inl x1)], [.inr (sm_R (sm_putI M a0 7 ((sm_I M a0 7) - 1)) a0 4)], sm_putI M a0 7 ((sm_I M a0 7) - 1))) sm_a141_11 rfl rfl (st_getR h_1 rfl rfl) ?_
  refine ru_go (t := (15, [some (.inr (some a0)), some (.inl x1)], [.inl x1, .inr (sm_R (sm_putI M a0 7 ((sm_I M a0 7) - 1)) a0 4)], sm_putI M a0 7 ((sm_I M a0 7) - 1))) sm_a141_14 rfl rfl rfl ?_
  refine ru_go (t := (16, [some (.inr (some a0)), some (.inl x1)], [.inr (some a0), .inl x1, .inr (sm_R (sm_putI M a0 7 ((sm_I M a0 7) - 1)) a0 4)], sm_putI M a0 7 ((sm_I M a0 7) - 1))) sm_a141_15 rfl rfl rfl ?_
  refine ru_go (t := (19, [some (.inr (some a0)), some (.inl x1)], [.inr (sm_R (sm_putI M a0 7 ((sm_I M a0 7) - 1)) a0 4), .inl x1, .inr (sm_R (sm_putI M a0 7 ((sm_I M a0 7) - 1)) a0 4)], sm_putI M a0 7 ((sm_I M a0 7) - 1))) sm_a141_16 rfl rfl (st_getR h_1 rfl rfl) ?_
  refine ru_go (t := (20, [some (.inr (some a0)), some (.inl x1)], [.inr (some a0), .inr (sm_R (sm_putI M a0 7 ((sm_I M a0 7) - 1)) a0 4), .inl x1, .inr (sm_R (sm_putI M a0 7 ((sm_I M a0 7) - 1)) a0 4)], sm_putI M a0 7 ((sm_I M a0 7) - 1))) sm_a141_19 rfl rfl rfl ?_
  refine ru_go (t := (23, [some (.inr (some a0)), some (.inl x1)], [.inl (sm_I (sm_putI M a0 7 ((sm_I M a0 7) - 1)) a0 7), .inr (sm_R (sm_putI M a0 7 ((sm_I M a0 7) - 1)) a0 4), .inl x1, .inr (sm_R (sm_putI M a0 7 ((sm_I M a0 7) - 1)) a0 4)], sm_putI M a0 7 ((sm_I M a0 7) - 1))) sm_a141_20 rfl rfl (st_getI h_1 rfl) ?_
  obtain ⟨b_2, hb_3, h⟩ := h
  rw [hb_3]
  obtain ⟨h_4, h⟩ := h
  obtain ⟨h_5, h⟩ := h
  refine ru_go (t := (24, [some (.inr (some a0)), some (.inl x1)], [.inl (sm_I (sm_putI M a0 7 ((sm_I M a0 7) - 1)) b_2 (sm_I (sm_putI M a0 7 ((sm_I M a0 7) - 1)) a0 7).toNatClampNeg), .inl x1, .inr (some b_2)], sm_putI M a0 7 ((sm_I M a0 7) - 1))) sm_a141_23 rfl rfl (st_iald h_4 h_5) ?_
  obtain ⟨h_6, h⟩ := h
  obtain ⟨h_7, h⟩ := h
  refine ru_go (t := (25, [some (.inr (some a0)), some (.inl x1)], [], sm_putI (sm_putI M a0 7 ((sm_I M a0 7) - 1)) b_2 (x1).toNatClampNeg (sm_I (sm_putI M a0 7 ((sm_I M a0 7) - 1)) b_2 (sm_I (sm_putI M a0 7 ((sm_I M a0 7) - 1)) a0 7).toNatClampNeg))) sm_a141_24 rfl rfl (st_iast h_6 h_7) ?_
  refine ru_go (t := (26, [some (.inr (some a0)), some (.inl x1)], [.inr (some a0)], sm_putI (sm_putI M a0 7 ((sm_I M a0 7) - 1)) b_2 (x1).toNatClampNeg (sm_I (sm_putI M a0 7 ((sm_I M a0 7) - 1)) b_2 (sm_I (sm_putI M a0 7 ((sm_I M a0 7) - 1)) a0 7).toNatClampNeg))) sm_a141_25 rfl rfl rfl ?_
  refine ru_go (t := (29, [some (.inr (some a0)), some (.inl x1)], [.inr (sm_R (sm_putI (sm_putI M a0 7 ((sm_I M a0 7) - 1)) b_2 (x1).toNatClampNeg (sm_I (sm_putI M a0 7 ((sm_I M a0 7) - 1)) b_2 (sm_I (sm_putI M a0 7 ((sm_I M a0 7) - 1)) a0 7).toNatClampNeg)) a0 5)], sm_putI (sm_putI M a0 7 ((sm_I M a0 7) - 1)) b_2 (x1).toNatClampNeg (sm_I (sm_putI M a0 7 ((sm_I M a0 7) - 1)) b_2 (sm_I (sm_putI M a0 7 ((sm_I M a0 7) - 1)) a0 7).toNatClampNeg))) sm_a141_26 rfl rfl (st_getR h_1 rfl rfl) ?_
  refine ru_go (t := (30, [some (.inr (some a0)), some (.inl x1)], [.inl x1, .inr (sm_R (sm_putI (sm_putI M a0 7 ((sm_I M a0 7) - 1)) b_2 (x1).toNatClampNeg (sm_I (sm_putI M a0 7 ((sm_I M a0 7) - 1)) b_2 (sm_I (sm_putI M a0 7 ((sm_I M a0 7) - 1)) a0 7).toNatClampNeg)) a0 5)], sm_putI (sm_putI M a0 7 ((sm_I M a0 7) - 1)) b_2 (x1).toNatClampNeg (sm_I (sm_putI M a0 7 ((sm_I M a0 7) - 1)) b_2 (sm_I (sm_putI M a0 7 ((sm_I M a0 7) - 1)) a0 7).toNatClampNeg))) sm_a141_29 rfl rfl rfl ?_
  refine ru_go (t := (31, [some (.inr (some a0)), some (.inl x1)], [.inr (some a0), .inl x1, .inr (sm_R (sm_putI (sm_putI M a0 7 ((sm_I M a0 7) - 1)) b_2 (x1).toNatClampNeg (sm_I (sm_putI M a0 7 ((sm_I M a0 7) - 1)) b_2 (sm_I (sm_putI M a0 7 ((sm_I M a0 7) - 1)) a0 7).toNatClampNeg)) a0 5)], sm_putI (sm_putI M a0 7 ((sm_I M a0 7) - 1)) b_2 (x1).toNatClampNeg (sm_I (sm_putI M a0 7 ((sm_I M a0 7) - 1)) b_2 (sm_I (sm_putI M a0 7 ((sm_I M a0 7) - 1)) a0 7).toNatClampNeg))) sm_a141_30 rfl rfl rfl ?_
  refine ru_go (t := (34, [some (.inr (some a0)), some (.inl x1)], [.inr (sm_R (sm_putI (sm_putI M a0 7 ((sm_I M a0 7) - 1)) b_2 (x1).toNatClampNeg (sm_I (sm_putI M a0 7 ((sm_I M a0 7) - 1)) b_2 (sm_I (sm_putI M a0 7 ((sm_I M a0 7) - 1)) a0 7).toNatClampNeg)) a0 5), .inl x1, .inr (sm_R (sm_putI (sm_putI M a0 7 ((sm_I M a0 7) - 1)) b_2 (x1).toNatClampNeg (sm_I (sm_putI M a0 7 ((sm_I M a0 7) - 1)) b_2 (sm_I (sm_putI M a0 7 ((sm_I M a0 7) - 1)) a0 7).toNatClampNeg)) a0 5)], sm_putI (sm_putI M a0 7 ((sm_I M a0 7) - 1)) b_2 (x1).toNatClampNeg (sm_I (sm_putI M a0 7 ((sm_I M a0 7) - 1)) b_2 (sm_I (sm_putI M a0 7 ((sm_I M a0 7) - 1)) a0 7).toNatClampNeg))) sm_a141_31 rfl rfl (st_getR h_1 rfl rfl) ?_
  refine ru_go (t := (35, [some (.inr (some a0)), some (.inl x1)], [.inr (some a0), .inr (sm_R (sm_putI (sm_putI M a0 7 ((sm_I M a0 7) - 1)) b_2 (x1).toNatClampNeg (sm_I (sm_putI M a0 7 ((sm_I M a0 7) - 1)) b_2 (sm_I (sm_putI M a0 7 ((sm_I M a0 7) - 1)) a0 7).toNatClampNeg)) a0 5), .inl x1, .inr (sm_R (sm_putI (sm_putI M a0 7 ((sm_I M a0 7) - 1)) b_2 (x1).toNatClampNeg (sm_I (sm_putI M a0 7 ((sm_I M a0 7) - 1)) b_2 (sm_I (sm_putI M a0 7 ((sm_I M a0 7) - 1)) a0 7).toNatClampNeg)) a0 5)], sm_putI (sm_putI M a0 7 ((sm_I M a0 7) - 1)) b_2 (x1).toNatClampNeg (sm_I (sm_putI M a0 7 ((sm_I M a0 7) - 1)) b_2 (sm_I (sm_putI M a0 7 ((sm_I M a0 7) - 1)) a0 7).toNatClampNeg))) sm_a141_34 rfl rfl rfl ?_
  refine ru_go (t := (38, [some (.inr (some a0)), some (.inl x1)], [.inl (sm_I (sm_putI (sm_putI M a0 7 ((sm_I M a0 7) - 1)) b_2 (x1).toNatClampNeg (sm_I (sm_putI M a0 7 ((sm_I M a0 7) - 1)) b_2 (sm_I (sm_putI M a0 7 ((sm_I M a0 7) - 1)) a0 7).toNatClampNeg)) a0 7), .inr (sm_R (sm_putI (sm_putI M a0 7 ((sm_I M a0 7) - 1)) b_2 (x1).toNatClampNeg (sm_I (sm_putI M a0 7 ((sm_I M a0 7) - 1)) b_2 (sm_I (sm_putI M a0 7 ((sm_I M a0 7) - 1)) a0 7).toNatClampNeg)) a0 5), .inl x1, .inr (sm_R (sm_putI (sm_putI M a0 7 ((sm_I M a0 7) - 1)) b_2 (x1).toNatClampNeg (sm_I (sm_putI M a0 7 ((sm_I M a0 7) - 1)) b_2 (sm_I (sm_putI M a0 7 ((sm_I M a0 7) - 1)) a0 7).toNatClampNeg)) a0 5)], sm_putI (sm_putI M a0 7 ((sm_I M a0 7) - 1)) b_2 (x1).toNatClampNeg (sm_I (sm_putI M a0 7 ((sm_I M a0 7) - 1)) b_2 (sm_I (sm_putI M a0 7 ((sm_I M a0 7) - 1)) a0 7).toNatClampNeg))) sm_a141_35 rfl rfl (st_getI h_1 rfl) ?_
  obtain ⟨b_8, hb_9, h⟩ := h
  rw [hb_9]
  obtain ⟨h_10, h⟩ := h
  obtain ⟨h_11, h⟩ := h
  refine ru_go (t := (39, [some (.inr (some a0)), some (.inl x1)], [.inl (sm_I (sm_putI (sm_putI M a0 7 ((sm_I M a0 7) - 1)) b_2 (x1).toNatClampNeg (sm_I (sm_putI M a0 7 ((sm_I M a0 7) - 1)) b_2 (sm_I (sm_putI M a0 7 ((sm_I M a0 7) - 1)) a0 7).toNatClampNeg)) b_8 (sm_I (sm_putI (sm_putI M a0 7 ((sm_I M a0 7) - 1)) b_2 (x1).toNatClampNeg (sm_I (sm_putI M a0 7 ((sm_I M a0 7) - 1)) b_2 (sm_I (sm_putI M a0 7 ((sm_I M a0 7) - 1)) a0 7).toNatClampNeg)) a0 7).toNatClampNeg), .inl x1, .inr (some b_8)], sm_putI (sm_putI M a0 7 ((sm_I M a0 7) - 1)) b_2 (x1).toNatClampNeg (sm_I (sm_putI M a0 7 ((sm_I M a0 7) - 1)) b_2 (sm_I (sm_putI M a0 7 ((sm_I M a0 7) - 1)) a0 7).toNatClampNeg))) sm_a141_38 rfl rfl (st_iald h_10 h_11) ?_
  obtain ⟨h_12, h⟩ := h
  obtain ⟨h_13, h⟩ := h
  refine ru_go (t := (40, [some (.inr (some a0)), some (.inl x1)], [], sm_putI (sm_putI (sm_putI M a0 7 ((sm_I M a0 7) - 1)) b_2 (x1).toNatClampNeg (sm_I (sm_putI M a0 7 ((sm_I M a0 7) - 1)) b_2 (sm_I (sm_putI M a0 7 ((sm_I M a0 7) - 1)) a0 7).toNatClampNeg)) b_8 (x1).toNatClampNeg (sm_I (sm_putI (sm_putI M a0 7 ((sm_I M a0 7) - 1)) b_2 (x1).toNatClampNeg (sm_I (sm_putI M a0 7 ((sm_I M a0 7) - 1)) b_2 (sm_I (sm_putI M a0 7 ((sm_I M a0 7) - 1)) a0 7).toNatClampNeg)) b_8 (sm_I (sm_putI (sm_putI M a0 7 ((sm_I M a0 7) - 1)) b_2 (x1).toNatClampNeg (sm_I (sm_putI M a0 7 ((sm_I M a0 7) - 1)) b_2 (sm_I (sm_putI M a0 7 ((sm_I M a0 7) - 1)) a0 7).toNatClampNeg)) a0 7).toNatClampNeg))) sm_a141_39 rfl rfl (st_iast h_12 h_13) ?_
  exact h
theorem bb_141_40 {d : Nat} {M : sm_M} {Q : Option sm_V → sm_M → Prop} {a0 : Nat} {x1 : Int32}
    (h : sm_K M a0 = 36 ∧ ∃ b_2, sm_R M a0 6 = some b_2 ∧ sm_iA M b_2 ∧ sm_in_ M b_2 (sm_I M a0 7) ∧ sm_wA 0 M b_2 ∧ sm_in_ M b_2 x1 ∧ Q none (sm_putI M b_2 (x1).toNatClampNeg (sm_I M b_2 (sm_I M a0 7).toNatClampNeg))) :
    sm_Run d 141 40 [some (.inr (some a0)), some (.inl x1)] [] M Q := by
  refine ru_go (t := (41, [some (.inr (some a0)), some (.inl x1)], [.inr (some a0)], M)) sm_a141_40 rfl rfl rfl ?_
  obtain ⟨h_1, h⟩ := h
  refine ru_go (t := (44, [some (.inr (some a0)), some (.inl x1)], [.inr (sm_R M a0 6)], M)) sm_a141_41 rfl rfl (st_getR h_1 rfl rfl) ?_
  refine ru_go (t := (45, [some (.inr (some a0)), some (.inl x1)], [.inl x1, .inr (sm_R M a0 6)], M)) sm_a141_44 rfl rfl rfl ?_
  refine ru_go (t := (46, [some (.inr (some a0)), some (.inl x1)], [.inr (some a0), .inl x1, .inr (sm_R M a0 6)], M)) sm_a141_45 rfl rfl rfl ?_
  refine ru_go (t := (49, [some (.inr (some a0)), some (.inl x1)], [.inr (sm_R M a0 6), .inl x1, .inr (sm_R M a0 6)], M)) sm_a141_46 rfl rfl (st_getR h_1 rfl rfl) ?_
  refine ru_go (t := (50, [some (.inr (some a0)), some (.inl x1)], [.inr (some a0), .inr (sm_R M a0 6), .inl x1, .inr (sm_R M a0 6)], M)) sm_a141_49 rfl rfl rfl ?_
  refine ru_go (t := (53, [some (.inr (some a0)), some (.inl x1)], [.inl (sm_I M a0 7), .inr (sm_R M a0 6), .inl x1, .inr (sm_R M a0 6)], M)) sm_a141_50 rfl rfl (st_getI h_1 rfl) ?_
  obtain ⟨b_2, hb_3, h⟩ := h
  rw [hb_3]
  obtain ⟨h_4, h⟩ := h
  obtain ⟨h_5, h⟩ := h
  refine ru_go (t := (54, [some (.inr (some a0)), some (.inl x1)], [.inl (sm_I M b_2 (sm_I M a0 7).toNatClampNeg), .inl x1, .inr (some b_2)], M)) sm_a141_53 rfl rfl (st_iald h_4 h_5) ?_
  obtain ⟨h_6, h⟩ := h
  obtain ⟨h_7, h⟩ := h
  refine ru_go (t := (55, [some (.inr (some a0)), some (.inl x1)], [], sm_putI M b_2 (x1).toNatClampNeg (sm_I M b_2 (sm_I M a0 7).toNatClampNeg))) sm_a141_54 rfl rfl (st_iast h_6 h_7) ?_
  exact ru_ret sm_a141_55 (sm_rvv rfl) h

/-! WireBus$Wire.blank:(II)LWireBus$Packet; -/
theorem sm_a142_0 : sm_at 142 0 = some (.aload_n 0, 1, (0, 0, 0, 0)) := by decide +kernel
theorem sm_a142_1 : sm_at 142 1 = some (.getfield 13, 3, (11, 0, 0, 306)) := by decide +kernel
theorem sm_a142_4 : sm_at 142 4 = some (.aload_n 0, 1, (0, 0, 0, 0)) := by decide +kernel
theorem sm_a142_5 : sm_at 142 5 = some (.getfield 56, 3, (11, 8, 0, 316)) := by decide +kernel
theorem sm_a142_8 : sm_at 142 8 = some (.bipush 60, 2, (0, 0, 0, 0)) := by decide +kernel
theorem sm_a142_10 : sm_at 142 10 = some (.irem, 1, (0, 0, 0, 0)) := by decide +kernel
theorem sm_a142_11 : sm_at 142 11 = some (.aaload, 1, (0, 0, 0, 0)) := by decide +kernel
theorem sm_a142_12 : sm_at 142 12 = some (.astore_n 3, 1, (0, 0, 0, 0)) := by decide +kernel
theorem sm_a142_13 : sm_at 142 13 = some (.aload_n 3, 1, (0, 0, 0, 0)) := by decide +kernel
theorem sm_a142_14 : sm_at 142 14 = some (.iload_n 1, 1, (0, 0, 0, 0)) := by decide +kernel
theorem sm_a142_15 : sm_at 142 15 = some (.iload_n 2, 1, (0, 0, 0, 0)) := by decide +kernel
theorem sm_a142_16 : sm_at 142 16 = some (.invokevirtual 63, 3, (10, 105, 7, 756)) := by decide +kernel
theorem sm_a142_19 : sm_at 142 19 = some (.aload_n 3, 1, (0, 0, 0, 0)) := by decide +kernel
theorem sm_a142_20 : sm_at 142 20 = some (.areturn, 1, (0, 0, 0, 0)) := by decide +kernel
theorem bb_142_0 {d : Nat} {M : sm_M} {Q : Option sm_V → sm_M → Prop} {a0 : Nat} {x1 : Int32} {x2 : Int32} {z3 : Option sm_V}
    (h : sm_K M a0 = 36 ∧ ∃ b_2, sm_R M a0 0 = some b_2 ∧ (∃ ci, sm_K M b_2 = 4 + 3 * ci) ∧ sm_in_ M b_2 ((sm_I M a0 8) - (sm_I M a0 8) / 60 * 60) ∧ ∃ b_6, sm_R M b_2 ((sm_I M a0 8) - (sm_I M a0 8) / 60 * 60).toNatClampNeg = some b_6 ∧ sm_K M b_6 = 24 ∧ sm_Run d 105 0 (sm_ent 105 [.inr (some b_6), .inl x1, .inl x2]) [] M (fun v M1 => sm_Run (d + 1) 142 19 [some (.inr (some a0)), some (.inl x1), some (.inl x2), some (.inr (some b_6))] (v.toList ++ []) M1 Q)) :
    sm_Run (d + 1) 142 0 [some (.inr (some a0)), some (.inl x1), some (.inl x2), z3] [] M Q := by
  refine ru_go (t := (1, [some (.inr (some a0)), some (.inl x1), some (.inl x2), z3], [.inr (some a0)], M)) sm_a142_0 rfl rfl rfl ?_
  obtain ⟨h_1, h⟩ := h
  refine ru_go (t := (4, [some (.inr (some a0)), some (.inl x1), some (.inl x2), z3], [.inr (sm_R M a0 0)], M)) sm_a142_1 rfl rfl (st_getR h_1 rfl rfl) ?_
  refine ru_go (t := (5, [some (.inr (some a0)), some (.inl x1), some (.inl x2), z3], [.inr (some a0), .inr (sm_R M a0 0)], M)) sm_a142_4 rfl rfl rfl ?_
  refine ru_go (t := (8, [some (.inr (some a0)), some (.inl x1), some (.inl x2), z3], [.inl (sm_I M a0 8), .inr (sm_R M a0 0)], M)) sm_a142_5 rfl rfl (st_getI h_1 rfl) ?_
  refine ru_go (t := (10, [some (.inr (some a0)), some (.inl x1), some (.inl x2), z3], [.inl 60, .inl (sm_I M a0 8), .inr (sm_R M a0 0)], M)) sm_a142_8 rfl rfl (st_bipush (by decide)) ?_
  refine ru_go (t := (11, [some (.inr (some a0)), some (.inl x1), some (.inl x2), z3], [.inl ((sm_I M a0 8) - (sm_I M a0 8) / 60 * 60), .inr (sm_R M a0 0)], M)) sm_a142_10 rfl rfl (st_rem (by decide)) ?_
  obtain ⟨b_2, hb_3, h⟩ := h
  rw [hb_3]
  obtain ⟨h_4, h⟩ := h
  obtain ⟨h_5, h⟩ := h
  refine ru_go (t := (12, [some (.inr (some a0)), some (.inl x1), some (.inl x2), z3], [.inr (sm_R M b_2 ((sm_I M a0 8) - (sm_I M a0 8) / 60 * 60).toNatClampNeg)], M)) sm_a142_11 rfl rfl (st_aald h_4.choose_spec h_5 rfl) ?_
  refine ru_go (t := (13, [some (.inr (some a0)), some (.inl x1), some (.inl x2), some (.inr (sm_R M b_2 ((sm_I M a0 8) - (sm_I M a0 8) / 60 * 60).toNatClampNeg))], [], M)) sm_a142_12 rfl rfl rfl ?_
  refine ru_go (t := (14, [some (.inr (some a0)), some (.inl x1), some (.inl x2), some (.inr (sm_R M b_2 ((sm_I M a0 8) - (sm_I M a0 8) / 60 * 60).toNatClampNeg))], [.inr (sm_R M b_2 ((sm_I M a0 8) - (sm_I M a0 8) / 60 * 60).toNatClampNeg)], M)) sm_a142_13 rfl rfl rfl ?_
  refine ru_go (t := (15, [some (.inr (some a0)), some (.inl x1), some (.inl x2), some (.inr (sm_R M b_2 ((sm_I M a0 8) - (sm_I M a0 8) / 60 * 60).toNatClampNeg))], [.inl x1, .inr (sm_R M b_2 ((sm_I M a0 8) - (sm_I M a0 8) / 60 * 60).toNatClampNeg)], M)) sm_a142_14 rfl rfl rfl ?_
  refine ru_go (t := (16, [some (.inr (some a0)), some (.inl x1), some (.inl x2), some (.inr (sm_R M b_2 ((sm_I M a0 8) - (sm_I M a0 8) / 60 * 60).toNatClampNeg))], [.inl x2, .inl x1, .inr (sm_R M b_2 ((sm_I M a0 8) - (sm_I M a0 8) / 60 * 60).toNatClampNeg)], M)) sm_a142_15 rfl rfl rfl ?_
  obtain ⟨b_6, hb_7, h⟩ := h
  rw [hb_7]
  obtain ⟨h_8, h⟩ := h
  exact ru_call (p := 19) sm_a142_16 rfl (sc_virt (Or.inl rfl) rfl rfl h_8 (Nat.le_of_ble_eq_true rfl)) rfl h
theorem bb_142_19 {d : Nat} {M : sm_M} {Q : Option sm_V → sm_M → Prop} {a0 : Nat} {x1 : Int32} {x2 : Int32} {r3 : Option Nat}
    (h : Q (some (.inr r3)) M) :
    sm_Run (d + 1) 142 19 [some (.inr (some a0)), some (.inl x1), some (.inl x2), some (.inr r3)] [] M Q := by
  refine ru_go (t := (20, [some (.inr (some a0)), some (.inl x1), some (.inl x2), some (.inr r3)], [.inr r3], M)) sm_a142_19 rfl rfl rfl ?_
  exact ru_ret sm_a142_20 rfl h

/-! WireBus$Wire.carry:()LWireBus$Packet; -/
theorem sm_a143_0 : sm_at 143 0 = some (.aload_n 0, 1, (0, 0, 0, 0)) := by decide +kernel
theorem sm_a143_1 : sm_at 143 1 = some (.getfield 13, 3, (11, 0, 0, 306)) := by decide +kernel
theorem sm_a143_4 : sm_at 143 4 = some (.aload_n 0, 1, (0, 0, 0, 0)) := by decide +kernel
theorem sm_a143_5 : sm_at 143 5 = some (.getfield 56, 3, (11, 8, 0, 316)) := by decide +kernel
theorem sm_a143_8 : sm_at 143 8 = some (.bipush 60, 2, (0, 0, 0, 0)) := by decide +kernel
theorem sm_a143_10 : sm_at 143 10 = some (.irem, 1, (0, 0, 0, 0)) := by decide +kernel
theorem sm_a143_11 : sm_at 143 11 = some (.aaload, 1, (0, 0, 0, 0)) := by decide +kernel
theorem sm_a143_12 : sm_at 143 12 = some (.astore_n 1, 1, (0, 0, 0, 0)) := by decide +kernel
theorem sm_a143_13 : sm_at 143 13 = some (.aload_n 0, 1, (0, 0, 0, 0)) := by decide +kernel
theorem sm_a143_14 : sm_at 143 14 = some (.getfield 53, 3, (11, 7, 0, 314)) := by decide +kernel
theorem sm_a143_17 : sm_at 143 17 = some (.ifCond .ne 7, 3, (0, 0, 0, 0)) := by decide +kernel
theorem sm_a143_20 : sm_at 143 20 = some (.aload_n 1, 1, (0, 0, 0, 0)) := by decide +kernel
theorem sm_a143_21 : sm_at 143 21 = some (.goto 8, 3, (0, 0, 0, 0)) := by decide +kernel
theorem sm_a143_24 : sm_at 143 24 = some (.aload_n 0, 1, (0, 0, 0, 0)) := by decide +kernel
theorem sm_a143_25 : sm_at 143 25 = some (.aload_n 1, 1, (0, 0, 0, 0)) := by decide +kernel
theorem sm_a143_26 : sm_at 143 26 = some (.invokevirtual 67, 3, (10, 144, 11, 764)) := by decide +kernel
theorem sm_a143_29 : sm_at 143 29 = some (.astore_n 2, 1, (0, 0, 0, 0)) := by decide +kernel
theorem sm_a143_30 : sm_at 143 30 = some (.aload_n 0, 1, (0, 0, 0, 0)) := by decide +kernel
theorem sm_a143_31 : sm_at 143 31 = some (.dup, 1, (0, 0, 0, 0)) := by decide +kernel
theorem sm_a143_32 : sm_at 143 32 = some (.getfield 56, 3, (11, 8, 0, 316)) := by decide +kernel
theorem sm_a143_35 : sm_at 143 35 = some (.iconst 1, 1, (0, 0, 0, 0)) := by decide +kernel
theorem sm_a143_36 : sm_at 143 36 = some (.iadd, 1, (0, 0, 0, 0)) := by decide +kernel
theorem sm_a143_37 : sm_at 143 37 = some (.putfield 56, 3, (11, 8, 0, 316)) := by decide +kernel
theorem sm_a143_40 : sm_at 143 40 = some (.iconst 0, 1, (0, 0, 0, 0)) := by decide +kernel
theorem sm_a143_41 : sm_at 143 41 = some (.istore_n 3, 1, (0, 0, 0, 0)) := by decide +kernel
theorem sm_a143_42 : sm_at 143 42 = some (.iload_n 3, 1, (0, 0, 0, 0)) := by decide +kernel
theorem sm_a143_43 : sm_at 143 43 = some (.bipush 6, 2, (0, 0, 0, 0)) := by decide +kernel
theorem sm_a143_45 : sm_at 143 45 = some (.if_icmp .ge 39, 3, (0, 0, 0, 0)) := by decide +kernel
theorem sm_a143_48 : sm_at 143 48 = some (.iload_n 3, 1, (0, 0, 0, 0)) := by decide +kernel
theorem sm_a143_49 : sm_at 143 49 = some (.aload_n 1, 1, (0, 0, 0, 0)) := by decide +kernel
theorem sm_a143_50 : sm_at 143 50 = some (.getfield 71, 3, (7, 0, 1, 141)) := by decide +kernel
theorem sm_a143_53 : sm_at 143 53 = some (.if_icmp .eq 25, 3, (0, 0, 0, 0)) := by decide +kernel
theorem sm_a143_56 : sm_at 143 56 = some (.aload_n 0, 1, (0, 0, 0, 0)) := by decide +kernel
theorem sm_a143_57 : sm_at 143 57 = some (.getfield 31, 3, (11, 3, 0, 309)) := by decide +kernel
theorem sm_a143_60 : sm_at 143 60 = some (.iload_n 3, 1, (0, 0, 0, 0)) := by decide +kernel
theorem sm_a143_61 : sm_at 143 61 = some (.aaload, 1, (0, 0, 0, 0)) := by decide +kernel
theorem sm_a143_62 : sm_at 143 62 = some (.getfield 50, 3, (4, 3, 1, 260)) := by decide +kernel
theorem sm_a143_65 : sm_at 143 65 = some (.ifCond .eq 13, 3, (0, 0, 0, 0)) := by decide +kernel
theorem sm_a143_68 : sm_at 143 68 = some (.aload_n 0, 1, (0, 0, 0, 0)) := by decide +kernel
theorem sm_a143_69 : sm_at 143 69 = some (.getfield 31, 3, (11, 3, 0, 309)) := by decide +kernel
theorem sm_a143_72 : sm_at 143 72 = some (.iload_n 3, 1, (0, 0, 0, 0)) := by decide +kernel
theorem sm_a143_73 : sm_at 143 73 = some (.aaload, 1, (0, 0, 0, 0)) := by decide +kernel
theorem sm_a143_74 : sm_at 143 74 = some (.aload_n 2, 1, (0, 0, 0, 0)) := by decide +kernel
theorem sm_a143_75 : sm_at 143 75 = some (.invokevirtual 74, 3, (10, 67, 4, 850)) := by decide +kernel
theorem sm_a143_78 : sm_at 143 78 = some (.iinc 3 1, 3, (0, 0, 0, 0)) := by decide +kernel
theorem sm_a143_81 : sm_at 143 81 = some (.goto (-39), 3, (0, 0, 0, 0)) := by decide +kernel
theorem sm_a143_84 : sm_at 143 84 = some (.aload_n 2, 1, (0, 0, 0, 0)) := by decide +kernel
theorem sm_a143_85 : sm_at 143 85 = some (.areturn, 1, (0, 0, 0, 0)) := by decide +kernel
theorem bb_143_0 {d : Nat} {M : sm_M} {Q : Option sm_V → sm_M → Prop} {a0 : Nat} {z1 : Option sm_V} {z2 : Option sm_V} {z3 : Option sm_V}
    (h : sm_K M a0 = 36 ∧ ∃ b_2, sm_R M a0 0 = some b_2 ∧ (∃ ci, sm_K M b_2 = 4 + 3 * ci) ∧ sm_in_ M b_2 ((sm_I M a0 8) - (sm_I M a0 8) / 60 * 60) ∧ ((¬ (sm_I M a0 7) = 0 → sm_Run d 144 0 (sm_ent 144 [.inr (some a0), .inr (sm_R M b_2 ((sm_I M a0 8) - (sm_I M a0 8) / 60 * 60).toNatClampNeg)]) [] M (fun v M1 => sm_Run (d + 1) 143 29 [some (.inr (some a0)), some (.inr (sm_R M b_2 ((sm_I M a0 8) - (sm_I M a0 8) / 60 * 60).toNatClampNeg)), z2, z3] (v.toList ++ []) M1 Q)) ∧ (¬ (¬ (sm_I M a0 7) = 0) → sm_Run (d + 1) 143 42 [some (.inr (some a0)), some (.inr (sm_R M b_2 ((sm_I M a0 8) - (sm_I M a0 8) / 60 * 60).toNatClampNeg)), some (.inr (sm_R M b_2 ((sm_I M a0 8) - (sm_I M a0 8) / 60 * 60).toNatClampNeg)), some (.inl 0)] [] (sm_putI M a0 8 ((sm_I M a0 8) + 1)) Q))) :
    sm_Run (d + 1) 143 0 [some (.inr (some a0)), z1, z2, z3] [] M Q := by
  refine ru_go (t := (1, [some (.inr (some a0)), z1, z2, z3], [.inr (some a0)], M)) sm_a143_0 rfl rfl rfl ?_
  obtain ⟨h_1, h⟩ := h
  refine ru_go (t := (4, [some (.inr (some a0)), z1, z2, z3], [.inr (sm_R M a0 0)], M)) sm_a143_1 rfl rfl (st_getR h_1 rfl rfl) ?_
  refine ru_go (t := (5, [some (.inr (some a0)), z1, z2, z3], [.inr (some a0), .inr (sm_R M a0 0)], M)) sm_a143_4 rfl rfl rfl ?_
  refine ru_go (t := (8, [some (.inr (some a0)), z1, z2, z3], [.inl (sm_I M a0 8), .inr (sm_R M a0 0)], M)) sm_a143_5 rfl rfl (st_getI h_1 rfl) ?_
  refine ru_go (t := (10, [some (.inr (some a0)), z1, z2, z3], [.inl 60, .inl (sm_I M a0 8), .inr (sm_R M a0 0)], M)) sm_a143_8 rfl rfl (st_bipush (by decide)) ?_
  refine ru_go (t := (11, [some (.inr (some a0)), z1, z2, z3], [.inl ((sm_I M a0 8) - (sm_I M a0 8) / 60 * 60), .inr (sm_R M a0 0)], M)) sm_a143_10 rfl rfl (st_rem (by decide)) ?_
  obtain ⟨b_2, hb_3, h⟩ := h
  rw [hb_3]
  obtain ⟨h_4, h⟩ := h
  obtain ⟨h_5, h⟩ := h
  refine ru_go (t := (12, [some (.inr (some a0)), z1, z2, z3], [.inr (sm_R M b_2 ((sm_I M a0 8) - (sm_I M a0 8) / 60 * 60).toNatClampNeg)], M)) sm_a143_11 rfl rfl (st_aald h_4.choose_spec h_5 rfl) ?_
  refine ru_go (t := (13, [some (.inr (some a0)), some (.inr (sm_R M b_2 ((sm_I M a0 8) - (sm_I M a0 8) / 60 * 60).toNatClampNeg)), z2, z3], [], M)) sm_a143_12 rfl rfl rfl ?_
  refine ru_go (t := (14, [some (.inr (some a0)), some (.inr (sm_R M b_2 ((sm_I M a0 8) - (sm_I M a0 8) / 60 * 60).toNatClampNeg)), z2, z3], [.inr (some a0)], M)) sm_a143_13 rfl rfl rfl ?_
  refine ru_go (t := (17, [some (.inr (some a0)), some (.inr (sm_R M b_2 ((sm_I M a0 8) - (sm_I M a0 8) / 60 * 60).toNatClampNeg)), z2, z3], [.inl (sm_I M a0 7)], M)) sm_a143_14 rfl rfl (st_getI h_1 rfl) ?_
  refine ru_if (pc := 17) (p := 24) (p2 := 20) sm_a143_17 (by decide) rfl ⟨fun hc_6 => ?_, fun hc_6 => ?_⟩
  · have h := h.1 hc_6
    refine ru_go (t := (25, [some (.inr (some a0)), some (.inr (sm_R M b_2 ((sm_I M a0 8) - (sm_I M a0 8) / 60 * 60).toNatClampNeg)), z2, z3], [.inr (some a0)], M)) sm_a143_24 rfl rfl rfl ?_
    refine ru_go (t := (26, [some (.inr (some a0)), some (.inr (sm_R M b_2 ((sm_I M a0 8) - (sm_I M a0 8) / 60 * 60).toNatClampNeg)), z2, z3], [.inr (sm_R M b_2 ((sm_I M a0 8) - (sm_I M a0 8) / 60 * 60).toNatClampNeg), .inr (some a0)], M)) sm_a143_25 rfl rfl rfl ?_
    exact ru_call (p := 29) sm_a143_26 rfl (sc_virt (Or.inl rfl) rfl rfl h_1 (Nat.le_of_ble_eq_true rfl)) rfl h
  · have h := h.2 hc_6
    refine ru_go (t := (21, [some (.inr (some a0)), some (.inr (sm_R M b_2 ((sm_I M a0 8) - (sm_I M a0 8) / 60 * 60).toNatClampNeg)), z2, z3], [.inr (sm_R M b_2 ((sm_I M a0 8) - (sm_I M a0 8) / 60 * 60).toNatClampNeg)], M)) sm_a143_20 rfl rfl rfl ?_
    refine ru_go (t := (29, [some (.inr (some a0)), some (.inr (sm_R M b_2 ((sm_I M a0 8) - (sm_I M a0 8) / 60 * 60).toNatClampNeg)), z2, z3], [.inr (sm_R M b_2 ((sm_I M a0 8) - (sm_I M a0 8) / 60 * 60).toNatClampNeg)], M)) sm_a143_21 rfl rfl (st_goto (pc := 21) (by decide)) ?_
    refine ru_go (t := (30, [some (.inr (some a0)), some (.inr (sm_R M b_2 ((sm_I M a0 8) - (sm_I M a0 8) / 60 * 60).toNatClampNeg)), some (.inr (sm_R M b_2 ((sm_I M a0 8) - (sm_I M a0 8) / 60 * 60).toNatClampNeg)), z3], [], M)) sm_a143_29 rfl rfl rfl ?_
    refine ru_go (t := (31, [some (.inr (some a0)), some (.inr (sm_R M b_2 ((sm_I M a0 8) - (sm_I M a0 8) / 60 * 60).toNatClampNeg)), some (.inr (sm_R M b_2 ((sm_I M a0 8) - (sm_I M a0 8) / 60 * 60).toNatClampNeg)), z3], [.inr (some a0)], M)) sm_a143_30 rfl rfl rfl ?_
    refine ru_go (t := (32, [some (.inr (some a0)), some (.inr (sm_R M b_2 ((sm_I M a0 8) - (sm_I M a0 8) / 60 * 60).toNatClampNeg)), some (.inr (sm_R M b_2 ((sm_I M a0 8) - (sm_I M a0 8) / 60 * 60).toNatClampNeg)), z3], [.inr (some a0), .inr (some a0)], M)) sm_a143_31 rfl rfl rfl ?_
    refine ru_go (t := (35, [some (.inr (some a0)), some (.inr (sm_R M b_2 ((sm_I M a0 8) - (sm_I M a0 8) / 60 * 60).toNatClampNeg)), some (.inr (sm_R M b_2 ((sm_I M a0 8) - (sm_I M a0 8) / 60 * 60).toNatClampNeg)), z3], [.inl (sm_I M a0 8), .inr (some a0)], M)) sm_a143_32 rfl rfl (st_getI h_1 rfl) ?_
    refine ru_go (t := (36, [some (.inr (some a0)), some (.inr (sm_R M b_2 ((sm_I M a0 8) - (sm_I M a0 8) / 60 * 60).toNatClampNeg)), some (.inr (sm_R M b_2 ((sm_I M a0 8) - (sm_I M a0 8) / 60 * 60).toNatClampNeg)), z3], [.inl 1, .inl (sm_I M a0 8), .inr (some a0)], M)) sm_a143_35 rfl rfl (st_iconst (by decide)) ?_
    refine ru_go (t := (37, [some (.inr (some a0)), some (.inr (sm_R M b_2 ((sm_I M a0 8) - (sm_I M a0 8) / 60 * 60).toNatClampNeg)), some (.inr (sm_R M b_2 ((sm_I M a0 8) - (sm_I M a0 8) / 60 * 60).toNatClampNeg)), z3], [.inl ((sm_I M a0 8) + 1), .inr (some a0)], M)) sm_a143_36 rfl rfl rfl ?_
    refine ru_go (t := (40, [some (.inr (some a0)), some (.inr (sm_R M b_2 ((sm_I M a0 8) - (sm_I M a0 8) / 60 * 60).toNatClampNeg)), some (.inr (sm_R M b_2 ((sm_I M a0 8) - (sm_I M a0 8) / 60 * 60).toNatClampNeg)), z3], [], sm_putI M a0 8 ((sm_I M a0 8) + 1))) sm_a143_37 rfl rfl (st_putI h_1 rfl) ?_
    refine ru_go (t := (41, [some (.inr (some a0)), some (.inr (sm_R M b_2 ((sm_I M a0 8) - (sm_I M a0 8) / 60 * 60).toNatClampNeg)), some (.inr (sm_R M b_2 ((sm_I M a0 8) - (sm_I M a0 8) / 60 * 60).toNatClampNeg)), z3], [.inl 0], sm_putI M a0 8 ((sm_I M a0 8) + 1))) sm_a143_40 rfl rfl (st_iconst (by decide)) ?_
    refine ru_go (t := (42, [some (.inr (some a0)), some (.inr (sm_R M b_2 ((sm_I M a0 8) - (sm_I M a0 8) / 60 * 60).toNatClampNeg)), some (.inr (sm_R M b_2 ((sm_I M a0 8) - (sm_I M a0 8) / 60 * 60).toNatClampNeg)), some (.inl 0)], [], sm_putI M a0 8 ((sm_I M a0 8) + 1))) sm_a143_41 rfl rfl rfl ?_
    exact h
theorem bb_143_29 {d : Nat} {M : sm_M} {Q : Option sm_V → sm_M → Prop} {a0 : Nat} {r1 : Option Nat} {z2 : Option sm_V} {z3 : Option sm_V} {t0 : Option Nat}
    (h : sm_K M a0 = 36 ∧ sm_Run (d + 1) 143 42 [some (.inr (some a0)), some (.inr r1), some (.inr t0), some (.inl 0)] [] (sm_putI M a0 8 ((sm_I M a0 8) + 1)) Q) :
    sm_Run (d + 1) 143 29 [some (.inr (some a0)), some (.inr r1), z2, z3] [.inr t0] M Q := by
  refine ru_go (t := (30, [some (.inr (some a0)), some (.inr r1), some (.inr t0), z3], [], M)) sm_a143_29 rfl rfl rfl ?_
  refine ru_go (t := (31, [some (.inr (some a0)), some (.inr r1), some (.inr t0), z3], [.inr (some a0)], M)) sm_a143_30 rfl rfl rfl ?_
  refine ru_go (t := (32, [some (.inr (some a0)), some (.inr r1), some (.inr t0), z3], [.inr (some a0), .inr (some a0)], M)) sm_a143_31 rfl rfl rfl ?_
  obtain ⟨h_1, h⟩ := h
  refine ru_go (t := (35, [some (.inr (some a0)), some (.inr r1), some (.inr t0), z3], [.inl (sm_I M a0 8), .inr (some a0)], M)) sm_a143_32 rfl rfl (st_getI h_1 rfl) ?_
  refine ru_go (t := (36, [some (.inr (some a0)), some (.inr r1), some (.inr t0), z3], [.inl 1, .inl (sm_I M a0 8), .inr (some a0)], M)) sm_a143_35 rfl rfl (st_iconst (by decide)) ?_
  refine ru_go (t := (37, [some (.inr (some a0)), some (.inr r1), some (.inr t0), z3], [.inl ((sm_I M a0 8) + 1), .inr (some a0)], M)) sm_a143_36 rfl rfl rfl ?_
  refine ru_go (t := (40, [some (.inr (some a0)), some (.inr r1), some (.inr t0), z3], [], sm_putI M a0 8 ((sm_I M a0 8) + 1))) sm_a143_37 rfl rfl (st_putI h_1 rfl) ?_
  refine ru_go (t := (41, [some (.inr (some a0)), some (.inr r1), some (.inr t0), z3], [.inl 0], sm_putI M a0 8 ((sm_I M a0 8) + 1))) sm_a143_40 rfl rfl (st_iconst (by decide)) ?_
  refine ru_go (t := (42, [some (.inr (some a0)), some (.inr r1), some (.inr t0), some (.inl 0)], [], sm_putI M a0 8 ((sm_I M a0 8) + 1))) sm_a143_41 rfl rfl rfl ?_
  exact h
theorem bb_143_42 {d : Nat} {M : sm_M} {Q : Option sm_V → sm_M → Prop} {a0 : Nat} {r1 : Option Nat} {r2 : Option Nat} {x3 : Int32}
    (h : ((6 ≤ x3 → Q (some (.inr r2)) M) ∧ (¬ (6 ≤ x3) → ∃ b_2, r1 = some b_2 ∧ sm_K M b_2 = 24 ∧ ((x3 = (sm_I M b_2 0) → sm_Run (d + 1) 143 42 [some (.inr (some a0)), some (.inr (some b_2)), some (.inr r2), some (.inl (x3 + 1))] [] M Q) ∧ (¬ (x3 = (sm_I M b_2 0)) → sm_K M a0 = 36 ∧ ∃ b_7, sm_R M a0 3 = some b_7 ∧ (∃ ci, sm_K M b_7 = 4 + 3 * ci) ∧ sm_in_ M b_7 x3 ∧ ∃ b_11, sm_R M b_7 (x3).toNatClampNeg = some b_11 ∧ sm_K M b_11 = 15 ∧ (((sm_I M b_11 3) = 0 → sm_Run (d + 1) 143 42 [some (.inr (some a0)), some (.inr (some b_2)), some (.inr r2), some (.inl (x3 + 1))] [] M Q) ∧ (¬ ((sm_I M b_11 3) = 0) → ∃ b_15, sm_R M a0 3 = some b_15 ∧ (∃ ci, sm_K M b_15 = 4 + 3 * ci) ∧ sm_in_ M b_15 x3 ∧ ∃ b_19, sm_R M b_15 (x3).toNatClampNeg = some b_19 ∧ sm_K M b_19 = 15 ∧ sm_Run d 67 0 (sm_ent 67 [.inr (some b_19), .inr r2]) [] M (fun v M1 => sm_Run (d + 1) 143 78 [some (.inr (some a0)), some (.inr (some b_2)), some (.inr r2), some (.inl x3)] (v.toList ++ []) M1 Q)))))))) :
    sm_Run (d + 1) 143 42 [some (.inr (some a0)), some (.inr r1), some (.inr r2), some (.inl x3)] [] M Q := by
  refine ru_go (t := (43, [some (.inr (some a0)), some (.inr r1), some (.inr r2), some (.inl x3)], [.inl x3], M)) sm_a143_42 rfl rfl rfl ?_
  refine ru_go (t := (45, [some (.inr (some a0)), some (.inr r1), some (.inr r2), some (.inl x3)], [.inl 6, .inl x3], M)) sm_a143_43 rfl rfl (st_bipush (by decide)) ?_
  refine ru_icmp (pc := 45) (p := 84) (p2 := 48) sm_a143_45 (by decide) rfl ⟨fun hc_1 => ?_, fun hc_1 => ?_⟩
  · have h := h.1 hc_1
    refine ru_go (t := (85, [some (.inr (some a0)), some (.inr r1), some (.inr r2), some (.inl x3)], [.inr r2], M)) sm_a143_84 rfl rfl rfl ?_
    exact ru_ret sm_a143_85 rfl h
  · have h := h.2 hc_1
    refine ru_go (t := (49, [some (.inr (some a0)), some (.inr r1), some (.inr r2), some (.inl x3)], [.inl x3], M)) sm_a143_48 rfl rfl rfl ?_
    refine ru_go (t := (50, [some (.inr (some a0)), some (.inr r1), some (.inr r2), some (.inl x3)], [.inr r1, .inl x3], M)) sm_a143_49 rfl rfl rfl ?_
    obtain ⟨b_2, hb_3, h⟩ := h
    rw [hb_3]
    obtain ⟨h_4, h⟩ := h
    refine ru_go (t := (53, [some (.inr (some a0)), some (.inr (some b_2)), some (.inr r2), some (.inl x3)], [.inl (sm_I M b_2 0), .inl x3], M)) sm_a143_50 rfl rfl (st_getI h_4 rfl) ?_
    refine ru_icmp (pc := 53) (p := 78) (p2 := 56) sm_a143_53 (by decide) rfl ⟨fun hc_5 => ?_, fun hc_5 => ?_⟩
    · have h := h.1 hc_5
      refine ru_go (t := (81, [some (.inr (some a0)), some (.inr (some b_2)), some (.inr r2), some (.inl (x3 + 1))], [], M)) sm_a143_78 rfl rfl (st_iinc rfl (by decide)) ?_
      refine ru_go (t := (42, [some (.inr (some a0)), some (.inr (some b_2)), some (.inr r2), some (.inl (x3 + 1))], [], M)) sm_a143_81 rfl rfl (st_goto (pc := 81) (by decide)) ?_
      exact h
    · have h := h.2 hc_5
      refine ru_go (t := (57, [some (.inr (some a0)), some (.inr (some b_2)), some (.inr r2), some (.inl x3)], [.inr (some a0)], M)) sm_a143_56 rfl rfl rfl ?_
      obtain ⟨h_6, h⟩ := h
      refine ru_go (t := (60, [some (.inr (some a0)), some (.inr (some b_2)), some (.inr r2), some (.inl x3)], [.inr (sm_R M a0 3)], M)) sm_a143_57 rfl rfl (st_getR h_6 rfl rfl) ?_
      refine ru_go (t := (61, [some (.inr (some a0)), some (.inr (some b_2)), some (.inr r2), some (.inl x3)], [.inl x3, .inr (sm_R M a0 3)], M)) sm_a143_60 rfl rfl rfl ?_
      obtain ⟨b_7, hb_8, h⟩ := h
      rw [hb_8]
      obtain ⟨h_9, h⟩ := h
      obtain ⟨h_10, h⟩ := h
      refine ru_go (t := (62, [some (.inr (some a0)), some (.inr (some b_2)), some (.inr r2), some (.inl x3)], [.inr (sm_R M b_7 (x3).toNatClampNeg)], M)) sm_a143_61 rfl rfl (st_aald h_9.choose_spec h_10 rfl) ?_
      obtain ⟨b_11, hb_12, h⟩ := h
      rw [hb_12]
      obtain ⟨h_13, h⟩ := h
      refine ru_go (t := (65, [some (.inr (some a0)), some (.inr (some b_2)), some (.inr r2), some (.inl x3)], [.inl (sm_I M b_11 3)], M)) sm_a143_62 rfl rfl (st_getI h_13 rfl) ?_
      refine ru_if (pc := 65) (p := 78) (p2 := 68) sm_a143_65 (by decide) rfl ⟨fun hc_14 => ?_, fun hc_14 => ?_⟩
      · have h := h.1 hc_14
        refine ru_go (t := (81, [some (.inr (some a0)), some (.inr (some b_2)), some (.inr r2), some (.inl (x3 + 1))], [], M)) sm_a143_78 rfl rfl (st_iinc rfl (by decide)) ?_
        refine ru_go (t := (42, [some (.inr (some a0)), some (.inr (some b_2)), some (.inr r2), some (.inl (x3 + 1))], [], M)) sm_a143_81 rfl rfl (st_goto (pc := 81) (by decide)) ?_
        exact h
      · have h := h.2 hc_14
        refine ru_go (t := (69, [some (.inr (some a0)), some (.inr (some b_2)), some (.inr r2), some (.inl x3)], [.inr (some a0)], M)) sm_a143_68 rfl rfl rfl ?_
        refine ru_go (t := (72, [some (.inr (some a0)), some (.inr (some b_2)), some (.inr r2), some (.inl x3)], [.inr (sm_R M a0 3)], M)) sm_a143_69 rfl rfl (st_getR h_6 rfl rfl) ?_
        refine ru_go (t := (73, [some (.inr (some a0)), some (.inr (some b_2)), some (.inr r2), some (.inl x3)], [.inl x3, .inr (sm_R M a0 3)], M)) sm_a143_72 rfl rfl rfl ?_
        obtain ⟨b_15, hb_16, h⟩ := h
        rw [hb_16]
        obtain ⟨h_17, h⟩ := h
        obtain ⟨h_18, h⟩ := h
        refine ru_go (t := (74, [some (.inr (some a0)), some (.inr (some b_2)), some (.inr r2), some (.inl x3)], [.inr (sm_R M b_15 (x3).toNatClampNeg)], M)) sm_a143_73 rfl rfl (st_aald h_17.choose_spec h_18 rfl) ?_
        refine ru_go (t := (75, [some (.inr (some a0)), some (.inr (some b_2)), some (.inr r2), some (.inl x3)], [.inr r2, .inr (sm_R M b_15 (x3).toNatClampNeg)], M)) sm_a143_74 rfl rfl rfl ?_
        obtain ⟨b_19, hb_20, h⟩ := h
        rw [hb_20]
        obtain ⟨h_21, h⟩ := h
        exact ru_call (p := 78) sm_a143_75 rfl (sc_virt (Or.inl rfl) rfl rfl h_21 (Nat.le_of_ble_eq_true rfl)) rfl h
theorem bb_143_78 {d : Nat} {M : sm_M} {Q : Option sm_V → sm_M → Prop} {a0 : Nat} {r1 : Option Nat} {r2 : Option Nat} {x3 : Int32}
    (h : sm_Run (d + 1) 143 42 [some (.inr (some a0)), some (.inr r1), some (.inr r2), some (.inl (x3 + 1))] [] M Q) :
    sm_Run (d + 1) 143 78 [some (.inr (some a0)), some (.inr r1), some (.inr r2), some (.inl x3)] [] M Q := by
  refine ru_go (t := (81, [some (.inr (some a0)), some (.inr r1), some (.inr r2), some (.inl (x3 + 1))], [], M)) sm_a143_78 rfl rfl (st_iinc rfl (by decide)) ?_
  refine ru_go (t := (42, [some (.inr (some a0)), some (.inr r1), some (.inr r2), some (.inl (x3 + 1))], [], M)) sm_a143_81 rfl rfl (st_goto (pc := 81) (by decide)) ?_
  exact h

/-! WireBus$Wire.strike:(LWireBus$Packet;)LWireBus$Packet; -/
theorem sm_a144_0 : sm_at 144 0 = some (.aload_n 0, 1, (0, 0, 0, 0)) := by decide +kernel
theorem sm_a144_1 : sm_at 144 1 = some (.aload_n 0, 1, (0, 0, 0, 0)) := by decide +kernel
theorem sm_a144_2 : sm_at 144 2 = some (.getfield 56, 3, (11, 8, 0, 316)) := by decide +kernel
theorem sm_a144_5 : sm_at 144 5 = some (.invokevirtual 59, 3, (10, 139, 11, 768)) := by decide +kernel
theorem sm_a144_8 : sm_at 144 8 = some (.istore_n 2, 1, (0, 0, 0, 0)) := by decide +kernel
theorem sm_a144_9 : sm_at 144 9 = some (.iload_n 2, 1, (0, 0, 0, 0)) := by decide +kernel
theorem sm_a144_10 : sm_at 144 10 = some (.iconst (-1), 1, (0, 0, 0, 0)) := by decide +kernel
theorem sm_a144_11 : sm_at 144 11 = some (.if_icmp .ne 5, 3, (0, 0, 0, 0)) := by decide +kernel
theorem sm_a144_14 : sm_at 144 14 = some (.aload_n 1, 1, (0, 0, 0, 0)) := by decide +kernel
theorem sm_a144_15 : sm_at 144 15 = some (.areturn, 1, (0, 0, 0, 0)) := by decide +kernel
theorem sm_a144_16 : sm_at 144 16 = some (.aload_n 0, 1, (0, 0, 0, 0)) := by decide +kernel
theorem sm_a144_17 : sm_at 144 17 = some (.getfield 39, 3, (11, 5, 0, 312)) := by decide +kernel
theorem sm_a144_20 : sm_at 144 20 = some (.iload_n 2, 1, (0, 0, 0, 0)) := by decide +kernel
theorem sm_a144_21 : sm_at 144 21 = some (.iaload, 1, (0, 0, 0, 0)) := by decide +kernel
theorem sm_a144_22 : sm_at 144 22 = some (.istore_n 3, 1, (0, 0, 0, 0)) := by decide +kernel
theorem sm_a144_23 : sm_at 144 23 = some (.aload_n 0, 1, (0, 0, 0, 0)) := by decide +kernel
theorem sm_a144_24 : sm_at 144 24 = some (.getfield 42, 3, (11, 6, 0, 313)) := by decide +kernel
theorem sm_a144_27 : sm_at 144 27 = some (.iload_n 2, 1, (0, 0, 0, 0)) := by decide +kernel
theorem sm_a144_28 : sm_at 144 28 = some (.iaload, 1, (0, 0, 0, 0)) := by decide +kernel
theorem sm_a144_29 : sm_at 144 29 = some (.istore 4, 2, (0, 0, 0, 0)) := by decide +kernel
theorem sm_a144_31 : sm_at 144 31 = some (.aload_n 0, 1, (0, 0, 0, 0)) := by decide +kernel
theorem sm_a144_32 : sm_at 144 32 = some (.iload_n 2, 1, (0, 0, 0, 0)) := by decide +kernel
theorem sm_a144_33 : sm_at 144 33 = some (.invokevirtual 78, 3, (10, 141, 11, 772)) := by decide +kernel
theorem sm_a144_36 : sm_at 144 36 = some (.iload_n 3, 1, (0, 0, 0, 0)) := by decide +kernel
theorem sm_a144_37 : sm_at 144 37 = some (.ifCond .ne 10, 3, (0, 0, 0, 0)) := by decide +kernel
theorem sm_a144_40 : sm_at 144 40 = some (.aload_n 1, 1, (0, 0, 0, 0)) := by decide +kernel
theorem sm_a144_41 : sm_at 144 41 = some (.iconst 1, 1, (0, 0, 0, 0)) := by decide +kernel
theorem sm_a144_42 : sm_at 144 42 = some (.putfield 82, 3, (7, 5, 1, 164)) := by decide +kernel
theorem sm_a144_45 : sm_at 144 45 = some (.aconst_null, 1, (0, 0, 0, 0)) := by decide +kernel
theorem sm_a144_46 : sm_at 144 46 = some (.areturn, 1, (0, 0, 0, 0)) := by decide +kernel
theorem sm_a144_47 : sm_at 144 47 = some (.aload_n 0, 1, (0, 0, 0, 0)) := by decide +kernel
theorem sm_a144_48 : sm_at 144 48 = some (.getfield 25, 3, (11, 2, 0, 308)) := by decide +kernel
theorem sm_a144_51 : sm_at 144 51 = some (.aload_n 1, 1, (0, 0, 0, 0)) := by decide +kernel
theorem sm_a144_52 : sm_at 144 52 = some (.invokevirtual 85, 3, (10, 38, 2, 776)) := by decide +kernel
theorem sm_a144_55 : sm_at 144 55 = some (.aload_n 0, 1, (0, 0, 0, 0)) := by decide +kernel
theorem sm_a144_56 : sm_at 144 56 = some (.iconst (-1), 1, (0, 0, 0, 0)) := by decide +kernel
theorem sm_a144_57 : sm_at 144 57 = some (.putfield 45, 3, (11, 9, 0, 318)) := by decide +kernel
theorem sm_a144_60 : sm_at 144 60 = some (.iload 4, 2, (0, 0, 0, 0)) := by decide +kernel
theorem sm_a144_62 : sm_at 144 62 = some (.aload_n 0, 1, (0, 0, 0, 0)) := by decide +kernel
theorem sm_a144_63 : sm_at 144 63 = some (.getfield 25, 3, (11, 2, 0, 308)) := by decide +kernel
theorem sm_a144_66 : sm_at 144 66 = some (.getfield 88, 3, (2, 3, 1, 196)) := by decide +kernel
theorem sm_a144_69 : sm_at 144 69 = some (.if_icmp .ge 19, 3, (0, 0, 0, 0)) := by decide +kernel
theorem sm_a144_72 : sm_at 144 72 = some (.aload_n 0, 1, (0, 0, 0, 0)) := by decide +kernel
theorem sm_a144_73 : sm_at 144 73 = some (.getfield 25, 3, (11, 2, 0, 308)) := by decide +kernel
theorem sm_a144_76 : sm_at 144 76 = some (.getfield 91, 3, (2, 2, 1, 194)) := by decide +kernel
theorem sm_a144_79 : sm_at 144 79 = some (.iload 4, 2, (0, 0, 0, 0)) := by decide +kernel
theorem sm_a144_81 : sm_at 144 81 = some (.iaload, 1, (0, 0, 0, 0)) := by decide +kernel
theorem sm_a144_82 : sm_at 144 82 = some (.iload_n 3, 1, (0, 0, 0, 0)) := by decide +kernel
theorem sm_a144_83 : sm_at 144 83 = some (.iconst 1, 1, (0, 0, 0, 0)) := by decide +kernel
theorem sm_a144_84 : sm_at 144 84 = some (.isub, 1, (0, 0, 0, 0)) := by decide +kernel
theorem sm_a144_85 : sm_at 144 85 = some (.if_icmp .ne 5, 3, (0, 0, 0, 0)) := by decide +kernel
theorem sm_a144_88 : sm_at 144 88 = some (.aload_n 1, 1, (0, 0, 0, 0)) := by decide +kernel
theorem sm_a144_89 : sm_at 144 89 = some (.areturn, 1, (0, 0, 0, 0)) := by decide +kernel
theorem sm_a144_90 : sm_at 144 90 = some (.aload_n 1, 1, (0, 0, 0, 0)) := by decide +kernel
theorem sm_a144_91 : sm_at 144 91 = some (.iconst 2, 1, (0, 0, 0, 0)) := by decide +kernel
theorem sm_a144_92 : sm_at 144 92 = some (.putfield 82, 3, (7, 5, 1, 164)) := by decide +kernel
theorem sm_a144_95 : sm_at 144 95 = some (.aload_n 1, 1, (0, 0, 0, 0)) := by decide +kernel
theorem sm_a144_96 : sm_at 144 96 = some (.iload 4, 2, (0, 0, 0, 0)) := by decide +kernel
theorem sm_a144_98 : sm_at 144 98 = some (.putfield 94, 3, (7, 6, 1, 166)) := by decide +kernel
theorem sm_a144_101 : sm_at 144 101 = some (.aload_n 1, 1, (0, 0, 0, 0)) := by decide +kernel
theorem sm_a144_102 : sm_at 144 102 = some (.iload_n 3, 1, (0, 0, 0, 0)) := by decide +kernel
theorem sm_a144_103 : sm_at 144 103 = some (.iconst 1, 1, (0, 0, 0, 0)) := by decide +kernel
theorem sm_a144_104 : sm_at 144 104 = some (.isub, 1, (0, 0, 0, 0)) := by decide +kernel
theorem sm_a144_105 : sm_at 144 105 = some (.putfield 97, 3, (7, 7, 1, 167)) := by decide +kernel
theorem sm_a144_108 : sm_at 144 108 = some (.aload_n 0, 1, (0, 0, 0, 0)) := by decide +kernel
theorem sm_a144_109 : sm_at 144 109 = some (.getfield 25, 3, (11, 2, 0, 308)) := by decide +kernel
theorem sm_a144_112 : sm_at 144 112 = some (.getfield 91, 3, (2, 2, 1, 194)) := by decide +kernel
theorem sm_a144_115 : sm_at 144 115 = some (.iload 4, 2, (0, 0, 0, 0)) := by decide +kernel
theorem sm_a144_117 : sm_at 144 117 = some (.aload_n 1, 1, (0, 0, 0, 0)) := by decide +kernel
theorem sm_a144_118 : sm_at 144 118 = some (.getfield 97, 3, (7, 7, 1, 167)) := by decide +kernel
theorem sm_a144_121 : sm_at 144 121 = some (.iastore, 1, (0, 0, 0, 0)) := by decide +kernel
theorem sm_a144_122 : sm_at 144 122 = some (.aload_n 0, 1, (0, 0, 0, 0)) := by decide +kernel
theorem sm_a144_123 : sm_at 144 123 = some (.getfield 25, 3, (11, 2, 0, 308)) := by decide +kernel
theorem sm_a144_126 : sm_at 144 126 = some (.aload_n 0, 1, (0, 0, 0, 0)) := by decide +kernel
theorem sm_a144_127 : sm_at 144 127 = some (.getfield 18, 3, (11, 1, 0, 307)) := by decide +kernel
theorem sm_a144_130 : sm_at 144 130 = some (.invokevirtual 100, 3, (10, 46, 2, 818)) := by decide +kernel
theorem sm_a144_133 : sm_at 144 133 = some (.ifCond .eq 10, 3, (0, 0, 0, 0)) := by decide +kernel
theorem sm_a144_136 : sm_at 144 136 = some (.aload_n 0, 1, (0, 0, 0, 0)) := by decide +kernel
theorem sm_a144_137 : sm_at 144 137 = some (.getfield 18, 3, (11, 1, 0, 307)) := by decide +kernel
theorem sm_a144_140 : sm_at 144 140 = some (.goto 4, 3, (0, 0, 0, 0)) := by decide +kernel
theorem sm_a144_143 : sm_at 144 143 = some (.aconst_null, 1, (0, 0, 0, 0)) := by decide +kernel
theorem sm_a144_144 : sm_at 144 144 = some (.areturn, 1, (0, 0, 0, 0)) := by decide +kernel
theorem bb_144_0 {d : Nat} {M : sm_M} {Q : Option sm_V → sm_M → Prop} {a0 : Nat} {r1 : Option Nat} {z2 : Option sm_V} {z3 : Option sm_V} {z4 : Option sm_V}
    (h : sm_K M a0 = 36 ∧ sm_Run d 139 0 (sm_ent 139 [.inr (some a0), .inl (sm_I M a0 8)]) [] M (fun v M1 => sm_Run (d + 1) 144 8 [some (.inr (some a0)), some (.inr r1), z2, z3, z4] (v.toList ++ []) M1 Q)) :
    sm_Run (d + 1) 144 0 [some (.inr (some a0)), some (.inr r1), z2, z3, z4] [] M Q := by
  refine ru_go (t := (1, [some (.inr (some a0)), some (.inr r1), z2, z3, z4], [.inr (some a0)], M)) sm_a144_0 rfl rfl rfl ?_
  refine ru_go (t := (2, [some (.inr (some a0)), some (.inr r1), z2, z3, z4], [.inr (some a0), .inr (some a0)], M)) sm_a144_1 rfl rfl rfl ?_
  obtain ⟨h_1, h⟩ := h
  refine ru_go (t := (5, [some (.inr (some a0)), some (.inr r1), z2, z3, z4], [.inl (sm_I M a0 8), .inr (some a0)], M)) sm_a144_2 rfl rfl (st_getI h_1 rfl) ?_
  exact ru_call (p := 8) sm_a144_5 rfl (sc_virt (Or.inl rfl) rfl rfl h_1 (Nat.le_of_ble_eq_true rfl)) rfl h
theorem bb_144_8 {d : Nat} {M : sm_M} {Q : Option sm_V → sm_M → Prop} {a0 : Nat} {r1 : Option Nat} {z2 : Option sm_V} {z3 : Option sm_V} {z4 : Option sm_V} {y0 : Int32}
    (h : ((¬ y0 = (-1) → sm_K M a0 = 36 ∧ ∃ b_3, sm_R M a0 5 = some b_3 ∧ sm_iA M b_3 ∧ sm_in_ M b_3 y0 ∧ ∃ b_7, sm_R M a0 6 = some b_7 ∧ sm_iA M b_7 ∧ sm_in_ M b_7 y0 ∧ sm_Run d 141 0 (sm_ent 141 [.inr (some a0), .inl y0]) [] M (fun v M1 => sm_Run (d + 1) 144 36 [some (.inr (some a0)), some (.inr r1), some (.inl y0), some (.inl (sm_I M b_3 (y0).toNatClampNeg)), some (.inl (sm_I M b_7 (y0).toNatClampNeg))] (v.toList ++ []) M1 Q)) ∧ (¬ (¬ y0 = (-1)) → Q (some (.inr r1)) M))) :
    sm_Run (d + 1) 144 8 [some (.inr (some a0)), some (.inr r1), z2, z3, z4] [.inl y0] M Q := by
  refine ru_go (t := (9, [some (.inr (some a0)), some (.inr r1), some (.inl y0), z3, z4], [], M)) sm_a144_8 rfl rfl rfl ?_
  refine ru_go (t := (10, [some (.inr (some a0)), some (.inr r1), some (.inl y0), z3, z4], [.inl y0], M)) sm_a144_9 rfl rfl rfl ?_
  refine ru_go (t := (11, [some (.inr (some a0)), some (.inr r1), some (.inl y0), z3, z4], [.inl (-1), .inl y0], M)) sm_a144_10 rfl rfl (st_iconst (by decide)) ?_
  refine ru_icmp (pc := 11) (p := 16) (p2 := 14) sm_a144_11 (by decide) rfl ⟨fun hc_1 => ?_, fun hc_1 => ?_⟩
  · have h := h.1 hc_1
    refine ru_go (t := (17, [some (.inr (some a0)), some (.inr r1), some (.inl y0), z3, z4], [.inr (some a0)], M)) sm_a144_16 rfl rfl rfl ?_
    obtain ⟨h_2, h⟩ := h
    refine ru_go (t := (20, [some (.inr (some a0)), some (.inr r1), some (.inl y0), z3, z4], [.inr (sm_R M a0 5)], M)) sm_a144_17 rfl rfl (st_getR h_2 rfl rfl) ?_
    refine ru_go (t := (21, [some (.inr (some a0)), some (.inr r1), some (.inl y0), z3, z4], [.inl y0, .inr (sm_R M a0 5)], M)) sm_a144_20 rfl rfl rfl ?_
    obtain ⟨b_3, hb_4, h⟩ := h
    rw [hb_4]
    obtain ⟨h_5, h⟩ := h
    obtain ⟨h_6, h⟩ := h
    refine ru_go (t := (22, [some (.inr (some a0)), some (.inr r1), some (.inl y0), z3, z4], [.inl (sm_I M b_3 (y0).toNatClampNeg)], M)) sm_a144_21 rfl rfl (st_iald h_5 h_6) ?_
    refine ru_go (t := (23, [some (.inr (some a0)), some (.inr r1), some (.inl y0), some (.inl (sm_I M b_3 (y0).toNatClampNeg)), z4], [], M)) sm_a144_22 rfl rfl rfl ?_
    refine ru_go (t := (24, [some (.inr (some a0)), some (.inr r1), some (.inl y0), some (.inl (sm_I M b_3 (y0).toNatClampNeg)), z4], [.inr (some a0)], M)) sm_a144_23 rfl rfl rfl ?_
    refine ru_go (t := (27, [some (.inr (some a0)), some (.inr r1), some (.inl y0), some (.inl (sm_I M b_3 (y0).toNatClampNeg)), z4], [.inr (sm_R M a0 6)], M)) sm_a144_24 rfl rfl (st_getR h_2 rfl rfl) ?_
    refine ru_go (t := (28, [some (.inr (some a0)), some (.inr r1), some (.inl y0), some (.inl (sm_I M b_3 (y0).toNatClampNeg)), z4], [.inl y0, .inr (sm_R M a0 6)], M)) sm_a144_27 rfl rfl rfl ?_
    obtain ⟨b_7, hb_8, h⟩ := h
    rw [hb_8]
    obtain ⟨h_9, h⟩ := h
    obtain ⟨h_10, h⟩ := h
    refine ru_go (t := (29, [some (.inr (some a0)), some (.inr r1), some (.inl y0), some (.inl (sm_I M b_3 (y0).toNatClampNeg)), z4], [.inl (sm_I M b_7 (y0).toNatClampNeg)], M)) sm_a144_28 rfl rfl (st_iald h_9 h_10) ?_
    refine ru_go (t := (31, [some (.inr (some a0)), some (.inr r1), some (.inl y0), some (.inl (sm_I M b_3 (y0).toNatClampNeg)), some (.inl (sm_I M b_7 (y0).toNatClampNeg))], [], M)) sm_a144_29 rfl rfl rfl ?_
    refine ru_go (t := (32, [some (.inr (some a0)), some (.inr r1), some (.inl y0), some (.inl (sm_I M b_3 (y0).toNatClampNeg)), some (.inl (sm_I M b_7 (y0).toNatClampNeg))], [.inr (some a0)], M)) sm_a144_31 rfl rfl rfl ?_
    refine ru_go (t := (33, [some (.inr (some a0)), some (.inr r1), some (.inl y0), some (.inl (sm_I M b_3 (y0).toNatClampNeg)), some (.inl (sm_I M b_7 (y0).toNatClampNeg))], [.inl y0, .inr (some a0)], M)) sm_a144_32 rfl rfl rfl ?_
    exact ru_call (p := 36) sm_a144_33 rfl (sc_virt (Or.inl rfl) rfl rfl h_2 (Nat.le_of_ble_eq_true rfl)) rfl h
  · have h := h.2 hc_1
    refine ru_go (t := (15, [some (.inr (some a0)), some (.inr r1), some (.inl y0), z3, z4], [.inr r1], M)) sm_a144_14 rfl rfl rfl ?_
    exact ru_ret sm_a144_15 rfl h
theorem bb_144_36 {d : Nat} {M : sm_M} {Q : Option sm_V → sm_M → Prop} {a0 : Nat} {r1 : Option Nat} {x2 : Int32} {x3 : Int32} {x4 : Int32}
    (h : ((¬ x3 = 0 → sm_K M a0 = 36 ∧ ∃ b_3, sm_R M a0 2 = some b_3 ∧ sm_K M b_3 = 9 ∧ sm_Run d 38 0 (sm_ent 38 [.inr (some b_3), .inr r1]) [] M (fun v M1 => sm_Run (d + 1) 144 55 [some (.inr (some a0)), some (.inr r1), some (.inl x2), some (.inl x3), some (.inl x4)] (v.toList ++ []) M1 Q)) ∧ (¬ (¬ x3 = 0) → ∃ b_6, r1 = some b_6 ∧ sm_K M b_6 = 24 ∧ Q (some (.inr none)) (sm_putI M b_6 5 1)))) :
    sm_Run (d + 1) 144 36 [some (.inr (some a0)), some (.inr r1), some (.inl x2), some (.inl x3), some (.inl x4)] [] M Q := by
  refine ru_go (t := (37, [some (.inr (some a0)), some (.inr r1), some (.inl x2), some (.inl x3), some (.inl x4)], [.inl x3], M)) sm_a144_36 rfl rfl rfl ?_
  refine ru_if (pc := 37) (p := 47) (p2 := 40) sm_a144_37 (by decide) rfl ⟨fun hc_1 => ?_, fun hc_1 => ?_⟩
  · have h := h.1 hc_1
    refine ru_go (t := (48, [some (.inr (some a0)), some (.inr r1), some (.inl x2), some (.inl x3), some (.inl x4)], [.inr (some a0)], M)) sm_a144_47 rfl rfl rfl ?_
    obtain ⟨h_2, h⟩ := h
    refine ru_go (t := (51, [some (.inr (some a0)), some (.inr r1), some (.inl x2), some (.inl x3), some (.inl x4)], [.inr (sm_R M a0 2)], M)) sm_a144_48 rfl rfl (st_getR h_2 rfl rfl) ?_
    refine ru_go (t := (52, [some (.inr (some a0)), some (.inr r1), some (.inl x2), some (.inl x3), some (.inl x4)], [.inr r1, .inr (sm_R M a0 2)], M)) sm_a144_51 rfl rfl rfl ?_
    obtain ⟨b_3, hb_4, h⟩ := h
    rw [hb_4]
    obtain ⟨h_5, h⟩ := h
    exact ru_call (p := 55) sm_a144_52 rfl (sc_virt (Or.inl rfl) rfl rfl h_5 (Nat.le_of_ble_eq_true rfl)) rfl h
  · have h := h.2 hc_1
    refine ru_go (t := (41, [some (.inr (some a0)), some (.inr r1), some (.inl x2), some (.inl x3), some (.inl x4)], [.inr r1], M)) sm_a144_40 rfl rfl rfl ?_
    refine ru_go (t := (42, [some (.inr (some a0)), some (.inr r1), some (.inl x2), some (.inl x3), some (.inl x4)], [.inl 1, .inr r1], M)) sm_a144_41 rfl rfl (st_iconst (by decide)) ?_
    obtain ⟨b_6, hb_7, h⟩ := h
    rw [hb_7]
    obtain ⟨h_8, h⟩ := h
    refine ru_go (t := (45, [some (.inr (some a0)), some (.inr (some b_6)), some (.inl x2), some (.inl x3), some (.inl x4)], [], sm_putI M b_6 5 1)) sm_a144_42 rfl rfl (st_putI h_8 rfl) ?_
    refine ru_go (t := (46, [some (.inr (some a0)), some (.inr (some b_6)), some (.inl x2), some (.inl x3), some (.inl x4)], [.inr none], sm_putI M b_6 5 1)) sm_a144_45 rfl rfl rfl ?_
    exact ru_ret sm_a144_46 rfl h
theorem bb_144_55 {d : Nat} {M : sm_M} {Q : Option sm_V → sm_M → Prop} {a0 : Nat} {r1 : Option Nat} {x2 : Int32} {x3 : Int32} {x4 : Int32}
    (h : sm_K M a0 = 36 ∧ ∃ b_2, sm_R (sm_putI M a0 9 (-1)) a0 2 = some b_2 ∧ sm_K M b_2 = 9 ∧ (((sm_I (sm_putI M a0 9 (-1)) b_2 3) ≤ x4 → Q (some (.inr r1)) (sm_putI M a0 9 (-1))) ∧ (¬ ((sm_I (sm_putI M a0 9 (-1)) b_2 3) ≤ x4) → ∃ b_6, sm_R (sm_putI M a0 9 (-1)) a0 2 = some b_6 ∧ sm_K M b_6 = 9 ∧ ∃ b_9, sm_R (sm_putI M a0 9 (-1)) b_6 2 = some b_9 ∧ sm_iA M b_9 ∧ sm_in_ M b_9 x4 ∧ ((¬ (sm_I (sm_putI M a0 9 (-1)) b_9 (x4).toNatClampNeg) = (x3 - 1) → ∃ b_14, r1 = some b_14 ∧ sm_K M b_14 = 24 ∧ ∃ b_17, sm_R (sm_putI (sm_putI (sm_putI (sm_putI M a0 9 (-1)) b_14 5 2) b_14 6 x4) b_14 7 (x3 - 1)) a0 2 = some b_17 ∧ sm_K M b_17 = 9 ∧ ∃ b_20, sm_R (sm_putI (sm_putI (sm_putI (sm_putI M a0 9 (-1)) b_14 5 2) b_14 6 x4) b_14 7 (x3 - 1)) b_17 2 = some b_20 ∧ sm_wA 0 M b_20 ∧ sm_in_ M b_20 x4 ∧ ∃ b_24, sm_R (sm_putI (sm_putI (sm_putI (sm_putI (sm_putI M a0 9 (-1)) b_14 5 2) b_14 6 x4) b_14 7 (x3 - 1)) b_20 (x4).toNatClampNeg (sm_I (sm_putI (sm_putI (sm_putI (sm_putI M a0 9 (-1)) b_14 5 2) b_14 6 x4) b_14 7 (x3 - 1)) b_14 7)) a0 2 = some b_24 ∧ sm_K M b_24 = 9 ∧ sm_Run d 46 0 (sm_ent 46 [.inr (some b_24), .inr (sm_R (sm_putI (sm_putI (sm_putI (sm_putI (sm_putI M a0 9 (-1)) b_14 5 2) b_14 6 x4) b_14 7 (x3 - 1)) b_20 (x4).toNatClampNeg (sm_I (sm_putI (sm_putI (sm_putI (sm_putI M a0 9 (-1)) b_14 5 2) b_14 6 x4) b_14 7 (x3 - 1)) b_14 7)) a0 1)]) [] (sm_putI (sm_putI (sm_putI (sm_putI (sm_putI M a0 9 (-1)) b_14 5 2) b_14 6 x4) b_14 7 (x3 - 1)) b_20 (x4).toNatClampNeg (sm_I (sm_putI (sm_putI (sm_putI (sm_putI M a0 9 (-1)) b_14 5 2) b_14 6 x4) b_14 7 (x3 - 1)) b_14 7)) (fun v M1 => sm_Run (d + 1) 144 133 [some (.inr (some a0)), some (.inr (some b_14)), some (.inl x2), some (.inl x3), some (.inl x4)] (v.toList ++ []) M1 Q)) ∧ (¬ (¬ (sm_I (sm_putI M a0 9 (-1)) b_9 (x4).toNatClampNeg) = (x3 - 1)) → Q (some (.inr r1)) (sm_putI M a0 9 (-1))))))) :
    sm_Run (d + 1) 144 55 [some (.inr (some a0)), some (.inr r1), some (.inl x2), some (.inl x3), some (.inl x4)] [] M Q := by
  refine ru_go (t := (56, [some (.inr (some a0)), some (.inr r1), some (.inl x2), some (.inl x3), some (.inl x4)], [.inr (some a0)], M)) sm_a144_55 rfl rfl rfl ?_
  refine ru_go (t := (57, [some (.inr (some a0)), some (.inr r1), some (.inl x2), some (.inl x3), some (.inl x4)], [.inl (-1), .inr (some a0)], M)) sm_a144_56 rfl rfl (st_iconst (by decide)) ?_
  obtain ⟨h_1, h⟩ := h
  refine ru_go (t := (60, [some (.inr (some a0)), some (.inr r1), some (.inl x2), some (.inl x3), some (.inl x4)], [], sm_putI M a0 9 (-1))) sm_a144_57 rfl rfl (st_putI h_1 rfl) ?_
  refine ru_go (t := (62, [some (.inr (some a0)), some (.inr r1), some (.inl x2), some (.inl x3), some (.inl x4)], [.inl x4], sm_putI M a0 9 (-1))) sm_a144_60 rfl rfl rfl ?_
  refine ru_go (t := (63, [some (.inr (some a0)), some (.inr r1), some (.inl x2), some (.inl x3), some (.inl x4)], [.inr (some a0), .inl x4], sm_putI M a0 9 (-1))) sm_a144_62 rfl rfl rfl ?_
  refine ru_go (t := (66, [some (.inr (some a0)), some (.inr r1), some (.inl x2), some (.inl x3), some (.inl x4)], [.inr (sm_R (sm_putI M a0 9 (-1)) a0 2), .inl x4], sm_putI M a0 9 (-1))) sm_a144_63 rfl rfl (st_getR h_1 rfl rfl) ?_
  obtain ⟨b_2, hb_3, h⟩ := h
  rw [hb_3]
  obtain ⟨h_4, h⟩ := h
  refine ru_go (t := (69, [some (.inr (some a0)), some (.inr r1), some (.inl x2), some (.inl x3), some (.inl x4)], [.inl (sm_I (sm_putI M a0 9 (-1)) b_2 3), .inl x4], sm_putI M a0 9 (-1))) sm_a144_66 rfl rfl (st_getI h_4 rfl) ?_
  refine ru_icmp (pc := 69) (p := 88) (p2 := 72) sm_a144_69 (by decide) rfl ⟨fun hc_5 => ?_, fun hc_5 => ?_⟩
  · have h := h.1 hc_5
    refine ru_go (t := (89, [some (.inr (some a0)), some (.inr r1), some (.inl x2), some (.inl x3), some (.inl x4)], [.inr r1], sm_putI M a0 9 (-1))) sm_a144_88 rfl rfl rfl ?_
    exact ru_ret sm_a144_89 rfl h
  · have h := h.2 hc_5
    refine ru_go (t := (73, [some (.inr (some a0)), some (.inr r1), some (.inl x2), some (.inl x3), some (.inl x4)], [.inr (some a0)], sm_putI M a0 9 (-1))) sm_a144_72 rfl rfl rfl ?_
    refine ru_go (t := (76, [some (.inr (some a0)), some (.inr r1), some (.inl x2), some (.inl x3), some (.inl x4)], [.inr (sm_R (sm_putI M a0 9 (-1)) a0 2)], sm_putI M a0 9 (-1))) sm_a144_73 rfl rfl (st_getR h_1 rfl rfl) ?_
    obtain ⟨b_6, hb_7, h⟩ := h
    rw [hb_7]
    obtain ⟨h_8, h⟩ := h
    refine ru_go (t := (79, [some (.inr (some a0)), some (.inr r1), some (.inl x2), some (.inl x3), some (.inl x4)], [.inr (sm_R (sm_putI M a0 9 (-1)) b_6 2)], sm_putI M a0 9 (-1))) sm_a144_76 rfl rfl (st_getR h_8 rfl rfl) ?_
    refine ru_go (t := (81, [some (.inr (some a0)), some (.inr r1), some (.inl x2), some (.inl x3), some (.inl x4)], [.inl x4, .inr (sm_R (sm_putI M a0 9 (-1)) b_6 2)], sm_putI M a0 9 (-1))) sm_a144_79 rfl rfl rfl ?_
    obtain ⟨b_9, hb_10, h⟩ := h
    rw [hb_10]
    obtain ⟨h_11, h⟩ := h
    obtain ⟨h_12, h⟩ := h
    refine ru_go (t := (82, [some (.inr (some a0)), some (.inr r1), some (.inl x2), some (.inl x3), some (.inl x4)], [.inl (sm_I (sm_putI M a0 9 (-1)) b_9 (x4).toNatClampNeg)], sm_putI M a0 9 (-1))) sm_a144_81 rfl rfl (st_iald h_11 h_12) ?_
    refine ru_go (t := (83, [some (.inr (some a0)), some (.inr r1), some (.inl x2), some (.inl x3), some (.inl x4)], [.inl x3, .inl (sm_I (sm_putI M a0 9 (-1)) b_9 (x4).toNatClampNeg)], sm_putI M a0 9 (-1))) sm_a144_82 rfl rfl rfl ?_
    refine ru_go (t := (84, [some (.inr (some a0)), some (.inr r1), some (.inl x2), some (.inl x3), some (.inl x4)], [.inl 1, .inl x3, .inl (sm_I (sm_putI M a0 9 (-1)) b_9 (x4).toNatClampNeg)], sm_putI M a0 9 (-1))) sm_a144_83 rfl rfl (st_iconst (by decide)) ?_
    refine ru_go (t := (85, [some (.inr (some a0)), some (.inr r1), some (.inl x2), some (.inl x3), some (.inl x4)], [.inl (x3 - 1), .inl (sm_I (sm_putI M a0 9 (-1)) b_9 (x4).toNatClampNeg)], sm_putI M a0 9 (-1))) sm_a144_84 rfl rfl rfl ?_
    refine ru_icmp (pc := 85) (p := 90) (p2 := 88) sm_a144_85 (by decide) rfl ⟨fun hc_13 => ?_, fun hc_13 => ?_⟩
    · have h := h.1 hc_13
      refine ru_go (t := (91, [some (.inr (some a0)), some (.inr r1), some (.inl x2), some (.inl x3), some (.inl x4)], [.inr r1], sm_putI M a0 9 (-1))) sm_a144_90 rfl rfl rfl ?_
      refine ru_go (t := (92, [some (.inr (some a0)), some (.inr r1), some (.inl x2), some (.inl x3), some (.inl x4)], [.inl 2, .inr r1], sm_putI M a0 9 (-1))) sm_a144_91 rfl rfl (st_iconst (by decide)) ?_
      obtain ⟨b_14, hb_15, h⟩ := h
      rw [hb_15]
      obtain ⟨h_16, h⟩ := h
      refine ru_go (t := (95, [some (.inr (some a0)), some (.inr (some b_14)), some (.inl x2), some (.inl x3), some (.inl x4)], [], sm_putI (sm_putI M a0 9 (-1)) b_14 5 2)) sm_a144_92 rfl rfl (st_putI h_16 rfl) ?_
      refine ru_go (t := (96, [some (.inr (some a0)), some (.inr (some b_14)), some (.inl x2), some (.inl x3), some (.inl x4)], [.inr (some b_14)], sm_putI (sm_putI M a0 9 (-1)) b_14 5 2)) sm_a144_95 rfl rfl rfl ?_
      refine ru_go (t := (98, [some (.inr (some a0)), some (.inr (some b_14)), some (.inl x2), some (.inl x3), some (.inl x4)], [.inl x4, .inr (some b_14)], sm_putI (sm_putI M a0 9 (-1)) b_14 5 2)) sm_a144_96 rfl rfl rfl ?_
      refine ru_go (t := (101, [some (.inr (some a0)), some (.inr (some b_14)), some (.inl x2), some (.inl x3), some (.inl x4)], [], sm_putI (sm_putI (sm_putI M a0 9 (-1)) b_14 5 2) b_14 6 x4)) sm_a144_98 rfl rfl (st_putI h_16 rfl) ?_
      refine ru_go (t := (102, [some (.inr (some a0)), some (.inr (some b_14)), some (.inl x2), some (.inl x3), some (.inl x4)], [.inr (some b_14)], sm_putI (sm_putI (sm_putI M a0 9 (-1)) b_14 5 2) b_14 6 x4)) sm_a144_101 rfl rfl rfl ?_
      refine ru_go (t := (103, [some (.inr (some a0)), some (.inr (some b_14)), some (.inl x2), some (.inl x3), some (.inl x4)], [.inl x3, .inr (some b_14)], sm_putI (sm_putI (sm_putI M a0 9 (-1)) b_14 5 2) b_14 6 x4)) sm_a144_102 rfl rfl rfl ?_
      refine ru_go (t := (104, [some (.inr (some a0)), some (.inr (some b_14)), some (.inl x2), some (.inl x3), some (.inl x4)], [.inl 1, .inl x3, .inr (some b_14)], sm_putI (sm_putI (sm_putI M a0 9 (-1)) b_14 5 2) b_14 6 x4)) sm_a144_103 rfl rfl (st_iconst (by decide)) ?_
      refine ru_go (t := (105, [some (.inr (some a0)), some (.inr (some b_14)), some (.inl x2), some (.inl x3), some (.inl x4)], [.inl (x3 - 1), .inr (some b_14)], sm_putI (sm_putI (sm_putI M a0 9 (-1)) b_14 5 2) b_14 6 x4)) sm_a144_104 rfl rfl rfl ?_
      refine ru_go (t := (108, [some (.inr (some a0)), some (.inr (some b_14)), some (.inl x2), some (.inl x3), some (.inl x4)], [], sm_putI (sm_putI (sm_putI (sm_putI M a0 9 (-1)) b_14 5 2) b_14 6 x4) b_14 7 (x3 - 1))) sm_a144_105 rfl rfl (st_putI h_16 rfl) ?_
      refine ru_go (t := (109, [some (.inr (some a0)), some (.inr (some b_14)), some (.inl x2), some (.inl x3), some (.inl x4)], [.inr (some a0)], sm_putI (sm_putI (sm_putI (sm_putI M a0 9 (-1)) b_14 5 2) b_14 6 x4) b_14 7 (x3 - 1))) sm_a144_108 rfl rfl rfl ?_
      refine ru_go (t := (112, [some (.inr (some a0)), some (.inr (some b_14)), some (.inl x2), some (.inl x3), some (.inl x4)], [.inr (sm_R (sm_putI (sm_putI (sm_putI (sm_putI M a0 9 (-1)) b_14 5 2) b_14 6 x4) b_14 7 (x3 - 1)) a0 2)], sm_putI (sm_putI (sm_putI (sm_putI M a0 9 (-1)) b_14 5 2) b_14 6 x4) b_14 7 (x3 - 1))) sm_a144_109 rfl rfl (st_getR h_1 rfl rfl) ?_
      obtain ⟨b_17, hb_18, h⟩ := h
      rw [hb_18]
      obtain ⟨h_19, h⟩ := h
      refine ru_go (t := (115, [some (.inr (some a0)), some (.inr (some b_14)), some (.inl x2), some (.inl x3), some (.inl x4)], [.inr (sm_R (sm_putI (sm_putI (sm_putI (sm_putI M a0 9 (-1)) b_14 5 2) b_14 6 x4) b_14 7 (x3 - 1)) b_17 2)], sm_putI (sm_putI (sm_putI (sm_putI M a0 9 (-1)) b_14 5 2) b_14 6 x4) b_14 7 (x3 - 1))) sm_a144_112 rfl rfl (st_getR h_19 rfl rfl) ?_
      refine ru_go (t := (117, [some (.inr (some a0)), some (.inr (some b_14)), some (.inl x2), some (.inl x3), some (.inl x4)], [.inl x4, .inr (sm_R (sm_putI (sm_putI (sm_putI (sm_putI M a0 9 (-1)) b_14 5 2) b_14 6 x4) b_14 7 (x3 - 1)) b_17 2)], sm_putI (sm_putI (sm_putI (sm_putI M a0 9 (-1)) b_14 5 2) b_14 6 x4) b_14 7 (x3 - 1))) sm_a144_115 rfl rfl rfl ?_
      refine ru_go (t := (118, [some (.inr (some a0)), some (.inr (some b_14)), some (.inl x2), some (.inl x3), some (.inl x4)], [.inr (some b_14), .inl x4, .inr (sm_R (sm_putI (sm_putI (sm_putI (sm_putI M a0 9 (-1)) b_14 5 2) b_14 6 x4) b_14 7 (x3 - 1)) b_17 2)], sm_putI (sm_putI (sm_putI (sm_putI M a0 9 (-1)) b_14 5 2) b_14 6 x4) b_14 7 (x3 - 1))) sm_a144_117 rfl rfl rfl ?_
      refine ru_go (t := (121, [some (.inr (some a0)), some (.inr (some b_14)), some (.inl x2), some (.inl x3), some (.inl x4)], [.inl (sm_I (sm_putI (sm_putI (sm_putI (sm_putI M a0 9 (-1)) b_14 5 2) b_14 6 x4) b_14 7 (x3 - 1)) b_14 7), .inl x4, .inr (sm_R (sm_putI (sm_putI (sm_putI (sm_putI M a0 9 (-1)) b_14 5 2) b_14 6 x4) b_14 7 (x3 - 1)) b_17 2)], sm_putI (sm_putI (sm_putI (sm_putI M a0 9 (-1)) b_14 5 2) b_14 6 x4) b_14 7 (x3 - 1))) sm_a144_118 rfl rfl (st_getI h_16 rfl) ?_
      obtain ⟨b_20, hb_21, h⟩ := h
      rw [hb_21]
      obtain ⟨h_22, h⟩ := h
      obtain ⟨h_23, h⟩ := h
      refine ru_go (t := (122, [some (.inr (some a0)), some (.inr (some b_14)), some (.inl x2), some (.inl x3), some (.inl x4)], [], sm_putI (sm_putI (sm_putI (sm_putI (sm_putI M a0 9 (-1)) b_14 5 2) b_14 6 x4) b_14 7 (x3 - 1)) b_20 (x4).toNatClampNeg (sm_I (sm_putI (sm_putI (sm_putI (sm_putI M a0 9 (-1)) b_14 5 2) b_14 6 x4) b_14 7 (x3 - 1)) b_14 7))) sm_a144_121 rfl rfl (st_iast h_22 h_23) ?_
      refine ru_go (t := (123, [some (.inr (some a0)), some (.inr (some b_14)), some (.inl x2), some (.inl x3), some (.inl x4)], [.inr (some a0)], sm_putI (sm_putI (sm_putI (sm_putI (sm_putI M a0 9 (-1)) b_14 5 2) b_14 6 x4) b_14 7 (x3 - 1)) b_20 (x4).toNatClampNeg (sm_I (sm_putI (sm_putI (sm_putI (sm_putI M a0 9 (-1)) b_14 5 2) b_14 6 x4) b_14 7 (x3 - 1)) b_14 7))) sm_a144_122 rfl rfl rfl ?_
      refine ru_go (t := (126, [some (.inr (some a0)), some (.inr (some b_14)), some (.inl x2), some (.inl x3), some (.inl x4)], [.inr (sm_R (sm_putI (sm_putI (sm_putI (sm_putI (sm_putI M a0 9 (-1)) b_14 5 2) b_14 6 x4) b_14 7 (x3 - 1)) b_20 (x4).toNatClampNeg (sm_I (sm_putI (sm_putI (sm_putI (sm_putI M a0 9 (-1)) b_14 5 2) b_14 6 x4) b_14 7 (x3 - 1)) b_14 7)) a0 2)], sm_putI (sm_putI (sm_putI (sm_putI (sm_putI M a0 9 (-1)) b_14 5 2) b_14 6 x4) b_14 7 (x3 - 1)) b_20 (x4).toNatClampNeg (sm_I (sm_putI (sm_putI (sm_putI (sm_putI M a0 9 (-1)) b_14 5 2) b_14 6 x4) b_14 7 (x3 - 1)) b_14 7))) sm_a144_123 rfl rfl (st_getR h_1 rfl rfl) ?_
      refine ru_go (t := (127, [some (.inr (some a0)), some (.inr (some b_14)), some (.inl x2), some (.inl x3), some (.inl x4)], [.inr (some a0), .inr (sm_R (sm_putI (sm_putI (sm_putI (sm_putI (sm_putI M a0 9 (-1)) b_14 5 2) b_14 6 x4) b_14 7 (x3 - 1)) b_20 (x4).toNatClampNeg (sm_I (sm_putI (sm_putI (sm_putI (sm_putI M a0 9 (-1)) b_14 5 2) b_14 6 x4) b_14 7 (x3 - 1)) b_14 7)) a0 2)], sm_putI (sm_putI (sm_putI (sm_putI (sm_putI M a0 9 (-1)) b_14 5 2) b_14 6 x4) b_14 7 (x3 - 1)) b_20 (x4).toNatClampNeg (sm_I (sm_putI (sm_putI (sm_putI (sm_putI M a0 9 (-1)) b_14 5 2) b_14 6 x4) b_14 7 (x3 - 1)) b_14 7))) sm_a144_126 rfl rfl rfl ?_
      refine ru_go (t := (130, [some (.inr (some a0)), some (.inr (some b_14)), some (.inl x2), some (.inl x3), some (.inl x4)], [.inr (sm_R (sm_putI (sm_putI (sm_putI (sm_putI (sm_putI M a0 9 (-1)) b_14 5 2) b_14 6 x4) b_14 7 (x3 - 1)) b_20 (x4).toNatClampNeg (sm_I (sm_putI (sm_putI (sm_putI (sm_putI M a0 9 (-1)) b_14 5 2) b_14 6 x4) b_14 7 (x3 - 1)) b_14 7)) a0 1), .inr (sm_R (sm_putI (sm_putI (sm_putI (sm_putI (sm_putI M a0 9 (-1)) b_14 5 2) b_14 6 x4) b_14 7 (x3 - 1)) b_20 (x4).toNatClampNeg (sm_I (sm_putI (sm_putI (sm_putI (sm_putI M a0 9 (-1)) b_14 5 2) b_14 6 x4) b_14 7 (x3 - 1)) b_14 7)) a0 2)], sm_putI (sm_putI (sm_putI (sm_putI (sm_putI M a0 9 (-1)) b_14 5 2) b_14 6 x4) b_14 7 (x3 - 1)) b_20 (x4).toNatClampNeg (sm_I (sm_putI (sm_putI (sm_putI (sm_putI M a0 9 (-1)) b_14 5 2) b_14 6 x4) b_14 7 (x3 - 1)) b_14 7))) sm_a144_127 rfl rfl (st_getR h_1 rfl rfl) ?_
      obtain ⟨b_24, hb_25, h⟩ := h
      rw [hb_25]
      obtain ⟨h_26, h⟩ := h
      exact ru_call (p := 133) sm_a144_130 rfl (sc_virt (Or.inl rfl) rfl rfl h_26 (Nat.le_of_ble_eq_true rfl)) rfl h
    · have h := h.2 hc_13
      refine ru_go (t := (89, [some (.inr (some a0)), some (.inr r1), some (.inl x2), some (.inl x3), some (.inl x4)], [.inr r1], sm_putI M a0 9 (-1))) sm_a144_88 rfl rfl rfl ?_
      exact ru_ret sm_a144_89 rfl h
theorem bb_144_133 {d : Nat} {M : sm_M} {Q : Option sm_V → sm_M → Prop} {a0 : Nat} {r1 : Option Nat} {x2 : Int32} {x3 : Int32} {x4 : Int32} {y0 : Int32}
    (h : ((y0 = 0 → Q (some (.inr none)) M) ∧ (¬ (y0 = 0) → sm_K M a0 = 36 ∧ Q (some (.inr (sm_R M a0 1))) M))) :
    sm_Run (d + 1) 144 133 [some (.inr (some a0)), some (.inr r1), some (.inl x2), some (.inl x3), some (.inl x4)] [.inl y0] M Q := by
  refine ru_if (pc := 133) (p := 143) (p2 := 136) sm_a144_133 (by decide) rfl ⟨fun hc_1 => ?_, fun hc_1 => ?_⟩
  · have h := h.1 hc_1
    refine ru_go (t := (144, [some (.inr (some a0)), some (.inr r1), some (.inl x2), some (.inl x3), some (.inl x4)], [.inr none], M)) sm_a144_143 rfl rfl rfl ?_
    exact ru_ret sm_a144_144 rfl h
  · have h := h.2 hc_1
    refine ru_go (t := (137, [some (.inr (some a0)), some (.inr r1), some (.inl x2), some (.inl x3), some (.inl x4)], [.inr (some a0)], M)) sm_a144_136 rfl rfl rfl ?_
    obtain ⟨h_2, h⟩ := h
    refine ru_go (t := (140, [some (.inr (some a0)), some (.inr r1), some (.inl x2), some (.inl x3), some (.inl x4)], [.inr (sm_R M a0 1)], M)) sm_a144_137 rfl rfl (st_getR h_2 rfl rfl) ?_
    refine ru_go (t := (144, [some (.inr (some a0)), some (.inr r1), some (.inl x2), some (.inl x3), some (.inl x4)], [.inr (sm_R M a0 1)], M)) sm_a144_140 rfl rfl (st_goto (pc := 140) (by decide)) ?_
    exact ru_ret sm_a144_144 rfl h

/-! WireBus$Wire.hasAnswer:()Z -/
theorem sm_a145_0 : sm_at 145 0 = some (.iconst 0, 1, (0, 0, 0, 0)) := by decide +kernel
theorem sm_a145_1 : sm_at 145 1 = some (.istore_n 1, 1, (0, 0, 0, 0)) := by decide +kernel
theorem sm_a145_2 : sm_at 145 2 = some (.iload_n 1, 1, (0, 0, 0, 0)) := by decide +kernel
theorem sm_a145_3 : sm_at 145 3 = some (.bipush 6, 2, (0, 0, 0, 0)) := by decide +kernel
theorem sm_a145_5 : sm_at 145 5 = some (.if_icmp .ge 68, 3, (0, 0, 0, 0)) := by decide +kernel
theorem sm_a145_8 : sm_at 145 8 = some (.aload_n 0, 1, (0, 0, 0, 0)) := by decide +kernel
theorem sm_a145_9 : sm_at 145 9 = some (.getfield 31, 3, (11, 3, 0, 309)) := by decide +kernel
theorem sm_a145_12 : sm_at 145 12 = some (.iload_n 1, 1, (0, 0, 0, 0)) := by decide +kernel
theorem sm_a145_13 : sm_at 145 13 = some (.aaload, 1, (0, 0, 0, 0)) := by decide +kernel
theorem sm_a145_14 : sm_at 145 14 = some (.getfield 50, 3, (4, 3, 1, 260)) := by decide +kernel
theorem sm_a145_17 : sm_at 145 17 = some (.ifCond .eq 50, 3, (0, 0, 0, 0)) := by decide +kernel
theorem sm_a145_20 : sm_at 145 20 = some (.aload_n 0, 1, (0, 0, 0, 0)) := by decide +kernel
theorem sm_a145_21 : sm_at 145 21 = some (.getfield 31, 3, (11, 3, 0, 309)) := by decide +kernel
theorem sm_a145_24 : sm_at 145 24 = some (.iload_n 1, 1, (0, 0, 0, 0)) := by decide +kernel
theorem sm_a145_25 : sm_at 145 25 = some (.aaload, 1, (0, 0, 0, 0)) := by decide +kernel
theorem sm_a145_26 : sm_at 145 26 = some (.getfield 104, 3, (4, 11, 1, 274)) := by decide +kernel
theorem sm_a145_29 : sm_at 145 29 = some (.ifCond .eq 38, 3, (0, 0, 0, 0)) := by decide +kernel
theorem sm_a145_32 : sm_at 145 32 = some (.aload_n 0, 1, (0, 0, 0, 0)) := by decide +kernel
theorem sm_a145_33 : sm_at 145 33 = some (.getfield 31, 3, (11, 3, 0, 309)) := by decide +kernel
theorem sm_a145_36 : sm_at 145 36 = some (.iload_n 1, 1, (0, 0, 0, 0)) := by decide +kernel
theorem sm_a145_37 : sm_at 145 37 = some (.aaload, 1, (0, 0, 0, 0)) := by decide +kernel
theorem sm_a145_38 : sm_at 145 38 = some (.getfield 108, 3, (4, 12, 1, 278)) := by decide +kernel
theorem sm_a145_41 : sm_at 145 41 = some (.astore_n 2, 1, (0, 0, 0, 0)) := by decide +kernel
theorem sm_a145_42 : sm_at 145 42 = some (.aload_n 2, 1, (0, 0, 0, 0)) := by decide +kernel
theorem sm_a145_43 : sm_at 145 43 = some (.aload_n 0, 1, (0, 0, 0, 0)) := by decide +kernel
theorem sm_a145_44 : sm_at 145 44 = some (.iload_n 1, 1, (0, 0, 0, 0)) := by decide +kernel
theorem sm_a145_45 : sm_at 145 45 = some (.aload_n 2, 1, (0, 0, 0, 0)) := by decide +kernel
theorem sm_a145_46 : sm_at 145 46 = some (.getfield 111, 3, (7, 1, 1, 148)) := by decide +kernel
theorem sm_a145_49 : sm_at 145 49 = some (.invokevirtual 114, 3, (10, 142, 11, 1048)) := by decide +kernel
theorem sm_a145_52 : sm_at 145 52 = some (.invokevirtual 118, 3, (10, 110, 7, 1049)) := by decide +kernel
theorem sm_a145_55 : sm_at 145 55 = some (.aload_n 0, 1, (0, 0, 0, 0)) := by decide +kernel
theorem sm_a145_56 : sm_at 145 56 = some (.getfield 31, 3, (11, 3, 0, 309)) := by decide +kernel
theorem sm_a145_59 : sm_at 145 59 = some (.iload_n 1, 1, (0, 0, 0, 0)) := by decide +kernel
theorem sm_a145_60 : sm_at 145 60 = some (.aaload, 1, (0, 0, 0, 0)) := by decide +kernel
theorem sm_a145_61 : sm_at 145 61 = some (.iconst 0, 1, (0, 0, 0, 0)) := by decide +kernel
theorem sm_a145_62 : sm_at 145 62 = some (.putfield 104, 3, (4, 11, 1, 274)) := by decide +kernel
theorem sm_a145_65 : sm_at 145 65 = some (.iconst 1, 1, (0, 0, 0, 0)) := by decide +kernel
theorem sm_a145_66 : sm_at 145 66 = some (.ireturn, 1, (0, 0, 0, 0)) := by decide +kernel
theorem sm_a145_67 : sm_at 145 67 = some (.iinc 1 1, 3, (0, 0, 0, 0)) := by decide +kernel
theorem sm_a145_70 : sm_at 145 70 = some (.goto (-68), 3, (0, 0, 0, 0)) := by decide +kernel
theorem sm_a145_73 : sm_at 145 73 = some (.iconst 0, 1, (0, 0, 0, 0)) := by decide +kernel
theorem sm_a145_74 : sm_at 145 74 = some (.ireturn, 1, (0, 0, 0, 0)) := by decide +kernel
theorem bb_145_0 {d : Nat} {M : sm_M} {Q : Option sm_V → sm_M → Prop} {a0 : Nat} {z1 : Option sm_V} {z2 : Option sm_V}
    (h : sm_Run (d + 1) 145 2 [some (.inr (some a0)), some (.inl 0), z2] [] M Q) :
    sm_Run (d + 1) 145 0 [some (.inr (some a0)), z1, z2] [] M Q := by
  refine ru_go (t := (1, [some (.inr (some a0)), z1, z2], [.inl 0], M)) sm_a145_0 rfl rfl (st_iconst (by decide)) ?_
  refine ru_go (t := (2, [some (.inr (some a0)), some (.inl 0), z2], [], M)) sm_a145_1 rfl rfl rfl ?_
  exact h
theorem bb_145_2 {d : Nat} {M : sm_M} {Q : Option sm_V → sm_M → Prop} {a0 : Nat} {x1 : Int32} {z2 : Option sm_V}
    (h : ((6 ≤ x1 → Q (some (.inl 0)) M) ∧ (¬ (6 ≤ x1) → sm_K M a0 = 36 ∧ ∃ b_3, sm_R M a0 3 = some b_3 ∧ (∃ ci, sm_K M b_3 = 4 + 3 * ci) ∧ sm_in_ M b_3 x1 ∧ ∃ b_7, sm_R M b_3 (x1).toNatClampNeg = some b_7 ∧ sm_K M b_7 = 15 ∧ (((sm_I M b_7 3) = 0 → sm_Run (d + 1) 145 2 [some (.inr (some a0)), some (.inl (x1 + 1)), z2] [] M Q) ∧ (¬ ((sm_I M b_7 3) = 0) → ∃ b_11, sm_R M a0 3 = some b_11 ∧ (∃ ci, sm_K M b_11 = 4 + 3 * ci) ∧ sm_in_ M b_11 x1 ∧ ∃ b_15, sm_R M b_11 (x1).toNatClampNeg = some b_15 ∧ sm_K M b_15 = 15 ∧ (((sm_I M b_15 11) = 0 → sm_Run (d + 1) 145 2 [some (.inr (some a0)), some (.inl (x1 + 1)), z2] [] M Q) ∧ (¬ ((sm_I M b_15 11) = 0) → ∃ b_19, sm_R M a0 3 = some b_19 ∧ (∃ ci, sm_K M b_19 = 4 + 3 * ci) ∧ sm_in_ M b_19 x1 ∧ ∃ b_23, sm_R M b_19 (x1).toNatClampNeg = some b_23 ∧ sm_K M b_23 = 15 ∧ ∃ b_26, sm_R M b_23 12 = some b_26 ∧ sm_K M b_26 = 24 ∧ sm_Run d 142 0 (sm_ent 142 [.inr (some a0), .inl x1, .inl (sm_I M b_26 1)]) [] M (fun v M1 => sm_Run (d + 1) 145 52 [some (.inr (some a0)), some (.inl x1), some (.inr (some b_26))] (v.toList ++ [.inr (some b_26)]) M1 Q)))))))) :
    sm_Run (d + 1) 145 2 [some (.inr (some a0)), some (.inl x1), z2] [] M Q := by
  refine ru_go (t := (3, [some (.inr (some a0)), some (.inl x1), z2], [.inl x1], M)) sm_a145_2 rfl rfl rfl ?_
  refine ru_go (t := (5, [some (.inr (some a0)), some (.inl x1), z2], [.inl 6, .inl x1], M)) sm_a145_3 rfl rfl (st_bipush (by decide)) ?_
  refine ru_icmp (pc := 5) (p := 73) (p2 := 8) sm_a145_5 (by decide) rfl ⟨fun hc_1 => ?_, fun hc_1 => ?_⟩
  · have h := h.1 hc_1
    refine ru_go (t := (74, [some (.inr (some a0)), some (.inl x1), z2], [.inl 0], M)) sm_a145_73 rfl rfl (st_iconst (by decide)) ?_
    exact ru_ret sm_a145_74 (sm_rvz rfl (by decide)) h
  · have h := h.2 hc_1
    refine ru_go (t := (9, [some (.inr (some a0)), some (.inl x1), z2], [.inr (some a0)], M)) sm_a145_8 rfl rfl rfl ?_
    obtain ⟨h_2, h⟩ := h
    refine ru_go (t := (12, [some (.inr (some a0)), some (.inl x1), z2], [.inr (sm_R M a0 3)], M)) sm_a145_9 rfl rfl (st_getR h_2 rfl rfl) ?_
    refine ru_go (t := (13, [some (.inr (some a0)), some (.inl x1), z2], [.inl x1, .inr (sm_R M a0 3)], M)) sm_a145_12 rfl rfl rfl ?_
    obtain ⟨b_3, hb_4, h⟩ := h
    rw [hb_4]
    obtain ⟨h_5, h⟩ := h
    obtain ⟨h_6, h⟩ := h
    refine ru_go (t := (14, [some (.inr (some a0)), some (.inl x1), z2], [.inr (sm_R M b_3 (x1).toNatClampNeg)], M)) sm_a145_13 rfl rfl (st_aald h_5.choose_spec h_6 rfl) ?_
    obtain ⟨b_7, hb_8, h⟩ := h
    rw [hb_8]
    obtain ⟨h_9, h⟩ := h
    refine ru_go (t := (17, [some (.inr (some a0)), some (.inl x1), z2], [.inl (sm_I M b_7 3)], M)) sm_a145_14 rfl rfl (st_getI h_9 rfl) ?_
    refine ru_if (pc := 17) (p := 67) (p2 := 20) sm_a145_17 (by decide) rfl ⟨fun hc_10 => ?_, fun hc_10 => ?_⟩
    · have h := h.1 hc_10
      refine ru_go (t := (70, [some (.inr (some a0)), some (.inl (x1 + 1)), z2], [], M)) sm_a145_67 rfl rfl (st_iinc rfl (by decide)) ?_
      refine ru_go (t := (2, [some (.inr (some a0)), some (.inl (x1 + 1)), z2], [], M)) sm_a145_70 rfl rfl (st_goto (pc := 70) (by decide)) ?_
      exact h
    · have h := h.2 hc_10
      refine ru_go (t := (21, [some (.inr (some a0)), some (.inl x1), z2], [.inr (some a0)], M)) sm_a145_20 rfl rfl rfl ?_
      refine ru_go (t := (24, [some (.inr (some a0)), some (.inl x1), z2], [.inr (sm_R M a0 3)], M)) sm_a145_21 rfl rfl (st_getR h_2 rfl rfl) ?_
      refine ru_go (t := (25, [some (.inr (some a0)), some (.inl x1), z2], [.inl x1, .inr (sm_R M a0 3)], M)) sm_a145_24 rfl rfl rfl ?_
      obtain ⟨b_11, hb_12, h⟩ := h
      rw [hb_12]
      obtain ⟨h_13, h⟩ := h
      obtain ⟨h_14, h⟩ := h
      refine ru_go (t := (26, [some (.inr (some a0)), some (.inl x1), z2], [.inr (sm_R M b_11 (x1).toNatClampNeg)], M)) sm_a145_25 rfl rfl (st_aald h_13.choose_spec h_14 rfl) ?_
      obtain ⟨b_15, hb_16, h⟩ := h
      rw [hb_16]
      obtain ⟨h_17, h⟩ := h
      refine ru_go (t := (29, [some (.inr (some a0)), some (.inl x1), z2], [.inl (sm_I M b_15 11)], M)) sm_a145_26 rfl rfl (st_getI h_17 rfl) ?_
      refine ru_if (pc := 29) (p := 67) (p2 := 32) sm_a145_29 (by decide) rfl ⟨fun hc_18 => ?_, fun hc_18 => ?_⟩
      · have h := h.1 hc_18
        refine ru_go (t := (70, [some (.inr (some a0)), some (.inl (x1 + 1)), z2], [], M)) sm_a145_67 rfl rfl (st_iinc rfl (by decide)) ?_
        refine ru_go (t := (2, [some (.inr (some a0)), some (.inl (x1 + 1)), z2], [], M)) sm_a145_70 rfl rfl (st_goto (pc := 70) (by decide)) ?_
        exact h
      · have h := h.2 hc_18
        refine ru_go (t := (33, [some (.inr (some a0)), some (.inl x1), z2], [.inr (some a0)], M)) sm_a145_32 rfl rfl rfl ?_
        refine ru_go (t := (36, [some (.inr (some a0)), some (.inl x1), z2], [.inr (sm_R M a0 3)], M)) sm_a145_33 rfl rfl (st_getR h_2 rfl rfl) ?_
        refine ru_go (t := (37, [some (.inr (some a0)), some (.inl x1), z2], [.inl x1, .inr (sm_R M a0 3)], M)) sm_a145_36 rfl rfl rfl ?_
        obtain ⟨b_19, hb_20, h⟩ := h
        rw [hb_20]
        obtain ⟨h_21, h⟩ := h
        obtain ⟨h_22, h⟩ := h
        refine ru_go (t := (38, [some (.inr (some a0)), some (.inl x1), z2], [.inr (sm_R M b_19 (x1).toNatClampNeg)], M)) sm_a145_37 rfl rfl (st_aald h_21.choose_spec h_22 rfl) ?_
        obtain ⟨b_23, hb_24, h⟩ := h
        rw [hb_24]
        obtain ⟨h_25, h⟩ := h
        refine ru_go (t := (41, [some (.inr (some a0)), some (.inl x1), z2], [.inr (sm_R M b_23 12)], M)) sm_a145_38 rfl rfl (st_getR h_25 rfl rfl) ?_
        refine ru_go (t := (42, [some (.inr (some a0)), some (.inl x1), some (.inr (sm_R M b_23 12))], [], M)) sm_a145_41 rfl rfl rfl ?_
        refine ru_go (t := (43, [some (.inr (some a0)), some (.inl x1), some (.inr (sm_R M b_23 12))], [.inr (sm_R M b_23 12)], M)) sm_a145_42 rfl rfl rfl ?_
        refine ru_go (t := (44, [some (.inr (some a0)), some (.inl x1), some (.inr (sm_R M b_23 12))], [.inr (some a0), .inr (sm_R M b_23 12)], M)) sm_a145_43 rfl rfl rfl ?_
        refine ru_go (t := (45, [some (.inr (some a0)), some (.inl x1), some (.inr (sm_R M b_23 12))], [.inl x1, .inr (some a0), .inr (sm_R M b_23 12)], M)) sm_a145_44 rfl rfl rfl ?_
        refine ru_go (t := (46, [some (.inr (some a0)), some (.inl x1), some (.inr (sm_R M b_23 12))], [.inr (sm_R M b_23 12), .inl x1, .inr (some a0), .inr (sm_R M b_23 12)], M)) sm_a145_45 rfl rfl rfl ?_
        obtain ⟨b_26, hb_27, h⟩ := h
        rw [hb_27]
        obtain ⟨h_28, h⟩ := h
        refine ru_go (t := (49, [some (.inr (some a0)), some (.inl x1), some (.inr (some b_26))], [.inl (sm_I M b_26 1), .inl x1, .inr (some a0), .inr (some b_26)], M)) sm_a145_46 rfl rfl (st_getI h_28 rfl) ?_
        exact ru_call (p := 52) sm_a145_49 rfl (sc_virt (Or.inl rfl) rfl rfl h_2 (Nat.le_of_ble_eq_true rfl)) rfl h
theorem bb_145_52 {d : Nat} {M : sm_M} {Q : Option sm_V → sm_M → Prop} {a0 : Nat} {x1 : Int32} {r2 : Option Nat} {t0 : Option Nat} {t1 : Option Nat}
    (h : ∃ b_1, t1 = some b_1 ∧ sm_K M b_1 = 24 ∧ sm_Run d 110 0 (sm_ent 110 [.inr (some b_1), .inr t0]) [] M (fun v M1 => sm_Run (d + 1) 145 55 [some (.inr (some a0)), some (.inl x1), some (.inr r2)] (v.toList ++ []) M1 Q)) :
    sm_Run (d + 1) 145 52 [some (.inr (some a0)), some (.inl x1), some (.inr r2)] [.inr t0, .inr t1] M Q := by
  obtain ⟨b_1, hb_2, h⟩ := h
  rw [hb_2]
  obtain ⟨h_3, h⟩ := h
  exact ru_call (p := 55) sm_a145_52 rfl (sc_virt (Or.inl rfl) rfl rfl h_3 (Nat.le_of_ble_eq_true rfl)) rfl h
theorem bb_145_55 {d : Nat} {M : sm_M} {Q : Option sm_V → sm_M → Prop} {a0 : Nat} {x1 : Int32} {r2 : Option Nat}
    (h : sm_K M a0 = 36 ∧ ∃ b_2, sm_R M a0 3 = some b_2 ∧ (∃ ci, sm_K M b_2 = 4 + 3 * ci) ∧ sm_in_ M b_2 x1 ∧ ∃ b_6, sm_R M b_2 (x1).toNatClampNeg = some b_6 ∧ sm_K M b_6 = 15 ∧ Q (some (.inl 1)) (sm_putI M b_6 11 0)) :
    sm_Run (d + 1) 145 55 [some (.inr (some a0)), some (.inl x1), some (.inr r2)] [] M Q := by
  refine ru_go (t := (56, [some (.inr (some a0)), some (.inl x1), some (.inr r2)], [.inr (some a0)], M)) sm_a145_55 rfl rfl rfl ?_
  obtain ⟨h_1, h⟩ := h
  refine ru_go (t := (59, [some (.inr (some a0)), some (.inl x1), some (.inr r2)], [.inr (sm_R M a0 3)], M)) sm_a145_56 rfl rfl (st_getR h_1 rfl rfl) ?_
  refine ru_go (t := (60, [some (.inr (some a0)), some (.inl x1), some (.inr r2)], [.inl x1, .inr (sm_R M a0 3)], M)) sm_a145_59 rfl rfl rfl ?_
  obtain ⟨b_2, hb_3, h⟩ := h
  rw [hb_3]
  obtain ⟨h_4, h⟩ := h
  obtain ⟨h_5, h⟩ := h
  refine ru_go (t := (61, [some (.inr (some a0)), some (.inl x1), some (.inr r2)], [.inr (sm_R M b_2 (x1).toNatClampNeg)], M)) sm_a145_60 rfl rfl (st_aald h_4.choose_spec h_5 rfl) ?_
  refine ru_go (t := (62, [some (.inr (some a0)), some (.inl x1), some (.inr r2)], [.inl 0, .inr (sm_R M b_2 (x1).toNatClampNeg)], M)) sm_a145_61 rfl rfl (st_iconst (by decide)) ?_
  obtain ⟨b_6, hb_7, h⟩ := h
  rw [hb_7]
  obtain ⟨h_8, h⟩ := h
  refine ru_go (t := (65, [some (.inr (some a0)), some (.inl x1), some (.inr r2)], [], sm_putI M b_6 11 0)) sm_a145_62 rfl rfl (st_putI h_8 (by decide)) ?_
  refine ru_go (t := (66, [some (.inr (some a0)), some (.inl x1), some (.inr r2)], [.inl 1], sm_putI M b_6 11 0)) sm_a145_65 rfl rfl (st_iconst (by decide)) ?_
  exact ru_ret sm_a145_66 (sm_rvz rfl (by decide)) h

/-! WireBus$Wire.recent:(I)LWireBus$Packet; -/
theorem sm_a146_0 : sm_at 146 0 = some (.iload_n 1, 1, (0, 0, 0, 0)) := by decide +kernel
theorem sm_a146_1 : sm_at 146 1 = some (.ifCond .lt 34, 3, (0, 0, 0, 0)) := by decide +kernel
theorem sm_a146_4 : sm_at 146 4 = some (.iload_n 1, 1, (0, 0, 0, 0)) := by decide +kernel
theorem sm_a146_5 : sm_at 146 5 = some (.aload_n 0, 1, (0, 0, 0, 0)) := by decide +kernel
theorem sm_a146_6 : sm_at 146 6 = some (.getfield 56, 3, (11, 8, 0, 316)) := by decide +kernel
theorem sm_a146_9 : sm_at 146 9 = some (.if_icmp .ge 26, 3, (0, 0, 0, 0)) := by decide +kernel
theorem sm_a146_12 : sm_at 146 12 = some (.iload_n 1, 1, (0, 0, 0, 0)) := by decide +kernel
theorem sm_a146_13 : sm_at 146 13 = some (.aload_n 0, 1, (0, 0, 0, 0)) := by decide +kernel
theorem sm_a146_14 : sm_at 146 14 = some (.getfield 56, 3, (11, 8, 0, 316)) := by decide +kernel
theorem sm_a146_17 : sm_at 146 17 = some (.bipush 60, 2, (0, 0, 0, 0)) := by decide +kernel
theorem sm_a146_19 : sm_at 146 19 = some (.isub, 1, (0, 0, 0, 0)) := by decide +kernel
theorem sm_a146_20 : sm_at 146 20 = some (.if_icmp .lt 15, 3, (0, 0, 0, 0)) := by decide +kernel
theorem sm_a146_23 : sm_at 146 23 = some (.aload_n 0, 1, (0, 0, 0, 0)) := by decide +kernel
theorem sm_a146_24 : sm_at 146 24 = some (.getfield 13, 3, (11, 0, 0, 306)) := by decide +kernel
theorem sm_a146_27 : sm_at 146 27 = some (.iload_n 1, 1, (0, 0, 0, 0)) := by decide +kernel
theorem sm_a146_28 : sm_at 146 28 = some (.bipush 60, 2, (0, 0, 0, 0)) := by decide +kernel
theorem sm_a146_30 : sm_at 146 30 = some (.irem, 1, (0, 0, 0, 0)) := by decide +kernel
theorem sm_a146_31 : sm_at 146 31 = some (.aaload, 1, (0, 0, 0, 0)) := by decide +kernel
theorem sm_a146_32 : sm_at 146 32 = some (.goto 4, 3, (0, 0, 0, 0)) := by decide +kernel
theorem sm_a146_35 : sm_at 146 35 = some (.aconst_null, 1, (0, 0, 0, 0)) := by decide +kernel
theorem sm_a146_36 : sm_at 146 36 = some (.areturn, 1, (0, 0, 0, 0)) := by decide +kernel
theorem bb_146_0 {d : Nat} {M : sm_M} {Q : Option sm_V → sm_M → Prop} {a0 : Nat} {x1 : Int32}
    (h : ((x1 < 0 → Q (some (.inr none)) M) ∧ (¬ (x1 < 0) → sm_K M a0 = 36 ∧ (((sm_I M a0 8) ≤ x1 → Q (some (.inr none)) M) ∧ (¬ ((sm_I M a0 8) ≤ x1) → ((x1 < ((sm_I M a0 8) - 60) → Q (some (.inr none)) M) ∧ (¬ (x1 < ((sm_I M a0 8) - 60)) → ∃ b_5, sm_R M a0 0 = some b_5 ∧ (∃ ci, sm_K M b_5 = 4 + 3 * ci) ∧ sm_in_ M b_5 (x1 - x1 / 60 * 60) ∧ Q (some (.inr (sm_R M b_5 (x1 - x1 / 60 * 60).toNatClampNeg))) M))))))) :
    sm_Run d 146 0 [some (.inr (some a0)), some (.inl x1)] [] M Q := by
  refine ru_go (t := (1, [some (.inr (some a0)), some (.inl x1)], [.inl x1], M)) sm_a146_0 rfl rfl rfl ?_
  refine ru_if (pc := 1) (p := 35) (p2 := 4) sm_a146_1 (by decide) rfl ⟨fun hc_1 => ?_, fun hc_1 => ?_⟩
  · have h := h.1 hc_1
    refine ru_go (t := (36, [some (.inr (some a0)), some (.inl x1)], [.inr none], M)) sm_a146_35 rfl rfl rfl ?_
    exact ru_ret sm_a146_36 rfl h
  · have h := h.2 hc_1
    refine ru_go (t := (5, [some (.inr (some a0)), some (.inl x1)], [.inl x1], M)) sm_a146_4 rfl rfl rfl ?_
    refine ru_go (t := (6, [some (.inr (some a0)), some (.inl x1)], [.inr (some a0), .inl x1], M)) sm_a146_5 rfl rfl rfl ?_
    obtain ⟨h_2, h⟩ := h
    refine ru_go (t := (9, [some (.inr (some a0)), some (.inl x1)], [.inl (sm_I M a0 8), .inl x1], M)) sm_a146_6 rfl rfl (st_getI h_2 rfl) ?_
    refine ru_icmp (pc := 9) (p := 35) (p2 := 12) sm_a146_9 (by decide) rfl ⟨fun hc_3 => ?_, fun hc_3 => ?_⟩
    · have h := h.1 hc_3
      refine ru_go (t := (36, [some (.inr (some a0)), some (.inl x1)], [.inr none], M)) sm_a146_35 rfl rfl rfl ?_
      exact ru_ret sm_a146_36 rfl h
    · have h := h.2 hc_3
      refine ru_go (t := (13, [some (.inr (some a0)), some (.inl x1)], [.inl x1], M)) sm_a146_12 rfl rfl rfl ?_
      refine ru_go (t := (14, [some (.inr (some a0)), some (.inl x1)], [.inr (some a0), .inl x1], M)) sm_a146_13 rfl rfl rfl ?_
      refine ru_go (t := (17, [some (.inr (some a0)), some (.inl x1)], [.inl (sm_I M a0 8), .inl x1], M)) sm_a146_14 rfl rfl (st_getI h_2 rfl) ?_
      refine ru_go (t := (19, [some (.inr (some a0)), some (.inl x1)], [.inl 60, .inl (sm_I M a0 8), .inl x1], M)) sm_a146_17 rfl rfl (st_bipush (by decide)) ?_
      refine ru_go (t := (20, [some (.inr (some a0)), some (.inl x1)], [.inl ((sm_I M a0 8) - 60), .inl x1], M)) sm_a146_19 rfl rfl rfl ?_
      refine ru_icmp (pc := 20) (p := 35) (p2 := 23) sm_a146_20 (by decide) rfl ⟨fun hc_4 => ?_, fun hc_4 => ?_⟩
      · have h := h.1 hc_4
        refine ru_go (t := (36, [some (.inr (some a0)), some (.inl x1)], [.inr none], M)) sm_a146_35 rfl rfl rfl ?_
        exact ru_ret sm_a146_36 rfl h
      · have h := h.2 hc_4
        refine ru_go (t := (24, [some (.inr (some a0)), some (.inl x1)], [.inr (some a0)], M)) sm_a146_23 rfl rfl rfl ?_
        refine ru_go (t := (27, [some (.inr (some a0)), some (.inl x1)], [.inr (sm_R M a0 0)], M)) sm_a146_24 rfl rfl (st_getR h_2 rfl rfl) ?_
        refine ru_go (t := (28, [some (.inr (some a0)), some (.inl x1)], [.inl x1, .inr (sm_R M a0 0)], M)) sm_a146_27 rfl rfl rfl ?_
        refine ru_go (t := (30, [some (.inr (some a0)), some (.inl x1)], [.inl 60, .inl x1, .inr (sm_R M a0 0)], M)) sm_a146_28 rfl rfl (st_bipush (by decide)) ?_
        refine ru_go (t := (31, [some (.inr (some a0)), some (.inl x1)], [.inl (x1 - x1 / 60 * 60), .inr (sm_R M a0 0)], M)) sm_a146_30 rfl rfl (st_rem (by decide)) ?_
        obtain ⟨b_5, hb_6, h⟩ := h
        rw [hb_6]
        obtain ⟨h_7, h⟩ := h
        obtain ⟨h_8, h⟩ := h
        refine ru_go (t := (32, [some (.inr (some a0)), some (.inl x1)], [.inr (sm_R M b_5 (x1 - x1 / 60 * 60).toNatClampNeg)], M)) sm_a146_31 rfl rfl (st_aald h_7.choose_spec h_8 rfl) ?_
        refine ru_go (t := (36, [some (.inr (some a0)), some (.inl x1)], [.inr (sm_R M b_5 (x1 - x1 / 60 * 60).toNatClampNeg)], M)) sm_a146_32 rfl rfl (st_goto (pc := 32) (by decide)) ?_
        exact ru_ret sm_a146_36 rfl h

/-! WireBus$Wire.layOut:(I)V -/
theorem sm_a147_0 : sm_at 147 0 = some (.aload_n 0, 1, (0, 0, 0, 0)) := by decide +kernel
theorem sm_a147_1 : sm_at 147 1 = some (.getfield 45, 3, (11, 9, 0, 318)) := by decide +kernel
theorem sm_a147_4 : sm_at 147 4 = some (.iload_n 1, 1, (0, 0, 0, 0)) := by decide +kernel
theorem sm_a147_5 : sm_at 147 5 = some (.if_icmp .eq 24, 3, (0, 0, 0, 0)) := by decide +kernel
theorem sm_a147_8 : sm_at 147 8 = some (.aload_n 0, 1, (0, 0, 0, 0)) := by decide +kernel
theorem sm_a147_9 : sm_at 147 9 = some (.getfield 25, 3, (11, 2, 0, 308)) := by decide +kernel
theorem sm_a147_12 : sm_at 147 12 = some (.aload_n 0, 1, (0, 0, 0, 0)) := by decide +kernel
theorem sm_a147_13 : sm_at 147 13 = some (.getfield 13, 3, (11, 0, 0, 306)) := by decide +kernel
theorem sm_a147_16 : sm_at 147 16 = some (.iload_n 1, 1, (0, 0, 0, 0)) := by decide +kernel
theorem sm_a147_17 : sm_at 147 17 = some (.bipush 60, 2, (0, 0, 0, 0)) := by decide +kernel
theorem sm_a147_19 : sm_at 147 19 = some (.irem, 1, (0, 0, 0, 0)) := by decide +kernel
theorem sm_a147_20 : sm_at 147 20 = some (.aaload, 1, (0, 0, 0, 0)) := by decide +kernel
theorem sm_a147_21 : sm_at 147 21 = some (.invokevirtual 85, 3, (10, 38, 2, 776)) := by decide +kernel
theorem sm_a147_24 : sm_at 147 24 = some (.aload_n 0, 1, (0, 0, 0, 0)) := by decide +kernel
theorem sm_a147_25 : sm_at 147 25 = some (.iload_n 1, 1, (0, 0, 0, 0)) := by decide +kernel
theorem sm_a147_26 : sm_at 147 26 = some (.putfield 45, 3, (11, 9, 0, 318)) := by decide +kernel
theorem sm_a147_29 : sm_at 147 29 = some (.return_, 1, (0, 0, 0, 0)) := by decide +kernel
theorem bb_147_0 {d : Nat} {M : sm_M} {Q : Option sm_V → sm_M → Prop} {a0 : Nat} {x1 : Int32}
    (h : sm_K M a0 = 36 ∧ (((sm_I M a0 9) = x1 → Q none M) ∧ (¬ ((sm_I M a0 9) = x1) → ∃ b_3, sm_R M a0 0 = some b_3 ∧ (∃ ci, sm_K M b_3 = 4 + 3 * ci) ∧ sm_in_ M b_3 (x1 - x1 / 60 * 60) ∧ ∃ b_7, sm_R M a0 2 = some b_7 ∧ sm_K M b_7 = 9 ∧ sm_Run d 38 0 (sm_ent 38 [.inr (some b_7), .inr (sm_R M b_3 (x1 - x1 / 60 * 60).toNatClampNeg)]) [] M (fun v M1 => sm_Run (d + 1) 147 24 [some (.inr (some a0)), some (.inl x1)] (v.toList ++ []) M1 Q)))) :
    sm_Run (d + 1) 147 0 [some (.inr (some a0)), some (.inl x1)] [] M Q := by
  refine ru_go (t := (1, [some (.inr (some a0)), some (.inl x1)], [.inr (some a0)], M)) sm_a147_0 rfl rfl rfl ?_
  obtain ⟨h_1, h⟩ := h
  refine ru_go (t := (4, [some (.inr (some a0)), some (.inl x1)], [.inl (sm_I M a0 9)], M)) sm_a147_1 rfl rfl (st_getI h_1 rfl) ?_
  refine ru_go (t := (5, [some (.inr (some a0)), some (.inl x1)], [.inl x1, .inl (sm_I M a0 9)], M)) sm_a147_4 rfl rfl rfl ?_
  refine ru_icmp (pc := 5) (p := 29) (p2 := 8) sm_a147_5 (by decide) rfl ⟨fun hc_2 => ?_, fun hc_2 => ?_⟩
  · have h := h.1 hc_2
    exact ru_ret sm_a147_29 (sm_rvv rfl) h
  · have h := h.2 hc_2
    refine ru_go (t := (9, [some (.inr (some a0)), some (.inl x1)], [.inr (some a0)], M)) sm_a147_8 rfl rfl rfl ?_
    refine ru_go (t := (12, [some (.inr (some a0)), some (.inl x1)], [.inr (sm_R M a0 2)], M)) sm_a147_9 rfl rfl (st_getR h_1 rfl rfl) ?_
    refine ru_go (t := (13, [some (.inr (some a0)), some (.inl x1)], [.inr (some a0), .inr (sm_R M a0 2)], M)) sm_a147_12 rfl rfl rfl ?_
    refine ru_go (t := (16, [some (.inr (some a0)), some (.inl x1)], [.inr (sm_R M a0 0), .inr (sm_R M a0 2)], M)) sm_a147_13 rfl rfl (st_getR h_1 rfl rfl) ?_
    refine ru_go (t := (17, [some (.inr (some a0)), some (.inl x1)], [.inl x1, .inr (sm_R M a0 0), .inr (sm_R M a0 2)], M)) sm_a147_16 rfl rfl rfl ?_
    refine ru_go (t := (19, [some (.inr (some a0)), some (.inl x1)], [.inl 60, .inl x1, .inr (sm_R M a0 0), .inr (sm_R M a0 2)], M)) sm_a147_17 rfl rfl (st_bipush (by decide)) ?_
    refine ru_go (t := (20, [some (.inr (some a0)), some (.inl x1)], [.inl (x1 - x1 / 60 * 60), .inr (sm_R M a0 0), .inr (sm_R M a0 2)], M)) sm_a147_19 rfl rfl (st_rem (by decide)) ?_
    obtain ⟨b_3, hb_4, h⟩ := h
    rw [hb_4]
    obtain ⟨h_5, h⟩ := h
    obtain ⟨h_6, h⟩ := h
    refine ru_go (t := (21, [some (.inr (some a0)), some (.inl x1)], [.inr (sm_R M b_3 (x1 - x1 / 60 * 60).toNatClampNeg), .inr (sm_R M a0 2)], M)) sm_a147_20 rfl rfl (st_aald h_5.choose_spec h_6 rfl) ?_
    obtain ⟨b_7, hb_8, h⟩ := h
    rw [hb_8]
    obtain ⟨h_9, h⟩ := h
    exact ru_call (p := 24) sm_a147_21 rfl (sc_virt (Or.inl rfl) rfl rfl h_9 (Nat.le_of_ble_eq_true rfl)) rfl h
theorem bb_147_24 {d : Nat} {M : sm_M} {Q : Option sm_V → sm_M → Prop} {a0 : Nat} {x1 : Int32}
    (h : sm_K M a0 = 36 ∧ Q none (sm_putI M a0 9 x1)) :
    sm_Run (d + 1) 147 24 [some (.inr (some a0)), some (.inl x1)] [] M Q := by
  refine ru_go (t := (25, [some (.inr (some a0)), some (.inl x1)], [.inr (some a0)], M)) sm_a147_24 rfl rfl rfl ?_
  refine ru_go (t := (26, [some (.inr (some a0)), some (.inl x1)], [.inl x1, .inr (some a0)], M)) sm_a147_25 rfl rfl rfl ?_
  obtain ⟨h_1, h⟩ := h
  refine ru_go (t := (29, [some (.inr (some a0)), some (.inl x1)], [], sm_putI M a0 9 x1)) sm_a147_26 rfl rfl (st_putI h_1 rfl) ?_
  exact ru_ret sm_a147_29 (sm_rvv rfl) h

/-! WireBus$Wire.countLevels:(I)I -/
theorem sm_a148_0 : sm_at 148 0 = some (.aload_n 0, 1, (0, 0, 0, 0)) := by decide +kernel
theorem sm_a148_1 : sm_at 148 1 = some (.iload_n 1, 1, (0, 0, 0, 0)) := by decide +kernel
theorem sm_a148_2 : sm_at 148 2 = some (.invokevirtual 121, 3, (10, 147, 11, 1165)) := by decide +kernel
theorem sm_a148_5 : sm_at 148 5 = some (.aload_n 0, 1, (0, 0, 0, 0)) := by decide +kernel
theorem sm_a148_6 : sm_at 148 6 = some (.getfield 25, 3, (11, 2, 0, 308)) := by decide +kernel
theorem sm_a148_9 : sm_at 148 9 = some (.getfield 88, 3, (2, 3, 1, 196)) := by decide +kernel
theorem sm_a148_12 : sm_at 148 12 = some (.ireturn, 1, (0, 0, 0, 0)) := by decide +kernel
theorem bb_148_0 {d : Nat} {M : sm_M} {Q : Option sm_V → sm_M → Prop} {a0 : Nat} {x1 : Int32}
    (h : sm_K M a0 = 36 ∧ sm_Run d 147 0 (sm_ent 147 [.inr (some a0), .inl x1]) [] M (fun v M1 => sm_Run (d + 1) 148 5 [some (.inr (some a0)), some (.inl x1)] (v.toList ++ []) M1 Q)) :
    sm_Run (d + 1) 148 0 [some (.inr (some a0)), some (.inl x1)] [] M Q := by
  refine ru_go (t := (1, [some (.inr (some a0)), some (.inl x1)], [.inr (some a0)], M)) sm_a148_0 rfl rfl rfl ?_
  refine ru_go (t := (2, [some (.inr (some a0)), some (.inl x1)], [.inl x1, .inr (some a0)], M)) sm_a148_1 rfl rfl rfl ?_
  obtain ⟨h_1, h⟩ := h
  exact ru_call (p := 5) sm_a148_2 rfl (sc_virt (Or.inl rfl) rfl rfl h_1 (Nat.le_of_ble_eq_true rfl)) rfl h
theorem bb_148_5 {d : Nat} {M : sm_M} {Q : Option sm_V → sm_M → Prop} {a0 : Nat} {x1 : Int32}
    (h : sm_K M a0 = 36 ∧ ∃ b_2, sm_R M a0 2 = some b_2 ∧ sm_K M b_2 = 9 ∧ Q (some (.inl (sm_I M b_2 3))) M) :
    sm_Run (d + 1) 148 5 [some (.inr (some a0)), some (.inl x1)] [] M Q := by
  refine ru_go (t := (6, [some (.inr (some a0)), some (.inl x1)], [.inr (some a0)], M)) sm_a148_5 rfl rfl rfl ?_
  obtain ⟨h_1, h⟩ := h
  refine ru_go (t := (9, [some (.inr (some a0)), some (.inl x1)], [.inr (sm_R M a0 2)], M)) sm_a148_6 rfl rfl (st_getR h_1 rfl rfl) ?_
  obtain ⟨b_2, hb_3, h⟩ := h
  rw [hb_3]
  obtain ⟨h_4, h⟩ := h
  refine ru_go (t := (12, [some (.inr (some a0)), some (.inl x1)], [.inl (sm_I M b_2 3)], M)) sm_a148_9 rfl rfl (st_getI h_4 rfl) ?_
  exact ru_ret sm_a148_12 rfl h

/-! WireBus$Wire.levelOf:(II)I -/
theorem sm_a149_0 : sm_at 149 0 = some (.aload_n 0, 1, (0, 0, 0, 0)) := by decide +kernel
theorem sm_a149_1 : sm_at 149 1 = some (.getfield 13, 3, (11, 0, 0, 306)) := by decide +kernel
theorem sm_a149_4 : sm_at 149 4 = some (.iload_n 1, 1, (0, 0, 0, 0)) := by decide +kernel
theorem sm_a149_5 : sm_at 149 5 = some (.bipush 60, 2, (0, 0, 0, 0)) := by decide +kernel
theorem sm_a149_7 : sm_at 149 7 = some (.irem, 1, (0, 0, 0, 0)) := by decide +kernel
theorem sm_a149_8 : sm_at 149 8 = some (.aaload, 1, (0, 0, 0, 0)) := by decide +kernel
theorem sm_a149_9 : sm_at 149 9 = some (.astore_n 3, 1, (0, 0, 0, 0)) := by decide +kernel
theorem sm_a149_10 : sm_at 149 10 = some (.aload_n 3, 1, (0, 0, 0, 0)) := by decide +kernel
theorem sm_a149_11 : sm_at 149 11 = some (.getfield 82, 3, (7, 5, 1, 164)) := by decide +kernel
theorem sm_a149_14 : sm_at 149 14 = some (.iconst 2, 1, (0, 0, 0, 0)) := by decide +kernel
theorem sm_a149_15 : sm_at 149 15 = some (.if_icmp .ne 16, 3, (0, 0, 0, 0)) := by decide +kernel
theorem sm_a149_18 : sm_at 149 18 = some (.iload_n 2, 1, (0, 0, 0, 0)) := by decide +kernel
theorem sm_a149_19 : sm_at 149 19 = some (.aload_n 3, 1, (0, 0, 0, 0)) := by decide +kernel
theorem sm_a149_20 : sm_at 149 20 = some (.getfield 94, 3, (7, 6, 1, 166)) := by decide +kernel
theorem sm_a149_23 : sm_at 149 23 = some (.if_icmp .ne 8, 3, (0, 0, 0, 0)) := by decide +kernel
theorem sm_a149_26 : sm_at 149 26 = some (.aload_n 3, 1, (0, 0, 0, 0)) := by decide +kernel
theorem sm_a149_27 : sm_at 149 27 = some (.getfield 97, 3, (7, 7, 1, 167)) := by decide +kernel
theorem sm_a149_30 : sm_at 149 30 = some (.ireturn, 1, (0, 0, 0, 0)) := by decide +kernel
theorem sm_a149_31 : sm_at 149 31 = some (.aload_n 0, 1, (0, 0, 0, 0)) := by decide +kernel
theorem sm_a149_32 : sm_at 149 32 = some (.iload_n 1, 1, (0, 0, 0, 0)) := by decide +kernel
theorem sm_a149_33 : sm_at 149 33 = some (.invokevirtual 121, 3, (10, 147, 11, 1165)) := by decide +kernel
theorem sm_a149_36 : sm_at 149 36 = some (.iload_n 2, 1, (0, 0, 0, 0)) := by decide +kernel
theorem sm_a149_37 : sm_at 149 37 = some (.ifCond .lt 26, 3, (0, 0, 0, 0)) := by decide +kernel
theorem sm_a149_40 : sm_at 149 40 = some (.iload_n 2, 1, (0, 0, 0, 0)) := by decide +kernel
theorem sm_a149_41 : sm_at 149 41 = some (.aload_n 0, 1, (0, 0, 0, 0)) := by decide +kernel
theorem sm_a149_42 : sm_at 149 42 = some (.getfield 25, 3, (11, 2, 0, 308)) := by decide +kernel
theorem sm_a149_45 : sm_at 149 45 = some (.getfield 88, 3, (2, 3, 1, 196)) := by decide +kernel
theorem sm_a149_48 : sm_at 149 48 = some (.if_icmp .ge 15, 3, (0, 0, 0, 0)) := by decide +kernel
theorem sm_a149_51 : sm_at 149 51 = some (.aload_n 0, 1, (0, 0, 0, 0)) := by decide +kernel
theorem sm_a149_52 : sm_at 149 52 = some (.getfield 25, 3, (11, 2, 0, 308)) := by decide +kernel
theorem sm_a149_55 : sm_at 149 55 = some (.getfield 91, 3, (2, 2, 1, 194)) := by decide +kernel
theorem sm_a149_58 : sm_at 149 58 = some (.iload_n 2, 1, (0, 0, 0, 0)) := by decide +kernel
theorem sm_a149_59 : sm_at 149 59 = some (.iaload, 1, (0, 0, 0, 0)) := by decide +kernel
theorem sm_a149_60 : sm_at 149 60 = some (.goto 4, 3, (0, 0, 0, 0)) := by decide +kernel
theorem sm_a149_63 : sm_at 149 63 = some (.iconst (-1), 1, (0, 0, 0, 0)) := by decide +kernel
theorem sm_a149_64 : sm_at 149 64 = some (.ireturn, 1, (0, 0, 0, 0)) := by decide +kernel
theorem bb_149_0 {d : Nat} {M : sm_M} {Q : Option sm_V → sm_M → Prop} {a0 : Nat} {x1 : Int32} {x2 : Int32} {z3 : Option sm_V}
    (h : sm_K M a0 = 36 ∧ ∃ b_2, sm_R M a0 0 = some b_2 ∧ (∃ ci, sm_K M b_2 = 4 + 3 * ci) ∧ sm_in_ M b_2 (x1 - x1 / 60 * 60) ∧ ∃ b_6, sm_R M b_2 (x1 - x1 / 60 * 60).toNatClampNeg = some b_6 ∧ sm_K M b_6 = 24 ∧ ((¬ (sm_I M b_6 5) = 2 → sm_Run d 147 0 (sm_ent 147 [.inr (some a0), .inl x1]) [] M (fun v M1 => sm_Run (d + 1) 149 36 [some (.inr (some a0)), some (.inl x1), some (.inl x2), some (.inr (some b_6))] (v.toList ++ []) M1 Q)) ∧ (¬ (¬ (sm_I M b_6 5) = 2) → ((¬ x2 = (sm_I M b_6 6) → sm_Run d 147 0 (sm_ent 147 [.inr (some a0), .inl x1]) [] M (fun v M1 => sm_Run (d + 1) 149 36 [some (.inr (some a0)), some (.inl x1), some (.inl x2), some (.inr (some b_6))] (v.toList ++ []) M1 Q)) ∧ (¬ (¬ x2 = (sm_I M b_6 6)) → Q (some (.inl (sm_I M b_6 7))) M))))) :
    sm_Run (d + 1) 149 0 [some (.inr (some a0)), some (.inl x1), some (.inl x2), z3] [] M Q := by
  refine ru_go (t := (1, [some (.inr (some a0)), some (.inl x1), some (.inl x2), z3], [.inr (some a0)], M)) sm_a149_0 rfl rfl rfl ?_
  obtain ⟨h_1, h⟩ := h
  refine ru_go (t := (4, [some (.inr (some a0)), some (.inl x1), some (.inl x2), z3], [.inr (sm_R M a0 0)], M)) sm_a149_1 rfl rfl (st_getR h_1 rfl rfl) ?_
  refine ru_go (t := (5, [some (.inr (some a0)), some (.inl x1), some (.inl x2), z3], [.inl x1, .inr (sm_R M a0 0)], M)) sm_a149_4 rfl rfl rfl ?_
  refine ru_go (t := (7, [some (.inr (some a0)), some (.inl x1), some (.inl x2), z3], [.inl 60, .inl x1, .inr (sm_R M a0 0)], M)) sm_a149_5 rfl rfl (st_bipush (by decide)) ?_
  refine ru_go (t := (8, [some (.inr (some a0)), some (.inl x1), some (.inl x2), z3], [.inl (x1 - x1 / 60 * 60), .inr (sm_R M a0 0)], M)) sm_a149_7 rfl rfl (st_rem (by decide)) ?_
  obtain ⟨b_2, hb_3, h⟩ := h
  rw [hb_3]
  obtain ⟨h_4, h⟩ := h
  obtain ⟨h_5, h⟩ := h
  refine ru_go (t := (9, [some (.inr (some a0)), some (.inl x1), some (.inl x2), z3], [.inr (sm_R M b_2 (x1 - x1 / 60 * 60).toNatClampNeg)], M)) sm_a149_8 rfl rfl (st_aald h_4.choose_spec h_5 rfl) ?_
  refine ru_go (t := (10, [some (.inr (some a0)), some (.inl x1), some (.inl x2), some (.inr (sm_R M b_2 (x1 - x1 / 60 * 60).toNatClampNeg))], [], M)) sm_a149_9 rfl rfl rfl ?_
  refine ru_go (t := (11, [some (.inr (some a0)), some (.inl x1), some (.inl x2), some (.inr (sm_R M b_2 (x1 - x1 / 60 * 60).toNatClampNeg))], [.inr (sm_R M b_2 (x1 - x1 / 60 * 60).toNatClampNeg)], M)) sm_a149_10 rfl rfl rfl ?_
  obtain ⟨b_6, hb_7, h⟩ := h
  rw [hb_7]
  obtain ⟨h_8, h⟩ := h
  refine ru_go (t := (14, [some (.inr (some a0)), some (.inl x1), some (.inl x2), some (.inr (some b_6))], [.inl (sm_I M b_6 5)], M)) sm_a149_11 rfl rfl (st_getI h_8 rfl) ?_
  refine ru_go (t := (15, [some (.inr (some a0)), some (.inl x1), some (.inl x2), some (.inr (some b_6))], [.inl 2, .inl (sm_I M b_6 5)], M)) sm_a149_14 rfl rfl (st_iconst (by decide)) ?_
  refine ru_icmp (pc := 15) (p := 31) (p2 := 18) sm_a149_15 (by decide) rfl ⟨fun hc_9 => ?_, fun hc_9 => ?_⟩
  · have h := h.1 hc_9
    refine ru_go (t := (32, [some (.inr (some a0)), some (.inl x1), some (.inl x2), some (.inr (some b_6))], [.inr (some a0)], M)) sm_a149_31 rfl rfl rfl ?_
    refine ru_go (t := (33, [some (.inr (some a0)), some (.inl x1), some (.inl x2), some (.inr (some b_6))], [.inl x1, .inr (some a0)], M)) sm_a149_32 rfl rfl rfl ?_
    exact ru_call (p := 36) sm_a149_33 rfl (sc_virt (Or.inl rfl) rfl rfl h_1 (Nat.le_of_ble_eq_true rfl)) rfl h
  · have h := h.2 hc_9
    refine ru_go (t := (19, [some (.inr (some a0)), some (.inl x1), some (.inl x2), some (.inr (some b_6))], [.inl x2], M)) sm_a149_18 rfl rfl rfl ?_
    refine ru_go (t := (20, [some (.inr (some a0)), some (.inl x1), some (.inl x2), some (.inr (some b_6))], [.inr (some b_6), .inl x2], M)) sm_a149_19 rfl rfl rfl ?_
    refine ru_go (t := (23, [some (.inr (some a0)), some (.inl x1), some (.inl x2), some (.inr (some b_6))], [.inl (sm_I M b_6 6), .inl x2], M)) sm_a149_20 rfl rfl (st_getI h_8 rfl) ?_
    refine ru_icmp (pc := 23) (p := 31) (p2 := 26) sm_a149_23 (by decide) rfl ⟨fun hc_10 => ?_, fun hc_10 => ?_⟩
    · have h := h.1 hc_10
      refine ru_go (t := (32, [some (.inr (some a0)), some (.inl x1), some (.inl x2), some (.inr (some b_6))], [.inr (some a0)], M)) sm_a149_31 rfl rfl rfl ?_
      refine ru_go (t := (33, [some (.inr (some a0)), some (.inl x1), some (.inl x2), some (.inr (some b_6))], [.inl x1, .inr (some a0)], M)) sm_a149_32 rfl rfl rfl ?_
      exact ru_call (p := 36) sm_a149_33 rfl (sc_virt (Or.inl rfl) rfl rfl h_1 (Nat.le_of_ble_eq_true rfl)) rfl h
    · have h := h.2 hc_10
      refine ru_go (t := (27, [some (.inr (some a0)), some (.inl x1), some (.inl x2), some (.inr (some b_6))], [.inr (some b_6)], M)) sm_a149_26 rfl rfl rfl ?_
      refine ru_go (t := (30, [some (.inr (some a0)), some (.inl x1), some (.inl x2), some (.inr (some b_6))], [.inl (sm_I M b_6 7)], M)) sm_a149_27 rfl rfl (st_getI h_8 rfl) ?_
      exact ru_ret sm_a149_30 rfl h
theorem bb_149_36 {d : Nat} {M : sm_M} {Q : Option sm_V → sm_M → Prop} {a0 : Nat} {x1 : Int32} {x2 : Int32} {r3 : Option Nat}
    (h : ((x2 < 0 → Q (some (.inl (-1))) M) ∧ (¬ (x2 < 0) → sm_K M a0 = 36 ∧ ∃ b_3, sm_R M a0 2 = some b_3 ∧ sm_K M b_3 = 9 ∧ (((sm_I M b_3 3) ≤ x2 → Q (some (.inl (-1))) M) ∧ (¬ ((sm_I M b_3 3) ≤ x2) → ∃ b_7, sm_R M a0 2 = some b_7 ∧ sm_K M b_7 = 9 ∧ ∃ b_10, sm_R M b_7 2 = some b_10 ∧ sm_iA M b_10 ∧ sm_in_ M b_10 x2 ∧ Q (some (.inl (sm_I M b_10 (x2).toNatClampNeg))) M))))) :
    sm_Run (d + 1) 149 36 [some (.inr (some a0)), some (.inl x1), some (.inl x2), some (.inr r3)] [] M Q := by
  refine ru_go (t := (37, [some (.inr (some a0)), some (.inl x1), some (.inl x2), some (.inr r3)], [.inl x2], M)) sm_a149_36 rfl rfl rfl ?_
  refine ru_if (pc := 37) (p := 63) (p2 := 40) sm_a149_37 (by decide) rfl ⟨fun hc_1 => ?_, fun hc_1 => ?_⟩
  · have h := h.1 hc_1
    refine ru_go (t := (64, [some (.inr (some a0)), some (.inl x1), some (.inl x2), some (.inr r3)], [.inl (-1)], M)) sm_a149_63 rfl rfl (st_iconst (by decide)) ?_
    exact ru_ret sm_a149_64 rfl h
  · have h := h.2 hc_1
    refine ru_go (t := (41, [some (.inr (some a0)), some (.inl x1), some (.inl x2), some (.inr r3)], [.inl x2], M)) sm_a149_40 rfl rfl rfl ?_
    refine ru_go (t := (42, [some (.inr (some a0)), some (.inl x1), some (.inl x2), some (.inr r3)], [.inr (some a0), .inl x2], M)) sm_a149_41 rfl rfl rfl ?_
    obtain ⟨h_2, h⟩ := h
    refine ru_go (t := (45, [some (.inr (some a0)), some (.inl x1), some (.inl x2), some (.inr r3)], [.inr (sm_R M a0 2), .inl x2], M)) sm_a149_42 rfl rfl (st_getR h_2 rfl rfl) ?_
    obtain ⟨b_3, hb_4, h⟩ := h
    rw [hb_4]
    obtain ⟨h_5, h⟩ := h
    refine ru_go (t := (48, [some (.inr (some a0)), some (.inl x1), some (.inl x2), some (.inr r3)], [.inl (sm_I M b_3 3), .inl x2], M)) sm_a149_45 rfl rfl (st_getI h_5 rfl) ?_
    refine ru_icmp (pc := 48) (p := 63) (p2 := 51) sm_a149_48 (by decide) rfl ⟨fun hc_6 => ?_, fun hc_6 => ?_⟩
    · have h := h.1 hc_6
      refine ru_go (t := (64, [some (.inr (some a0)), some (.inl x1), some (.inl x2), some (.inr r3)], [.inl (-1)], M)) sm_a149_63 rfl rfl (st_iconst (by decide)) ?_
      exact ru_ret sm_a149_64 rfl h
    · have h := h.2 hc_6
      refine ru_go (t := (52, [some (.inr (some a0)), some (.inl x1), some (.inl x2), some (.inr r3)], [.inr (some a0)], M)) sm_a149_51 rfl rfl rfl ?_
      refine ru_go (t := (55, [some (.inr (some a0)), some (.inl x1), some (.inl x2), some (.inr r3)], [.inr (sm_R M a0 2)], M)) sm_a149_52 rfl rfl (st_getR h_2 rfl rfl) ?_
      obtain ⟨b_7, hb_8, h⟩ := h
      rw [hb_8]
      obtain ⟨h_9, h⟩ := h
      refine ru_go (t := (58, [some (.inr (some a0)), some (.inl x1), some (.inl x2), some (.inr r3)], [.inr (sm_R M b_7 2)], M)) sm_a149_55 rfl rfl (st_getR h_9 rfl rfl) ?_
      refine ru_go (t := (59, [some (.inr (some a0)), some (.inl x1), some (.inl x2), some (.inr r3)], [.inl x2, .inr (sm_R M b_7 2)], M)) sm_a149_58 rfl rfl rfl ?_
      obtain ⟨b_10, hb_11, h⟩ := h
      rw [hb_11]
      obtain ⟨h_12, h⟩ := h
      obtain ⟨h_13, h⟩ := h
      refine ru_go (t := (60, [some (.inr (some a0)), some (.inl x1), some (.inl x2), some (.inr r3)], [.inl (sm_I M b_10 (x2).toNatClampNeg)], M)) sm_a149_59 rfl rfl (st_iald h_12 h_13) ?_
      refine ru_go (t := (64, [some (.inr (some a0)), some (.inl x1), some (.inl x2), some (.inr r3)], [.inl (sm_I M b_10 (x2).toNatClampNeg)], M)) sm_a149_60 rfl rfl (st_goto (pc := 60) (by decide)) ?_
      exact ru_ret sm_a149_64 rfl h
