/-! WireBus$Device.<init>:()V -/
theorem sm_a59_0 : sm_at 59 0 = some (.aload_n 0, 1, (0, 0, 0, 0)) := by decide +kernel
theorem sm_a59_1 : sm_at 59 1 = some (.invokespecial 3, 3, (1, 0, 0, 212)) := by decide +kernel
theorem sm_a59_4 : sm_at 59 4 = some (.aload_n 0, 1, (0, 0, 0, 0)) := by decide +kernel
theorem sm_a59_5 : sm_at 59 5 = some (.bipush 8, 2, (0, 0, 0, 0)) := by decide +kernel
theorem sm_a59_7 : sm_at 59 7 = some (.putfield 9, 3, (4, 0, 0, 255)) := by decide +kernel
theorem sm_a59_10 : sm_at 59 10 = some (.aload_n 0, 1, (0, 0, 0, 0)) := by decide +kernel
theorem sm_a59_11 : sm_at 59 11 = some (.iconst 0, 1, (0, 0, 0, 0)) := by decide +kernel
theorem sm_a59_12 : sm_at 59 12 = some (.putfield 15, 3, (4, 3, 0, 259)) := by decide +kernel
theorem sm_a59_15 : sm_at 59 15 = some (.aload_n 0, 1, (0, 0, 0, 0)) := by decide +kernel
theorem sm_a59_16 : sm_at 59 16 = some (.bipush 6, 2, (0, 0, 0, 0)) := by decide +kernel
theorem sm_a59_18 : sm_at 59 18 = some (.anewarray 18, 3, (5, 0, 0, 213)) := by decide +kernel
theorem sm_a59_21 : sm_at 59 21 = some (.putfield 20, 3, (4, 5, 0, 266)) := by decide +kernel
theorem sm_a59_24 : sm_at 59 24 = some (.aload_n 0, 1, (0, 0, 0, 0)) := by decide +kernel
theorem sm_a59_25 : sm_at 59 25 = some (.bipush 64, 2, (0, 0, 0, 0)) := by decide +kernel
theorem sm_a59_27 : sm_at 59 27 = some (.newarray .int, 2, (5, 0, 0, 0)) := by decide +kernel
theorem sm_a59_29 : sm_at 59 29 = some (.putfield 24, 3, (4, 7, 0, 268)) := by decide +kernel
theorem sm_a59_32 : sm_at 59 32 = some (.aload_n 0, 1, (0, 0, 0, 0)) := by decide +kernel
theorem sm_a59_33 : sm_at 59 33 = some (.new 28, 3, (3, 0, 0, 215)) := by decide +kernel
theorem sm_a59_36 : sm_at 59 36 = some (.dup, 1, (0, 0, 0, 0)) := by decide +kernel
theorem sm_a59_37 : sm_at 59 37 = some (.invokespecial 30, 3, (15, 52, 3, 217)) := by decide +kernel
theorem sm_a59_40 : sm_at 59 40 = some (.putfield 31, 3, (4, 8, 0, 270)) := by decide +kernel
theorem sm_a59_43 : sm_at 59 43 = some (.aload_n 0, 1, (0, 0, 0, 0)) := by decide +kernel
theorem sm_a59_44 : sm_at 59 44 = some (.iconst (-1), 1, (0, 0, 0, 0)) := by decide +kernel
theorem sm_a59_45 : sm_at 59 45 = some (.putfield 35, 3, (4, 9, 0, 271)) := by decide +kernel
theorem sm_a59_48 : sm_at 59 48 = some (.aload_n 0, 1, (0, 0, 0, 0)) := by decide +kernel
theorem sm_a59_49 : sm_at 59 49 = some (.new 38, 3, (7, 0, 0, 253)) := by decide +kernel
theorem sm_a59_52 : sm_at 59 52 = some (.dup, 1, (0, 0, 0, 0)) := by decide +kernel
theorem sm_a59_53 : sm_at 59 53 = some (.invokespecial 40, 3, (15, 104, 7, 254)) := by decide +kernel
theorem sm_a59_56 : sm_at 59 56 = some (.putfield 41, 3, (4, 12, 0, 275)) := by decide +kernel
theorem sm_a59_59 : sm_at 59 59 = some (.return_, 1, (0, 0, 0, 0)) := by decide +kernel
theorem bb_59_0 {d : Nat} {M : sm_M} {Q : Option sm_V → sm_M → Prop} {a0 : Nat}
    (h : sm_K M a0 = 15 ∧ sm_K (sm_new (sm_putI (sm_putI M a0 0 8) a0 3 0) 19 (6 : Int32).toNatClampNeg (6 : Int32).toNatClampNeg) a0 = 15 ∧ sm_K (sm_new (sm_putR (sm_new (sm_putI (sm_putI M a0 0 8) a0 3 0) 19 (6 : Int32).toNatClampNeg (6 : Int32).toNatClampNeg) a0 5 (some (sm_N (sm_putI (sm_putI M a0 0 8) a0 3 0)))) 17 (64 : Int32).toNatClampNeg (64 : Int32).toNatClampNeg) a0 = 15 ∧ sm_Run (d + 1) 59 32 [some (.inr (some a0))] [] (sm_putR (sm_new (sm_putR (sm_new (sm_putI (sm_putI M a0 0 8) a0 3 0) 19 (6 : Int32).toNatClampNeg (6 : Int32).toNatClampNeg) a0 5 (some (sm_N (sm_putI (sm_putI M a0 0 8) a0 3 0)))) 17 (64 : Int32).toNatClampNeg (64 : Int32).toNatClampNeg) a0 7 (some (sm_N (sm_putR (sm_new (sm_putI (sm_putI M a0 0 8) a0 3 0) 19 (6 : Int32).toNatClampNeg (6 : Int32).toNatClampNeg) a0 5 (some (sm_N (sm_putI (sm_putI M a0 0 8) a0 3 0))))))) Q) :
    sm_Run (d + 1) 59 0 [some (.inr (some a0))] [] M Q := by
  refine ru_go (t := (1, [some (.inr (some a0))], [.inr (some a0)], M)) sm_a59_0 rfl rfl rfl ?_
  refine ru_go (t := (4, [some (.inr (some a0))], [], M)) sm_a59_1 rfl rfl (st_oi (Nat.le_of_ble_eq_true rfl)) ?_
  refine ru_go (t := (5, [some (.inr (some a0))], [.inr (some a0)], M)) sm_a59_4 rfl rfl rfl ?_
  refine ru_go (t := (7, [some (.inr (some a0))], [.inl 8, .inr (some a0)], M)) sm_a59_5 rfl rfl (st_bipush (by decide)) ?_
  obtain ⟨h_1, h⟩ := h
  refine ru_go (t := (10, [some (.inr (some a0))], [], sm_putI M a0 0 8)) sm_a59_7 rfl rfl (st_putI h_1 rfl) ?_
  refine ru_go (t := (11, [some (.inr (some a0))], [.inr (some a0)], sm_putI M a0 0 8)) sm_a59_10 rfl rfl rfl ?_
  refine ru_go (t := (12, [some (.inr (some a0))], [.inl 0, .inr (some a0)], sm_putI M a0 0 8)) sm_a59_11 rfl rfl (st_iconst (by decide)) ?_
  refine ru_go (t := (15, [some (.inr (some a0))], [], sm_putI (sm_putI M a0 0 8) a0 3 0)) sm_a59_12 rfl rfl (st_putI h_1 rfl) ?_
  refine ru_go (t := (16, [some (.inr (some a0))], [.inr (some a0)], sm_putI (sm_putI M a0 0 8) a0 3 0)) sm_a59_15 rfl rfl rfl ?_
  refine ru_go (t := (18, [some (.inr (some a0))], [.inl 6, .inr (some a0)], sm_putI (sm_putI M a0 0 8) a0 3 0)) sm_a59_16 rfl rfl (st_bipush (by decide)) ?_
  refine ru_go (t := (21, [some (.inr (some a0))], [.inr (some (sm_N (sm_putI (sm_putI M a0 0 8) a0 3 0))), .inr (some a0)], sm_new (sm_putI (sm_putI M a0 0 8) a0 3 0) 19 (6 : Int32).toNatClampNeg (6 : Int32).toNatClampNeg)) sm_a59_18 rfl rfl (st_newq (by decide)) ?_
  obtain ⟨h_2, h⟩ := h
  refine ru_go (t := (24, [some (.inr (some a0))], [], sm_putR (sm_new (sm_putI (sm_putI M a0 0 8) a0 3 0) 19 (6 : Int32).toNatClampNeg (6 : Int32).toNatClampNeg) a0 5 (some (sm_N (sm_putI (sm_putI M a0 0 8) a0 3 0))))) sm_a59_21 rfl rfl (st_putR h_2 rfl) ?_
  refine ru_go (t := (25, [some (.inr (some a0))], [.inr (some a0)], sm_putR (sm_new (sm_putI (sm_putI M a0 0 8) a0 3 0) 19 (6 : Int32).toNatClampNeg (6 : Int32).toNatClampNeg) a0 5 (some (sm_N (sm_putI (sm_putI M a0 0 8) a0 3 0))))) sm_a59_24 rfl rfl rfl ?_
  refine ru_go (t := (27, [some (.inr (some a0))], [.inl 64, .inr (some a0)], sm_putR (sm_new (sm_putI (sm_putI M a0 0 8) a0 3 0) 19 (6 : Int32).toNatClampNeg (6 : Int32).toNatClampNeg) a0 5 (some (sm_N (sm_putI (sm_putI M a0 0 8) a0 3 0))))) sm_a59_25 rfl rfl (st_bipush (by decide)) ?_
  refine ru_go (t := (29, [some (.inr (some a0))], [.inr (some (sm_N (sm_putR (sm_new (sm_putI (sm_putI M a0 0 8) a0 3 0) 19 (6 : Int32).toNatClampNeg (6 : Int32).toNatClampNeg) a0 5 (some (sm_N (sm_putI (sm_putI M a0 0 8) a0 3 0)))))), .inr (some a0)], sm_new (sm_putR (sm_new (sm_putI (sm_putI M a0 0 8) a0 3 0) 19 (6 : Int32).toNatClampNeg (6 : Int32).toNatClampNeg) a0 5 (some (sm_N (sm_putI (sm_putI M a0 0 8) a0 3 0)))) 17 (64 : Int32).toNatClampNeg (64 : Int32).toNatClampNeg)) sm_a59_27 rfl rfl (st_newa (by decide)) ?_
  obtain ⟨h_3, h⟩ := h
  refine ru_go (t := (32, [some (.inr (some a0))], [], sm_putR (sm_new (sm_putR (sm_new (sm_putI (sm_putI M a0 0 8) a0 3 0) 19 (6 : Int32).toNatClampNeg (6 : Int32).toNatClampNeg) a0 5 (some (sm_N (sm_putI (sm_putI M a0 0 8) a0 3 0)))) 17 (64 : Int32).toNatClampNeg (64 : Int32).toNatClampNeg) a0 7 (some (sm_N (sm_putR (sm_new (sm_putI (sm_putI M a0 0 8) a0 3 0) 19 (6 : Int32).toNatClampNeg (6 : Int32).toNatClampNeg) a0 5 (some (sm_N (sm_putI (sm_putI M a0 0 8) a0 3 0)))))))) sm_a59_29 rfl rfl (st_putR h_3 rfl) ?_
  exact h
theorem bb_59_32 {d : Nat} {M : sm_M} {Q : Option sm_V → sm_M → Prop} {a0 : Nat}
    (h : sm_Run d 52 0 (sm_ent 52 [.inr (some (sm_N M))]) [] (sm_new M 12 0 10) (fun v M1 => sm_Run (d + 1) 59 40 [some (.inr (some a0))] (v.toList ++ [.inr (some (sm_N M)), .inr (some a0)]) M1 Q)) :
    sm_Run (d + 1) 59 32 [some (.inr (some a0))] [] M Q := by
  refine ru_go (t := (33, [some (.inr (some a0))], [.inr (some a0)], M)) sm_a59_32 rfl rfl rfl ?_
  refine ru_go (t := (36, [some (.inr (some a0))], [.inr (some (sm_N M)), .inr (some a0)], sm_new M 12 0 10)) sm_a59_33 rfl rfl rfl ?_
  refine ru_go (t := (37, [some (.inr (some a0))], [.inr (some (sm_N M)), .inr (some (sm_N M)), .inr (some a0)], sm_new M 12 0 10)) sm_a59_36 rfl rfl rfl ?_
  exact ru_call (p := 40) sm_a59_37 rfl (sc_spec (Or.inr rfl) rfl rfl (Nat.le_of_ble_eq_true rfl)) rfl h
theorem bb_59_40 {d : Nat} {M : sm_M} {Q : Option sm_V → sm_M → Prop} {a0 : Nat} {t0 : Option Nat} {b1 : Nat}
    (h : sm_K M b1 = 15 ∧ sm_K M a0 = 15 ∧ sm_Run d 104 0 (sm_ent 104 [.inr (some (sm_N (sm_putI (sm_putR M b1 8 t0) a0 9 (-1))))]) [] (sm_new (sm_putI (sm_putR M b1 8 t0) a0 9 (-1)) 24 0 8) (fun v M1 => sm_Run (d + 1) 59 56 [some (.inr (some a0))] (v.toList ++ [.inr (some (sm_N (sm_putI (sm_putR M b1 8 t0) a0 9 (-1)))), .inr (some a0)]) M1 Q)) :
    sm_Run (d + 1) 59 40 [some (.inr (some a0))] [.inr t0, .inr (some b1)] M Q := by
  obtain ⟨h_1, h⟩ := h
  refine ru_go (t := (43, [some (.inr (some a0))], [], sm_putR M b1 8 t0)) sm_a59_40 rfl rfl (st_putR h_1 rfl) ?_
  refine ru_go (t := (44, [some (.inr (some a0))], [.inr (some a0)], sm_putR M b1 8 t0)) sm_a59_43 rfl rfl rfl ?_
  refine ru_go (t := (45, [some (.inr (some a0))], [.inl (-1), .inr (some a0)], sm_putR M b1 8 t0)) sm_a59_44 rfl rfl (st_iconst (by decide)) ?_
  obtain ⟨h_2, h⟩ := h
  refine ru_go (t := (48, [some (.inr (some a0))], [], sm_putI (sm_putR M b1 8 t0) a0 9 (-1))) sm_a59_45 rfl rfl (st_putI h_2 rfl) ?_
  refine ru_go (t := (49, [some (.inr (some a0))], [.inr (some a0)], sm_putI (sm_putR M b1 8 t0) a0 9 (-1))) sm_a59_48 rfl rfl rfl ?_
  refine ru_go (t := (52, [some (.inr (some a0))], [.inr (some (sm_N (sm_putI (sm_putR M b1 8 t0) a0 9 (-1)))), .inr (some a0)], sm_new (sm_putI (sm_putR M b1 8 t0) a0 9 (-1)) 24 0 8)) sm_a59_49 rfl rfl rfl ?_
  refine ru_go (t := (53, [some (.inr (some a0))], [.inr (some (sm_N (sm_putI (sm_putR M b1 8 t0) a0 9 (-1)))), .inr (some (sm_N (sm_putI (sm_putR M b1 8 t0) a0 9 (-1)))), .inr (some a0)], sm_new (sm_putI (sm_putR M b1 8 t0) a0 9 (-1)) 24 0 8)) sm_a59_52 rfl rfl rfl ?_
  exact ru_call (p := 56) sm_a59_53 rfl (sc_spec (Or.inr rfl) rfl rfl (Nat.le_of_ble_eq_true rfl)) rfl h
theorem bb_59_56 {d : Nat} {M : sm_M} {Q : Option sm_V → sm_M → Prop} {a0 : Nat} {t0 : Option Nat} {b1 : Nat}
    (h : sm_K M b1 = 15 ∧ Q none (sm_putR M b1 12 t0)) :
    sm_Run (d + 1) 59 56 [some (.inr (some a0))] [.inr t0, .inr (some b1)] M Q := by
  obtain ⟨h_1, h⟩ := h
  refine ru_go (t := (59, [some (.inr (some a0))], [], sm_putR M b1 12 t0)) sm_a59_56 rfl rfl (st_putR h_1 rfl) ?_
  exact ru_ret sm_a59_59 (sm_rvv rfl) h

/-! WireBus$Device.become:(III)V -/
theorem sm_a60_0 : sm_at 60 0 = some (.aload_n 0, 1, (0, 0, 0, 0)) := by decide +kernel
theorem sm_a60_1 : sm_at 60 1 = some (.iload_n 1, 1, (0, 0, 0, 0)) := by decide +kernel
theorem sm_a60_2 : sm_at 60 2 = some (.putfield 9, 3, (4, 0, 0, 255)) := by decide +kernel
theorem sm_a60_5 : sm_at 60 5 = some (.aload_n 0, 1, (0, 0, 0, 0)) := by decide +kernel
theorem sm_a60_6 : sm_at 60 6 = some (.iload_n 2, 1, (0, 0, 0, 0)) := by decide +kernel
theorem sm_a60_7 : sm_at 60 7 = some (.putfield 45, 3, (4, 1, 0, 257)) := by decide +kernel
theorem sm_a60_10 : sm_at 60 10 = some (.aload_n 0, 1, (0, 0, 0, 0)) := by decide +kernel
theorem sm_a60_11 : sm_at 60 11 = some (.iload_n 3, 1, (0, 0, 0, 0)) := by decide +kernel
theorem sm_a60_12 : sm_at 60 12 = some (.putfield 48, 3, (4, 2, 0, 258)) := by decide +kernel
theorem sm_a60_15 : sm_at 60 15 = some (.aload_n 0, 1, (0, 0, 0, 0)) := by decide +kernel
theorem sm_a60_16 : sm_at 60 16 = some (.iconst 0, 1, (0, 0, 0, 0)) := by decide +kernel
theorem sm_a60_17 : sm_at 60 17 = some (.putfield 51, 3, (4, 6, 0, 267)) := by decide +kernel
theorem sm_a60_20 : sm_at 60 20 = some (.iconst 0, 1, (0, 0, 0, 0)) := by decide +kernel
theorem sm_a60_21 : sm_at 60 21 = some (.istore 4, 2, (0, 0, 0, 0)) := by decide +kernel
theorem sm_a60_23 : sm_at 60 23 = some (.iload 4, 2, (0, 0, 0, 0)) := by decide +kernel
theorem sm_a60_25 : sm_at 60 25 = some (.aload_n 0, 1, (0, 0, 0, 0)) := by decide +kernel
theorem sm_a60_26 : sm_at 60 26 = some (.getfield 24, 3, (4, 7, 0, 268)) := by decide +kernel
theorem sm_a60_29 : sm_at 60 29 = some (.arraylength, 1, (0, 0, 0, 0)) := by decide +kernel
theorem sm_a60_30 : sm_at 60 30 = some (.if_icmp .ge 17, 3, (0, 0, 0, 0)) := by decide +kernel
theorem sm_a60_33 : sm_at 60 33 = some (.aload_n 0, 1, (0, 0, 0, 0)) := by decide +kernel
theorem sm_a60_34 : sm_at 60 34 = some (.getfield 24, 3, (4, 7, 0, 268)) := by decide +kernel
theorem sm_a60_37 : sm_at 60 37 = some (.iload 4, 2, (0, 0, 0, 0)) := by decide +kernel
theorem sm_a60_39 : sm_at 60 39 = some (.iconst 0, 1, (0, 0, 0, 0)) := by decide +kernel
theorem sm_a60_40 : sm_at 60 40 = some (.iastore, 1, (0, 0, 0, 0)) := by decide +kernel
theorem sm_a60_41 : sm_at 60 41 = some (.iinc 4 1, 3, (0, 0, 0, 0)) := by decide +kernel
theorem sm_a60_44 : sm_at 60 44 = some (.goto (-21), 3, (0, 0, 0, 0)) := by decide +kernel
theorem sm_a60_47 : sm_at 60 47 = some (.return_, 1, (0, 0, 0, 0)) := by decide +kernel
theorem bb_60_0 {d : Nat} {M : sm_M} {Q : Option sm_V → sm_M → Prop} {a0 : Nat} {x1 : Int32} {x2 : Int32} {x3 : Int32} {z4 : Option sm_V}
    (h : sm_K M a0 = 15 ∧ sm_Run d 60 23 [some (.inr (some a0)), some (.inl x1), some (.inl x2), some (.inl x3), some (.inl 0)] [] (sm_putI (sm_putI (sm_putI (sm_putI M a0 0 x1) a0 1 x2) a0 2 x3) a0 6 0) Q) :
    sm_Run d 60 0 [some (.inr (some a0)), some (.inl x1), some (.inl x2), some (.inl x3), z4] [] M Q := by
  refine ru_go (t := (1, [some (.inr (some a0)), some (.inl x1), some (.inl x2), some (.inl x3), z4], [.inr (some a0)], M)) sm_a60_0 rfl rfl rfl ?_
  refine ru_go (t := (2, [some (.inr (some a0)), some (.inl x1), some (.inl x2), some (.inl x3), z4], [.inl x1, .inr (some a0)], M)) sm_a60_1 rfl rfl rfl ?_
  obtain ⟨h_1, h⟩ := h
  refine ru_go (t := (5, [some (.inr (some a0)), some (.inl x1), some (.inl x2), some (.inl x3), z4], [], sm_putI M a0 0 x1)) sm_a60_2 rfl rfl (st_putI h_1 rfl) ?_
  refine ru_go (t := (6, [some (.inr (some a0)), some (.inl x1), some (.inl x2), some (.inl x3), z4], [.inr (some a0)], sm_putI M a0 0 x1)) sm_a60_5 rfl rfl rfl ?_
  refine ru_go (t := (7, [some (.inr (some a0)), some (.inl x1), some (.inl x2), some (.inl x3), z4], [.inl x2, .inr (some a0)], sm_putI M a0 0 x1)) sm_a60_6 rfl rfl rfl ?_
  refine ru_go (t := (10, [some (.inr (some a0)), some (.inl x1), some (.inl x2), some (.inl x3), z4], [], sm_putI (sm_putI M a0 0 x1) a0 1 x2)) sm_a60_7 rfl rfl (st_putI h_1 rfl) ?_
  refine ru_go (t := (11, [some (.inr (some a0)), some (.inl x1), some (.inl x2), some (.inl x3), z4], [.inr (some a0)], sm_putI (sm_putI M a0 0 x1) a0 1 x2)) sm_a60_10 rfl rfl rfl ?_
  refine ru_go (t := (12, [some (.inr (some a0)), some (.inl x1), some (.inl x2), some (.inl x3), z4], [.inl x3, .inr (some a0)], sm_putI (sm_putI M a0 0 x1) a0 1 x2)) sm_a60_11 rfl rfl rfl ?_
  refine ru_go (t := (15, [some (.inr (some a0)), some (.inl x1), some (.inl x2), some (.inl x3), z4], [], sm_putI (sm_putI (sm_putI M a0 0 x1) a0 1 x2) a0 2 x3)) sm_a60_12 rfl rfl (st_putI h_1 rfl) ?_
  refine ru_go (t := (16, [some (.inr (some a0)), some (.inl x1), some (.inl x2), some (.inl x3), z4], [.inr (some a0)], sm_putI (sm_putI (sm_putI M a0 0 x1) a0 1 x2) a0 2 x3)) sm_a60_15 rfl rfl rfl ?_
  refine ru_go (t := (17, [some (.inr (some a0)), some (.inl x1), some (.inl x2), some (.inl x3), z4], [.inl 0, .inr (some a0)], sm_putI (sm_putI (sm_putI M a0 0 x1) a0 1 x2) a0 2 x3)) sm_a60_16 rfl rfl (st_iconst (by decide)) ?_
  refine ru_go (t := (20, [some (.inr (some a0)), some (.inl x1), some (.inl x2), some (.inl x3), z4], [], sm_putI (sm_putI (sm_putI (sm_putI M a0 0 x1) a0 1 x2) a0 2 x3) a0 6 0)) sm_a60_17 rfl rfl (st_putI h_1 rfl) ?_
  refine ru_go (t := (21, [some (.inr (some a0)), some (.inl x1), some (.inl x2), some (.inl x3), z4], [.inl 0], sm_putI (sm_putI (sm_putI (sm_putI M a0 0 x1) a0 1 x2) a0 2 x3) a0 6 0)) sm_a60_20 rfl rfl (st_iconst (by decide)) ?_
  refine ru_go (t := (23, [some (.inr (some a0)), some (.inl x1), some (.inl x2), some (.inl x3), some (.inl 0)], [], sm_putI (sm_putI (sm_putI (sm_putI M a0 0 x1) a0 1 x2) a0 2 x3) a0 6 0)) sm_a60_21 rfl rfl rfl ?_
  exact h
theorem bb_60_23 {d : Nat} {M : sm_M} {Q : Option sm_V → sm_M → Prop} {a0 : Nat} {x1 : Int32} {x2 : Int32} {x3 : Int32} {x4 : Int32}
    (h : sm_K M a0 = 15 ∧ ∃ b_2, sm_R M a0 7 = some b_2 ∧ (1 ≤ sm_K M b_2 ∧ sm_K M b_2 % 3 ≠ 0) ∧ (((Int32.ofNat (sm_L M b_2)) ≤ x4 → Q none M) ∧ (¬ ((Int32.ofNat (sm_L M b_2)) ≤ x4) → ∃ b_6, sm_R M a0 7 = some b_6 ∧ sm_wA 0 M b_6 ∧ sm_in_ M b_6 x4 ∧ sm_Run d 60 23 [some (.inr (some a0)), some (.inl x1), some (.inl x2), some (.inl x3), some (.inl (x4 + 1))] [] (sm_putI M b_6 (x4).toNatClampNeg 0) Q))) :
    sm_Run d 60 23 [some (.inr (some a0)), some (.inl x1), some (.inl x2), some (.inl x3), some (.inl x4)] [] M Q := by
  refine ru_go (t := (25, [some (.inr (some a0)), some (.inl x1), some (.inl x2), some (.inl x3), some (.inl x4)], [.inl x4], M)) sm_a60_23 rfl rfl rfl ?_
  refine ru_go (t := (26, [some (.inr (some a0)), some (.inl x1), some (.inl x2), some (.inl x3), some (.inl x4)], [.inr (some a0), .inl x4], M)) sm_a60_25 rfl rfl rfl ?_
  obtain ⟨h_1, h⟩ := h
  refine ru_go (t := (29, [some (.inr (some a0)), some (.inl x1), some (.inl x2), some (.inl x3), some (.inl x4)], [.inr (sm_R M a0 7), .inl x4], M)) sm_a60_26 rfl rfl (st_getR h_1 rfl rfl) ?_
  obtain ⟨b_2, hb_3, h⟩ := h
  rw [hb_3]
  obtain ⟨h_4, h⟩ := h
  refine ru_go (t := (30, [some (.inr (some a0)), some (.inl x1), some (.inl x2), some (.inl x3), some (.inl x4)], [.inl (Int32.ofNat (sm_L M b_2)), .inl x4], M)) sm_a60_29 rfl rfl (st_alen h_4) ?_
  refine ru_icmp (pc := 30) (p := 47) (p2 := 33) sm_a60_30 (by decide) rfl ⟨fun hc_5 => ?_, fun hc_5 => ?_⟩
  · have h := h.1 hc_5
    exact ru_ret sm_a60_47 (sm_rvv rfl) h
  · have h := h.2 hc_5
    refine ru_go (t := (34, [some (.inr (some a0)), some (.inl x1), some (.inl x2), some (.inl x3), some (.inl x4)], [.inr (some a0)], M)) sm_a60_33 rfl rfl rfl ?_
    refine ru_go (t := (37, [some (.inr (some a0)), some (.inl x1), some (.inl x2), some (.inl x3), some (.inl x4)], [.inr (sm_R M a0 7)], M)) sm_a60_34 rfl rfl (st_getR h_1 rfl rfl) ?_
    refine ru_go (t := (39, [some (.inr (some a0)), some (.inl x1), some (.inl x2), some (.inl x3), some (.inl x4)], [.inl x4, .inr (sm_R M a0 7)], M)) sm_a60_37 rfl rfl rfl ?_
    refine ru_go (t := (40, [some (.inr (some a0)), some (.inl x1), some (.inl x2), some (.inl x3), some (.inl x4)], [.inl 0, .inl x4, .inr (sm_R M a0 7)], M)) sm_a60_39 rfl rfl (st_iconst (by decide)) ?_
    obtain ⟨b_6, hb_7, h⟩ := h
    rw [hb_7]
    obtain ⟨h_8, h⟩ := h
    obtain ⟨h_9, h⟩ := h
    refine ru_go (t := (41, [some (.inr (some a0)), some (.inl x1), some (.inl x2), some (.inl x3), some (.inl x4)], [], sm_putI M b_6 (x4).toNatClampNeg 0)) sm_a60_40 rfl rfl (st_iast h_8 h_9) ?_
    refine ru_go (t := (44, [some (.inr (some a0)), some (.inl x1), some (.inl x2), some (.inl x3), some (.inl (x4 + 1))], [], sm_putI M b_6 (x4).toNatClampNeg 0)) sm_a60_41 rfl rfl (st_iinc rfl (by decide)) ?_
    refine ru_go (t := (23, [some (.inr (some a0)), some (.inl x1), some (.inl x2), some (.inl x3), some (.inl (x4 + 1))], [], sm_putI M b_6 (x4).toNatClampNeg 0)) sm_a60_44 rfl rfl (st_goto (pc := 44) (by decide)) ?_
    exact h

/-! WireBus$Device.addEndpoint:(III)Z -/
theorem sm_a61_0 : sm_at 61 0 = some (.aload_n 0, 1, (0, 0, 0, 0)) := by decide +kernel
theorem sm_a61_1 : sm_at 61 1 = some (.getfield 51, 3, (4, 6, 0, 267)) := by decide +kernel
theorem sm_a61_4 : sm_at 61 4 = some (.bipush 6, 2, (0, 0, 0, 0)) := by decide +kernel
theorem sm_a61_6 : sm_at 61 6 = some (.if_icmp .ge 11, 3, (0, 0, 0, 0)) := by decide +kernel
theorem sm_a61_9 : sm_at 61 9 = some (.aload_n 0, 1, (0, 0, 0, 0)) := by decide +kernel
theorem sm_a61_10 : sm_at 61 10 = some (.iload_n 1, 1, (0, 0, 0, 0)) := by decide +kernel
theorem sm_a61_11 : sm_at 61 11 = some (.invokevirtual 54, 3, (10, 62, 4, 527)) := by decide +kernel
theorem sm_a61_14 : sm_at 61 14 = some (.ifnull 5, 3, (0, 0, 0, 0)) := by decide +kernel
theorem sm_a61_17 : sm_at 61 17 = some (.iconst 0, 1, (0, 0, 0, 0)) := by decide +kernel
theorem sm_a61_18 : sm_at 61 18 = some (.ireturn, 1, (0, 0, 0, 0)) := by decide +kernel
theorem sm_a61_19 : sm_at 61 19 = some (.aload_n 0, 1, (0, 0, 0, 0)) := by decide +kernel
theorem sm_a61_20 : sm_at 61 20 = some (.getfield 20, 3, (4, 5, 0, 266)) := by decide +kernel
theorem sm_a61_23 : sm_at 61 23 = some (.aload_n 0, 1, (0, 0, 0, 0)) := by decide +kernel
theorem sm_a61_24 : sm_at 61 24 = some (.getfield 51, 3, (4, 6, 0, 267)) := by decide +kernel
theorem sm_a61_27 : sm_at 61 27 = some (.aaload, 1, (0, 0, 0, 0)) := by decide +kernel
theorem sm_a61_28 : sm_at 61 28 = some (.ifnonnull 19, 3, (0, 0, 0, 0)) := by decide +kernel
theorem sm_a61_31 : sm_at 61 31 = some (.aload_n 0, 1, (0, 0, 0, 0)) := by decide +kernel
theorem sm_a61_32 : sm_at 61 32 = some (.getfield 20, 3, (4, 5, 0, 266)) := by decide +kernel
theorem sm_a61_35 : sm_at 61 35 = some (.aload_n 0, 1, (0, 0, 0, 0)) := by decide +kernel
theorem sm_a61_36 : sm_at 61 36 = some (.getfield 51, 3, (4, 6, 0, 267)) := by decide +kernel
theorem sm_a61_39 : sm_at 61 39 = some (.new 18, 3, (5, 0, 0, 213)) := by decide +kernel
theorem sm_a61_42 : sm_at 61 42 = some (.dup, 1, (0, 0, 0, 0)) := by decide +kernel
theorem sm_a61_43 : sm_at 61 43 = some (.invokespecial 58, 3, (15, 78, 5, 532)) := by decide +kernel
theorem sm_a61_46 : sm_at 61 46 = some (.aastore, 1, (0, 0, 0, 0)) := by decide +kernel
theorem sm_a61_47 : sm_at 61 47 = some (.aload_n 0, 1, (0, 0, 0, 0)) := by decide +kernel
theorem sm_a61_48 : sm_at 61 48 = some (.getfield 20, 3, (4, 5, 0, 266)) := by decide +kernel
theorem sm_a61_51 : sm_at 61 51 = some (.aload_n 0, 1, (0, 0, 0, 0)) := by decide +kernel
theorem sm_a61_52 : sm_at 61 52 = some (.getfield 51, 3, (4, 6, 0, 267)) := by decide +kernel
theorem sm_a61_55 : sm_at 61 55 = some (.aaload, 1, (0, 0, 0, 0)) := by decide +kernel
theorem sm_a61_56 : sm_at 61 56 = some (.iload_n 1, 1, (0, 0, 0, 0)) := by decide +kernel
theorem sm_a61_57 : sm_at 61 57 = some (.iload_n 2, 1, (0, 0, 0, 0)) := by decide +kernel
theorem sm_a61_58 : sm_at 61 58 = some (.iload_n 3, 1, (0, 0, 0, 0)) := by decide +kernel
theorem sm_a61_59 : sm_at 61 59 = some (.invokevirtual 59, 3, (10, 79, 5, 568)) := by decide +kernel
theorem sm_a61_62 : sm_at 61 62 = some (.aload_n 0, 1, (0, 0, 0, 0)) := by decide +kernel
theorem sm_a61_63 : sm_at 61 63 = some (.dup, 1, (0, 0, 0, 0)) := by decide +kernel
theorem sm_a61_64 : sm_at 61 64 = some (.getfield 51, 3, (4, 6, 0, 267)) := by decide +kernel
theorem sm_a61_67 : sm_at 61 67 = some (.iconst 1, 1, (0, 0, 0, 0)) := by decide +kernel
theorem sm_a61_68 : sm_at 61 68 = some (.iadd, 1, (0, 0, 0, 0)) := by decide +kernel
theorem sm_a61_69 : sm_at 61 69 = some (.putfield 51, 3, (4, 6, 0, 267)) := by decide +kernel
theorem sm_a61_72 : sm_at 61 72 = some (.iconst 1, 1, (0, 0, 0, 0)) := by decide +kernel
theorem sm_a61_73 : sm_at 61 73 = some (.ireturn, 1, (0, 0, 0, 0)) := by decide +kernel
theorem bb_61_0 {d : Nat} {M : sm_M} {Q : Option sm_V → sm_M → Prop} {a0 : Nat} {x1 : Int32} {x2 : Int32} {x3 : Int32}
    (h : sm_K M a0 = 15 ∧ ((6 ≤ (sm_I M a0 6) → Q (some (.inl 0)) M) ∧ (¬ (6 ≤ (sm_I M a0 6)) → sm_Run d 62 0 (sm_ent 62 [.inr (some a0), .inl x1]) [] M (fun v M1 => sm_Run (d + 1) 61 14 [some (.inr (some a0)), some (.inl x1), some (.inl x2), some (.inl x3)] (v.toList ++ []) M1 Q)))) :
    sm_Run (d + 1) 61 0 [some (.inr (some a0)), some (.inl x1), some (.inl x2), some (.inl x3)] [] M Q := by
  refine ru_go (t := (1, [some (.inr (some a0)), some (.inl x1), some (.inl x2), some (.inl x3)], [.inr (some a0)], M)) sm_a61_0 rfl rfl rfl ?_
  obtain ⟨h_1, h⟩ := h
  refine ru_go (t := (4, [some (.inr (some a0)), some (.inl x1), some (.inl x2), some (.inl x3)], [.inl (sm_I M a0 6)], M)) sm_a61_1 rfl rfl (st_getI h_1 rfl) ?_
  refine ru_go (t := (6, [some (.inr (some a0)), some (.inl x1), some (.inl x2), some (.inl x3)], [.inl 6, .inl (sm_I M a0 6)], M)) sm_a61_4 rfl rfl (st_bipush (by decide)) ?_
  refine ru_icmp (pc := 6) (p := 17) (p2 := 9) sm_a61_6 (by decide) rfl ⟨fun hc_2 => ?_, fun hc_2 => ?_⟩
  · have h := h.1 hc_2
    refine ru_go (t := (18, [some (.inr (some a0)), some (.inl x1), some (.inl x2), some (.inl x3)], [.inl 0], M)) sm_a61_17 rfl rfl (st_iconst (by decide)) ?_
    exact ru_ret sm_a61_18 (sm_rvz rfl (by decide)) h
  · have h := h.2 hc_2
    refine ru_go (t := (10, [some (.inr (some a0)), some (.inl x1), some (.inl x2), some (.inl x3)], [.inr (some a0)], M)) sm_a61_9 rfl rfl rfl ?_
    refine ru_go (t := (11, [some (.inr (some a0)), some (.inl x1), some (.inl x2), some (.inl x3)], [.inl x1, .inr (some a0)], M)) sm_a61_10 rfl rfl rfl ?_
    exact ru_call (p := 14) sm_a61_11 rfl (sc_virt (Or.inl rfl) rfl rfl h_1 (Nat.le_of_ble_eq_true rfl)) rfl h
theorem bb_61_14 {d : Nat} {M : sm_M} {Q : Option sm_V → sm_M → Prop} {a0 : Nat} {x1 : Int32} {x2 : Int32} {x3 : Int32} {t0 : Option Nat}
    (h : ((t0 = none → sm_K M a0 = 15 ∧ ∃ b_4, sm_R M a0 5 = some b_4 ∧ (∃ ci, sm_K M b_4 = 4 + 3 * ci) ∧ sm_in_ M b_4 (sm_I M a0 6) ∧ ((sm_R M b_4 (sm_I M a0 6).toNatClampNeg = none → sm_Run d 78 0 (sm_ent 78 [.inr (some (sm_N M))]) [] (sm_new M 18 0 7) (fun v M1 => sm_Run (d + 1) 61 46 [some (.inr (some a0)), some (.inl x1), some (.inl x2), some (.inl x3)] (v.toList ++ [.inr (some (sm_N M)), .inl (sm_I M a0 6), .inr (sm_R M a0 5)]) M1 Q)) ∧ (∀ b_8, sm_R M b_4 (sm_I M a0 6).toNatClampNeg = some b_8 → sm_Run (d + 1) 61 47 [some (.inr (some a0)), some (.inl x1), some (.inl x2), some (.inl x3)] [] M Q))) ∧ (∀ b_1, t0 = some b_1 → Q (some (.inl 0)) M))) :
    sm_Run (d + 1) 61 14 [some (.inr (some a0)), some (.inl x1), some (.inl x2), some (.inl x3)] [.inr t0] M Q := by
  refine ru_ifnull (pc := 14) (p := 19) (p2 := 17) sm_a61_14 (by decide) rfl ⟨fun hc => ?_, fun b_1 hc => ?_⟩
  · have h := h.1 hc
    try rw [hc]
    refine ru_go (t := (20, [some (.inr (some a0)), some (.inl x1), some (.inl x2), some (.inl x3)], [.inr (some a0)], M)) sm_a61_19 rfl rfl rfl ?_
    obtain ⟨h_3, h⟩ := h
    refine ru_go (t := (23, [some (.inr (some a0)), some (.inl x1), some (.inl x2), some (.inl x3)], [.inr (sm_R M a0 5)], M)) sm_a61_20 rfl rfl (st_getR h_3 rfl rfl) ?_
    refine ru_go (t := (24, [some (.inr (some a0)), some (.inl x1), some (.inl x2), some (.inl x3)], [.inr (some a0), .inr (sm_R M a0 5)], M)) sm_a61_23 rfl rfl rfl ?_
    refine ru_go (t := (27, [some (.inr (some a0)), some (.inl x1), some (.inl x2), some (.inl x3)], [.inl (sm_I M a0 6), .inr (sm_R M a0 5)], M)) sm_a61_24 rfl rfl (st_getI h_3 rfl) ?_
    obtain ⟨b_4, hb_5, h⟩ := h
    rw [hb_5]
    obtain ⟨h_6, h⟩ := h
    obtain ⟨h_7, h⟩ := h
    refine ru_go (t := (28, [some (.inr (some a0)), some (.inl x1), some (.inl x2), some (.inl x3)], [.inr (sm_R M b_4 (sm_I M a0 6).toNatClampNeg)], M)) sm_a61_27 rfl rfl (st_aald h_6.choose_spec h_7 rfl) ?_
    refine ru_ifnonnull (pc := 28) (p := 47) (p2 := 31) sm_a61_28 (by decide) rfl ⟨fun b_8 hc => ?_, fun hc => ?_⟩
    · have h := h.2 b_8 hc
      try rw [hc]
      exact h
    · have h := h.1 hc
      try rw [hc]
      refine ru_go (t := (32, [some (.inr (some a0)), some (.inl x1), some (.inl x2), some (.inl x3)], [.inr (some a0)], M)) sm_a61_31 rfl rfl rfl ?_
      refine ru_go (t := (35, [some (.inr (some a0)), some (.inl x1), some (.inl x2), some (.inl x3)], [.inr (sm_R M a0 5)], M)) sm_a61_32 rfl rfl (st_getR h_3 rfl rfl) ?_
      refine ru_go (t := (36, [some (.inr (some a0)), some (.inl x1), some (.inl x2), some (.inl x3)], [.inr (some a0), .inr (sm_R M a0 5)], M)) sm_a61_35 rfl rfl rfl ?_
      refine ru_go (t := (39, [some (.inr (some a0)), some (.inl x1), some (.inl x2), some (.inl x3)], [.inl (sm_I M a0 6), .inr (sm_R M a0 5)], M)) sm_a61_36 rfl rfl (st_getI h_3 rfl) ?_
      refine ru_go (t := (42, [some (.inr (some a0)), some (.inl x1), some (.inl x2), some (.inl x3)], [.inr (some (sm_N M)), .inl (sm_I M a0 6), .inr (sm_R M a0 5)], sm_new M 18 0 7)) sm_a61_39 rfl rfl rfl ?_
      refine ru_go (t := (43, [some (.inr (some a0)), some (.inl x1), some (.inl x2), some (.inl x3)], [.inr (some (sm_N M)), .inr (some (sm_N M)), .inl (sm_I M a0 6), .inr (sm_R M a0 5)], sm_new M 18 0 7)) sm_a61_42 rfl rfl rfl ?_
      exact ru_call (p := 46) sm_a61_43 rfl (sc_spec (Or.inr rfl) rfl rfl (Nat.le_of_ble_eq_true rfl)) rfl h
  · have h := h.2 b_1 hc
    try rw [hc]
    refine ru_go (t := (18, [some (.inr (some a0)), some (.inl x1), some (.inl x2), some (.inl x3)], [.inl 0], M)) sm_a61_17 rfl rfl (st_iconst (by decide)) ?_
    exact ru_ret sm_a61_18 (sm_rvz rfl (by decide)) h
theorem bb_61_46 {d : Nat} {M : sm_M} {Q : Option sm_V → sm_M → Prop} {a0 : Nat} {x1 : Int32} {x2 : Int32} {x3 : Int32} {t0 : Option Nat} {y1 : Int32} {t2 : Option Nat}
    (h : ∃ b_1, t2 = some b_1 ∧ (∃ ci, sm_K M b_1 = 4 + 3 * ci ∧ sm_grp (4 + 3 * ci) = 0 ∧ ∀ q, t0 = some q → sm_K M q = 3 + 3 * ci) ∧ sm_in_ M b_1 y1 ∧ sm_Run (d + 1) 61 47 [some (.inr (some a0)), some (.inl x1), some (.inl x2), some (.inl x3)] [] (sm_putR M b_1 (y1).toNatClampNeg t0) Q) :
    sm_Run (d + 1) 61 46 [some (.inr (some a0)), some (.inl x1), some (.inl x2), some (.inl x3)] [.inr t0, .inl y1, .inr t2] M Q := by
  obtain ⟨b_1, hb_2, h⟩ := h
  rw [hb_2]
  obtain ⟨⟨ci_4, h_3, h_5, h_6⟩, h⟩ := h
  obtain ⟨h_7, h⟩ := h
  refine ru_go (t := (47, [some (.inr (some a0)), some (.inl x1), some (.inl x2), some (.inl x3)], [], sm_putR M b_1 (y1).toNatClampNeg t0)) sm_a61_46 rfl rfl (st_aast h_3 h_5 h_7 h_6) ?_
  exact h
theorem bb_61_47 {d : Nat} {M : sm_M} {Q : Option sm_V → sm_M → Prop} {a0 : Nat} {x1 : Int32} {x2 : Int32} {x3 : Int32}
    (h : sm_K M a0 = 15 ∧ ∃ b_2, sm_R M a0 5 = some b_2 ∧ (∃ ci, sm_K M b_2 = 4 + 3 * ci) ∧ sm_in_ M b_2 (sm_I M a0 6) ∧ ∃ b_6, sm_R M b_2 (sm_I M a0 6).toNatClampNeg = some b_6 ∧ sm_K M b_6 = 18 ∧ sm_Run d 79 0 (sm_ent 79 [.inr (some b_6), .inl x1, .inl x2, .inl x3]) [] M (fun v M1 => sm_Run (d + 1) 61 62 [some (.inr (some a0)), some (.inl x1), some (.inl x2), some (.inl x3)] (v.toList ++ []) M1 Q)) :
    sm_Run (d + 1) 61 47 [some (.inr (some a0)), some (.inl x1), some (.inl x2), some (.inl x3)] [] M Q := by
  refine ru_go (t := (48, [some (.inr (some a0)), some (.inl x1), some (.inl x2), some (.inl x3)], [.inr (some a0)], M)) sm_a61_47 rfl rfl rfl ?_
  obtain ⟨h_1, h⟩ := h
  refine ru_go (t := (51, [some (.inr (some a0)), some (.inl x1), some (.inl x2), some (.inl x3)], [.inr (sm_R M a0 5)], M)) sm_a61_48 rfl rfl (st_getR h_1 rfl rfl) ?_
  refine ru_go (t := (52, [some (.inr (some a0)), some (.inl x1), some (.inl x2), some (.inl x3)], [.inr (some a0), .inr (sm_R M a0 5)], M)) sm_a61_51 rfl rfl rfl ?_
  refine ru_go (t := (55, [some (.inr (some a0)), some (.inl x1), some (.inl x2), some (.inl x3)], [.inl (sm_I M a0 6), .inr (sm_R M a0 5)], M)) sm_a61_52 rfl rfl (st_getI h_1 rfl) ?_
  obtain ⟨b_2, hb_3, h⟩ := h
  rw [hb_3]
  obtain ⟨h_4, h⟩ := h
  obtain ⟨h_5, h⟩ := h
  refine ru_go (t := (56, [some (.inr (some a0)), some (.inl x1), some (.inl x2), some (.inl x3)], [.inr (sm_R M b_2 (sm_I M a0 6).toNatClampNeg)], M)) sm_a61_55 rfl rfl (st_aald h_4.choose_spec h_5 rfl) ?_
  refine ru_go (t := (57, [some (.inr (some a0)), some (.inl x1), some (.inl x2), some (.inl x3)], [.inl x1, .inr (sm_R M b_2 (sm_I M a0 6).toNatClampNeg)], M)) sm_a61_56 rfl rfl rfl ?_
  refine ru_go (t := (58, [some (.inr (some a0)), some (.inl x1), some (.inl x2), some (.inl x3)], [.inl x2, .inl x1, .inr (sm_R M b_2 (sm_I M a0 6).toNatClampNeg)], M)) sm_a61_57 rfl rfl rfl ?_
  refine ru_go (t := (59, [some (.inr (some a0)), some (.inl x1), some (.inl x2), some (.inl x3)], [.inl x3, .inl x2, .inl x1, .inr (sm_R M b_2 (sm_I M a0 6).toNatClampNeg)], M)) sm_a61_58 rfl rfl rfl ?_
  obtain ⟨b_6, hb_7, h⟩ := h
  rw [hb_7]
  obtain ⟨h_8, h⟩ := h
  exact ru_call (p := 62) sm_a61_59 rfl (sc_virt (Or.inl rfl) rfl rfl h_8 (Nat.le_of_ble_eq_true rfl)) rfl h
theorem bb_61_62 {d : Nat} {M : sm_M} {Q : Option sm_V → sm_M → Prop} {a0 : Nat} {x1 : Int32} {x2 : Int32} {x3 : Int32}
    (h : sm_K M a0 = 15 ∧ Q (some (.inl 1)) (sm_putI M a0 6 ((sm_I M a0 6) + 1))) :
    sm_Run (d + 1) 61 62 [some (.inr (some a0)), some (.inl x1), some (.inl x2), some (.inl x3)] [] M Q := by
  refine ru_go (t := (63, [some (.inr (some a0)), some (.inl x1), some (.inl x2), some (.inl x3)], [.inr (some a0)], M)) sm_a61_62 rfl rfl rfl ?_
  refine ru_go (t := (64, [some (.inr (some a0)), some (.inl x1), some (.inl x2), some (.inl x3)], [.inr (some a0), .inr (some a0)], M)) sm_a61_63 rfl rfl rfl ?_
  obtain ⟨h_1, h⟩ := h
  refine ru_go (t := (67, [some (.inr (some a0)), some (.inl x1), some (.inl x2), some (.inl x3)], [.inl (sm_I M a0 6), .inr (some a0)], M)) sm_a61_64 rfl rfl (st_getI h_1 rfl) ?_
  refine ru_go (t := (68, [some (.inr (some a0)), some (.inl x1), some (.inl x2), some (.inl x3)], [.inl 1, .inl (sm_I M a0 6), .inr (some a0)], M)) sm_a61_67 rfl rfl (st_iconst (by decide)) ?_
  refine ru_go (t := (69, [some (.inr (some a0)), some (.inl x1), some (.inl x2), some (.inl x3)], [.inl ((sm_I M a0 6) + 1), .inr (some a0)], M)) sm_a61_68 rfl rfl rfl ?_
  refine ru_go (t := (72, [some (.inr (some a0)), some (.inl x1), some (.inl x2), some (.inl x3)], [], sm_putI M a0 6 ((sm_I M a0 6) + 1))) sm_a61_69 rfl rfl (st_putI h_1 rfl) ?_
  refine ru_go (t := (73, [some (.inr (some a0)), some (.inl x1), some (.inl x2), some (.inl x3)], [.inl 1], sm_putI M a0 6 ((sm_I M a0 6) + 1))) sm_a61_72 rfl rfl (st_iconst (by decide)) ?_
  exact ru_ret sm_a61_73 (sm_rvz rfl (by decide)) h

/-! WireBus$Device.find:(I)LWireBus$Endpoint; -/
theorem sm_a62_0 : sm_at 62 0 = some (.iconst 0, 1, (0, 0, 0, 0)) := by decide +kernel
theorem sm_a62_1 : sm_at 62 1 = some (.istore_n 2, 1, (0, 0, 0, 0)) := by decide +kernel
theorem sm_a62_2 : sm_at 62 2 = some (.iload_n 2, 1, (0, 0, 0, 0)) := by decide +kernel
theorem sm_a62_3 : sm_at 62 3 = some (.aload_n 0, 1, (0, 0, 0, 0)) := by decide +kernel
theorem sm_a62_4 : sm_at 62 4 = some (.getfield 51, 3, (4, 6, 0, 267)) := by decide +kernel
theorem sm_a62_7 : sm_at 62 7 = some (.if_icmp .ge 29, 3, (0, 0, 0, 0)) := by decide +kernel
theorem sm_a62_10 : sm_at 62 10 = some (.aload_n 0, 1, (0, 0, 0, 0)) := by decide +kernel
theorem sm_a62_11 : sm_at 62 11 = some (.getfield 20, 3, (4, 5, 0, 266)) := by decide +kernel
theorem sm_a62_14 : sm_at 62 14 = some (.iload_n 2, 1, (0, 0, 0, 0)) := by decide +kernel
theorem sm_a62_15 : sm_at 62 15 = some (.aaload, 1, (0, 0, 0, 0)) := by decide +kernel
theorem sm_a62_16 : sm_at 62 16 = some (.getfield 63, 3, (5, 0, 1, 539)) := by decide +kernel
theorem sm_a62_19 : sm_at 62 19 = some (.iload_n 1, 1, (0, 0, 0, 0)) := by decide +kernel
theorem sm_a62_20 : sm_at 62 20 = some (.if_icmp .ne 10, 3, (0, 0, 0, 0)) := by decide +kernel
theorem sm_a62_23 : sm_at 62 23 = some (.aload_n 0, 1, (0, 0, 0, 0)) := by decide +kernel
theorem sm_a62_24 : sm_at 62 24 = some (.getfield 20, 3, (4, 5, 0, 266)) := by decide +kernel
theorem sm_a62_27 : sm_at 62 27 = some (.iload_n 2, 1, (0, 0, 0, 0)) := by decide +kernel
theorem sm_a62_28 : sm_at 62 28 = some (.aaload, 1, (0, 0, 0, 0)) := by decide +kernel
theorem sm_a62_29 : sm_at 62 29 = some (.areturn, 1, (0, 0, 0, 0)) := by decide +kernel
theorem sm_a62_30 : sm_at 62 30 = some (.iinc 2 1, 3, (0, 0, 0, 0)) := by decide +kernel
theorem sm_a62_33 : sm_at 62 33 = some (.goto (-31), 3, (0, 0, 0, 0)) := by decide +kernel
theorem sm_a62_36 : sm_at 62 36 = some (.aconst_null, 1, (0, 0, 0, 0)) := by decide +kernel
theorem sm_a62_37 : sm_at 62 37 = some (.areturn, 1, (0, 0, 0, 0)) := by decide +kernel
theorem bb_62_0 {d : Nat} {M : sm_M} {Q : Option sm_V → sm_M → Prop} {a0 : Nat} {x1 : Int32} {z2 : Option sm_V}
    (h : sm_Run d 62 2 [some (.inr (some a0)), some (.inl x1), some (.inl 0)] [] M Q) :
    sm_Run d 62 0 [some (.inr (some a0)), some (.inl x1), z2] [] M Q := by
  refine ru_go (t := (1, [some (.inr (some a0)), some (.inl x1), z2], [.inl 0], M)) sm_a62_0 rfl rfl (st_iconst (by decide)) ?_
  refine ru_go (t := (2, [some (.inr (some a0)), some (.inl x1), some (.inl 0)], [], M)) sm_a62_1 rfl rfl rfl ?_
  exact h
theorem bb_62_2 {d : Nat} {M : sm_M} {Q : Option sm_V → sm_M → Prop} {a0 : Nat} {x1 : Int32} {x2 : Int32}
    (h : sm_K M a0 = 15 ∧ (((sm_I M a0 6) ≤ x2 → Q (some (.inr none)) M) ∧ (¬ ((sm_I M a0 6) ≤ x2) → ∃ b_3, sm_R M a0 5 = some b_3 ∧ (∃ ci, sm_K M b_3 = 4 + 3 * ci) ∧ sm_in_ M b_3 x2 ∧ ∃ b_7, sm_R M b_3 (x2).toNatClampNeg = some b_7 ∧ sm_K M b_7 = 18 ∧ ((¬ (sm_I M b_7 0) = x1 → sm_Run d 62 2 [some (.inr (some a0)), some (.inl x1), some (.inl (x2 + 1))] [] M Q) ∧ (¬ (¬ (sm_I M b_7 0) = x1) → ∃ b_11, sm_R M a0 5 = some b_11 ∧ (∃ ci, sm_K M b_11 = 4 + 3 * ci) ∧ sm_in_ M b_11 x2 ∧ Q (some (.inr (sm_R M b_11 (x2).toNatClampNeg))) M))))) :
    sm_Run d 62 2 [some (.inr (some a0)), some (.inl x1), some (.inl x2)] [] M Q := by
  refine ru_go (t := (3, [some (.inr (some a0)), some (.inl x1), some (.inl x2)], [.inl x2], M)) sm_a62_2 rfl rfl rfl ?_
  refine ru_go (t := (4, [some (.inr (some a0)), some (.inl x1), some (.inl x2)], [.inr (some a0), .inl x2], M)) sm_a62_3 rfl rfl rfl ?_
  obtain ⟨h_1, h⟩ := h
  refine ru_go (t := (7, [some (.inr (some a0)), some (.inl x1), some (.inl x2)], [.inl (sm_I M a0 6), .inl x2], M)) sm_a62_4 rfl rfl (st_getI h_1 rfl) ?_
  refine ru_icmp (pc := 7) (p := 36) (p2 := 10) sm_a62_7 (by decide) rfl ⟨fun hc_2 => ?_, fun hc_2 => ?_⟩
  · have h := h.1 hc_2
    refine ru_go (t := (37, [some (.inr (some a0)), some (.inl x1), some (.inl x2)], [.inr none], M)) sm_a62_36 rfl rfl rfl ?_
    exact ru_ret sm_a62_37 rfl h
  · have h := h.2 hc_2
    refine ru_go (t := (11, [some (.inr (some a0)), some (.inl x1), some (.inl x2)], [.inr (some a0)], M)) sm_a62_10 rfl rfl rfl ?_
    refine ru_go (t := (14, [some (.inr (some a0)), some (.inl x1), some (.inl x2)], [.inr (sm_R M a0 5)], M)) sm_a62_11 rfl rfl (st_getR h_1 rfl rfl) ?_
    refine ru_go (t := (15, [some (.inr (some a0)), some (.inl x1), some (.inl x2)], [.inl x2, .inr (sm_R M a0 5)], M)) sm_a62_14 rfl rfl rfl ?_
    obtain ⟨b_3, hb_4, h⟩ := h
    rw [hb_4]
    obtain ⟨h_5, h⟩ := h
    obtain ⟨h_6, h⟩ := h
    refine ru_go (t := (16, [some (.inr (some a0)), some (.inl x1), some (.inl x2)], [.inr (sm_R M b_3 (x2).toNatClampNeg)], M)) sm_a62_15 rfl rfl (st_aald h_5.choose_spec h_6 rfl) ?_
    obtain ⟨b_7, hb_8, h⟩ := h
    rw [hb_8]
    obtain ⟨h_9, h⟩ := h
    refine ru_go (t := (19, [some (.inr (some a0)), some (.inl x1), some (.inl x2)], [.inl (sm_I M b_7 0)], M)) sm_a62_16 rfl rfl (st_getI h_9 rfl) ?_
    refine ru_go (t := (20, [some (.inr (some a0)), some (.inl x1), some (.inl x2)], [.inl x1, .inl (sm_I M b_7 0)], M)) sm_a62_19 rfl rfl rfl ?_
    refine ru_icmp (pc := 20) (p := 30) (p2 := 23) sm_a62_20 (by decide) rfl ⟨fun hc_10 => ?_, fun hc_10 => ?_⟩
    · have h := h.1 hc_10
      refine ru_go (t := (33, [some (.inr (some a0)), some (.inl x1), some (.inl (x2 + 1))], [], M)) sm_a62_30 rfl rfl (st_iinc rfl (by decide)) ?_
      refine ru_go (t := (2, [some (.inr (some a0)), some (.inl x1), some (.inl (x2 + 1))], [], M)) sm_a62_33 rfl rfl (st_goto (pc := 33) (by decide)) ?_
      exact h
    · have h := h.2 hc_10
      refine ru_go (t := (24, [some (.inr (some a0)), some (.inl x1), some (.inl x2)], [.inr (some a0)], M)) sm_a62_23 rfl rfl rfl ?_
      refine ru_go (t := (27, [some (.inr (some a0)), some (.inl x1), some (.inl x2)], [.inr (sm_R M a0 5)], M)) sm_a62_24 rfl rfl (st_getR h_1 rfl rfl) ?_
      refine ru_go (t := (28, [some (.inr (some a0)), some (.inl x1), some (.inl x2)], [.inl x2, .inr (sm_R M a0 5)], M)) sm_a62_27 rfl rfl rfl ?_
      obtain ⟨b_11, hb_12, h⟩ := h
      rw [hb_12]
      obtain ⟨h_13, h⟩ := h
      obtain ⟨h_14, h⟩ := h
      refine ru_go (t := (29, [some (.inr (some a0)), some (.inl x1), some (.inl x2)], [.inr (sm_R M b_11 (x2).toNatClampNeg)], M)) sm_a62_28 rfl rfl (st_aald h_13.choose_spec h_14 rfl) ?_
      exact ru_ret sm_a62_29 rfl h

/-! WireBus$Device.arrive:()V -/
theorem sm_a63_0 : sm_at 63 0 = some (.aload_n 0, 1, (0, 0, 0, 0)) := by decide +kernel
theorem sm_a63_1 : sm_at 63 1 = some (.iconst 1, 1, (0, 0, 0, 0)) := by decide +kernel
theorem sm_a63_2 : sm_at 63 2 = some (.putfield 15, 3, (4, 3, 0, 259)) := by decide +kernel
theorem sm_a63_5 : sm_at 63 5 = some (.aload_n 0, 1, (0, 0, 0, 0)) := by decide +kernel
theorem sm_a63_6 : sm_at 63 6 = some (.iconst 0, 1, (0, 0, 0, 0)) := by decide +kernel
theorem sm_a63_7 : sm_at 63 7 = some (.putfield 66, 3, (4, 4, 0, 263)) := by decide +kernel
theorem sm_a63_10 : sm_at 63 10 = some (.aload_n 0, 1, (0, 0, 0, 0)) := by decide +kernel
theorem sm_a63_11 : sm_at 63 11 = some (.iconst (-1), 1, (0, 0, 0, 0)) := by decide +kernel
theorem sm_a63_12 : sm_at 63 12 = some (.putfield 35, 3, (4, 9, 0, 271)) := by decide +kernel
theorem sm_a63_15 : sm_at 63 15 = some (.aload_n 0, 1, (0, 0, 0, 0)) := by decide +kernel
theorem sm_a63_16 : sm_at 63 16 = some (.iconst 0, 1, (0, 0, 0, 0)) := by decide +kernel
theorem sm_a63_17 : sm_at 63 17 = some (.putfield 67, 3, (4, 11, 0, 273)) := by decide +kernel
theorem sm_a63_20 : sm_at 63 20 = some (.aload_n 0, 1, (0, 0, 0, 0)) := by decide +kernel
theorem sm_a63_21 : sm_at 63 21 = some (.getfield 31, 3, (4, 8, 0, 270)) := by decide +kernel
theorem sm_a63_24 : sm_at 63 24 = some (.iconst 0, 1, (0, 0, 0, 0)) := by decide +kernel
theorem sm_a63_25 : sm_at 63 25 = some (.putfield 71, 3, (3, 0, 1, 222)) := by decide +kernel
theorem sm_a63_28 : sm_at 63 28 = some (.iconst 0, 1, (0, 0, 0, 0)) := by decide +kernel
theorem sm_a63_29 : sm_at 63 29 = some (.istore_n 1, 1, (0, 0, 0, 0)) := by decide +kernel
theorem sm_a63_30 : sm_at 63 30 = some (.iload_n 1, 1, (0, 0, 0, 0)) := by decide +kernel
theorem sm_a63_31 : sm_at 63 31 = some (.aload_n 0, 1, (0, 0, 0, 0)) := by decide +kernel
theorem sm_a63_32 : sm_at 63 32 = some (.getfield 51, 3, (4, 6, 0, 267)) := by decide +kernel
theorem sm_a63_35 : sm_at 63 35 = some (.if_icmp .ge 30, 3, (0, 0, 0, 0)) := by decide +kernel
theorem sm_a63_38 : sm_at 63 38 = some (.aload_n 0, 1, (0, 0, 0, 0)) := by decide +kernel
theorem sm_a63_39 : sm_at 63 39 = some (.getfield 20, 3, (4, 5, 0, 266)) := by decide +kernel
theorem sm_a63_42 : sm_at 63 42 = some (.iload_n 1, 1, (0, 0, 0, 0)) := by decide +kernel
theorem sm_a63_43 : sm_at 63 43 = some (.aaload, 1, (0, 0, 0, 0)) := by decide +kernel
theorem sm_a63_44 : sm_at 63 44 = some (.invokevirtual 74, 3, (10, 80, 5, 596)) := by decide +kernel
theorem sm_a63_47 : sm_at 63 47 = some (.aload_n 0, 1, (0, 0, 0, 0)) := by decide +kernel
theorem sm_a63_48 : sm_at 63 48 = some (.getfield 20, 3, (4, 5, 0, 266)) := by decide +kernel
theorem sm_a63_51 : sm_at 63 51 = some (.iload_n 1, 1, (0, 0, 0, 0)) := by decide +kernel
theorem sm_a63_52 : sm_at 63 52 = some (.aaload, 1, (0, 0, 0, 0)) := by decide +kernel
theorem sm_a63_53 : sm_at 63 53 = some (.getfield 77, 3, (5, 6, 1, 551)) := by decide +kernel
theorem sm_a63_56 : sm_at 63 56 = some (.invokevirtual 81, 3, (10, 31, 1, 597)) := by decide +kernel
theorem sm_a63_59 : sm_at 63 59 = some (.iinc 1 1, 3, (0, 0, 0, 0)) := by decide +kernel
theorem sm_a63_62 : sm_at 63 62 = some (.goto (-32), 3, (0, 0, 0, 0)) := by decide +kernel
theorem sm_a63_65 : sm_at 63 65 = some (.return_, 1, (0, 0, 0, 0)) := by decide +kernel
theorem bb_63_0 {d : Nat} {M : sm_M} {Q : Option sm_V → sm_M → Prop} {a0 : Nat} {z1 : Option sm_V}
    (h : sm_K M a0 = 15 ∧ ∃ b_2, sm_R (sm_putI (sm_putI (sm_putI (sm_putI M a0 3 1) a0 4 0) a0 9 (-1)) a0 11 0) a0 8 = some b_2 ∧ sm_K M b_2 = 12 ∧ sm_Run (d + 1) 63 30 [some (.inr (some a0)), some (.inl 0)] [] (sm_putI (sm_putI (sm_putI (sm_putI (sm_putI M a0 3 1) a0 4 0) a0 9 (-1)) a0 11 0) b_2 0 0) Q) :
    sm_Run (d + 1) 63 0 [some (.inr (some a0)), z1] [] M Q := by
  refine ru_go (t := (1, [some (.inr (some a0)), z1], [.inr (some a0)], M)) sm_a63_0 rfl rfl rfl ?_
  refine ru_go (t := (2, [some (.inr (some a0)), z1], [.inl 1, .inr (some a0)], M)) sm_a63_1 rfl rfl (st_iconst (by decide)) ?_
  obtain ⟨h_1, h⟩ := h
  refine ru_go (t := (5, [some (.inr (some a0)), z1], [], sm_putI M a0 3 1)) sm_a63_2 rfl rfl (st_putI h_1 rfl) ?_
  refine ru_go (t := (6, [some (.inr (some a0)), z1], [.inr (some a0)], sm_putI M a0 3 1)) sm_a63_5 rfl rfl rfl ?_
  refine ru_go (t := (7, [some (.inr (some a0)), z1], [.inl 0, .inr (some a0)], sm_putI M a0 3 1)) sm_a63_6 rfl rfl (st_iconst (by decide)) ?_
  refine ru_go (t := (10, [some (.inr (some a0)), z1], [], sm_putI (sm_putI M a0 3 1) a0 4 0)) sm_a63_7 rfl rfl (st_putI h_1 rfl) ?_
  refine ru_go (t := (11, [some (.inr (some a0)), z1], [.inr (some a0)], sm_putI (sm_putI M a0 3 1) a0 4 0)) sm_a63_10 rfl rfl rfl ?_
  refine ru_go (t := (12, [some (.inr (some a0)), z1], [.inl (-1), .inr (some a0)], sm_putI (sm_putI M a0 3 1) a0 4 0)) sm_a63_11 rfl rfl (st_iconst (by decide)) ?_
  refine ru_go (t := (15, [some (.inr (some a0)), z1], [], sm_putI (sm_putI (sm_putI M a0 3 1) a0 4 0) a0 9 (-1))) sm_a63_12 rfl rfl (st_putI h_1 rfl) ?_
  refine ru_go (t := (16, [some (.inr (some a0)), z1], [.inr (some a0)], sm_putI (sm_putI (sm_putI M a0 3 1) a0 4 0) a0 9 (-1))) sm_a63_15 rfl rfl rfl ?_
  refine ru_go (t := (17, [some (.inr (some a0)), z1], [.inl 0, .inr (some a0)], sm_putI (sm_putI (sm_putI M a0 3 1) a0 4 0) a0 9 (-1))) sm_a63_16 rfl rfl (st_iconst (by decide)) ?_
  refine ru_go (t := (20, [some (.inr (some a0)), z1], [], sm_putI (sm_putI (sm_putI (sm_putI M a0 3 1) a0 4 0) a0 9 (-1)) a0 11 0)) sm_a63_17 rfl rfl (st_putI h_1 (by decide)) ?_
  refine ru_go (t := (21, [some (.inr (some a0)), z1], [.inr (some a0)], sm_putI (sm_putI (sm_putI (sm_putI M a0 3 1) a0 4 0) a0 9 (-1)) a0 11 0)) sm_a63_20 rfl rfl rfl ?_
  refine ru_go (t := (24, [some (.inr (some a0)), z1], [.inr (sm_R (sm_putI (sm_putI (sm_putI (sm_putI M a0 3 1) a0 4 0) a0 9 (-1)) a0 11 0) a0 8)], sm_putI (sm_putI (sm_putI (sm_putI M a0 3 1) a0 4 0) a0 9 (-1)) a0 11 0)) sm_a63_21 rfl rfl (st_getR h_1 rfl rfl) ?_
  refine ru_go (t := (25, [some (.inr (some a0)), z1], [.inl 0, .inr (sm_R (sm_putI (sm_putI (sm_putI (sm_putI M a0 3 1) a0 4 0) a0 9 (-1)) a0 11 0) a0 8)], sm_putI (sm_putI (sm_putI (sm_putI M a0 3 1) a0 4 0) a0 9 (-1)) a0 11 0)) sm_a63_24 rfl rfl (st_iconst (by decide)) ?_
  obtain ⟨b_2, hb_3, h⟩ := h
  rw [hb_3]
  obtain ⟨h_4, h⟩ := h
  refine ru_go (t := (28, [some (.inr (some a0)), z1], [], sm_putI (sm_putI (sm_putI (sm_putI (sm_putI M a0 3 1) a0 4 0) a0 9 (-1)) a0 11 0) b_2 0 0)) sm_a63_25 rfl rfl (st_putI h_4 rfl) ?_
  refine ru_go (t := (29, [some (.inr (some a0)), z1], [.inl 0], sm_putI (sm_putI (sm_putI (sm_putI (sm_putI M a0 3 1) a0 4 0) a0 9 (-1)) a0 11 0) b_2 0 0)) sm_a63_28 rfl rfl (st_iconst (by decide)) ?_
  refine ru_go (t := (30, [some (.inr (some a0)), some (.inl 0)], [], sm_putI (sm_putI (sm_putI (sm_putI (sm_putI M a0 3 1) a0 4 0) a0 9 (-1)) a0 11 0) b_2 0 0)) sm_a63_29 rfl rfl rfl ?_
  exact h
theorem bb_63_30 {d : Nat} {M : sm_M} {Q : Option sm_V → sm_M → Prop} {a0 : Nat} {x1 : Int32}
    (h : sm_K M a0 = 15 ∧ (((sm_I M a0 6) ≤ x1 → Q none M) ∧ (¬ ((sm_I M a0 6) ≤ x1) → ∃ b_3, sm_R M a0 5 = some b_3 ∧ (∃ ci, sm_K M b_3 = 4 + 3 * ci) ∧ sm_in_ M b_3 x1 ∧ ∃ b_7, sm_R M b_3 (x1).toNatClampNeg = some b_7 ∧ sm_K M b_7 = 18 ∧ sm_Run d 80 0 (sm_ent 80 [.inr (some b_7)]) [] M (fun v M1 => sm_Run (d + 1) 63 47 [some (.inr (some a0)), some (.inl x1)] (v.toList ++ []) M1 Q)))) :
    sm_Run (d + 1) 63 30 [some (.inr (some a0)), some (.inl x1)] [] M Q := by
  refine ru_go (t := (31, [some (.inr (some a0)), some (.inl x1)], [.inl x1], M)) sm_a63_30 rfl rfl rfl ?_
  refine ru_go (t := (32, [some (.inr (some a0)), some (.inl x1)], [.inr (some a0), .inl x1], M)) sm_a63_31 rfl rfl rfl ?_
  obtain ⟨h_1, h⟩ := h
  refine ru_go (t := (35, [some (.inr (some a0)), some (.inl x1)], [.inl (sm_I M a0 6), .inl x1], M)) sm_a63_32 rfl rfl (st_getI h_1 rfl) ?_
  refine ru_icmp (pc := 35) (p := 65) (p2 := 38) sm_a63_35 (by decide) rfl ⟨fun hc_2 => ?_, fun hc_2 => ?_⟩
  · have h := h.1 hc_2
    exact ru_ret sm_a63_65 (sm_rvv rfl) h
  · have h := h.2 hc_2
    refine ru_go (t := (39, [some (.inr (some a0)), some (.inl x1)], [.inr (some a0)], M)) sm_a63_38 rfl rfl rfl ?_
    refine ru_go (t := (42, [some (.inr (some a0)), some (.inl x1)], [.inr (sm_R M a0 5)], M)) sm_a63_39 rfl rfl (st_getR h_1 rfl rfl) ?_
    refine ru_go (t := (43, [some (.inr (some a0)), some (.inl x1)], [.inl x1, .inr (sm_R M a0 5)], M)) sm_a63_42 rfl rfl rfl ?_
    obtain ⟨b_3, hb_4, h⟩ := h
    rw [hb_4]
    obtain ⟨h_5, h⟩ := h
    obtain ⟨h_6, h⟩ := h
    refine ru_go (t := (44, [some (.inr (some a0)), some (.inl x1)], [.inr (sm_R M b_3 (x1).toNatClampNeg)], M)) sm_a63_43 rfl rfl (st_aald h_5.choose_spec h_6 rfl) ?_
    obtain ⟨b_7, hb_8, h⟩ := h
    rw [hb_8]
    obtain ⟨h_9, h⟩ := h
    exact ru_call (p := 47) sm_a63_44 rfl (sc_virt (Or.inl rfl) rfl rfl h_9 (Nat.le_of_ble_eq_true rfl)) rfl h
theorem bb_63_47 {d : Nat} {M : sm_M} {Q : Option sm_V → sm_M → Prop} {a0 : Nat} {x1 : Int32}
    (h : sm_K M a0 = 15 ∧ ∃ b_2, sm_R M a0 5 = some b_2 ∧ (∃ ci, sm_K M b_2 = 4 + 3 * ci) ∧ sm_in_ M b_2 x1 ∧ ∃ b_6, sm_R M b_2 (x1).toNatClampNeg = some b_6 ∧ sm_K M b_6 = 18 ∧ ∃ b_9, sm_R M b_6 6 = some b_9 ∧ sm_K M b_9 = 6 ∧ sm_Run d 31 0 (sm_ent 31 [.inr (some b_9)]) [] M (fun v M1 => sm_Run (d + 1) 63 59 [some (.inr (some a0)), some (.inl x1)] (v.toList ++ []) M1 Q)) :
    sm_Run (d + 1) 63 47 [some (.inr (some a0)), some (.inl x1)] [] M Q := by
  refine ru_go (t := (48, [some (.inr (some a0)), some (.inl x1)], [.inr (some a0)], M)) sm_a63_47 rfl rfl rfl ?_
  obtain ⟨h_1, h⟩ := h
  refine ru_go (t := (51, [some (.inr (some a0)), some (.inl x1)], [.inr (sm_R M a0 5)], M)) sm_a63_48 rfl rfl (st_getR h_1 rfl rfl) ?_
  refine ru_go (t := (52, [some (.inr (some a0)), some (.inl x1)], [.inl x1, .inr (sm_R M a0 5)], M)) sm_a63_51 rfl rfl rfl ?_
  obtain ⟨b_2, hb_3, h⟩ := h
  rw [hb_3]
  obtain ⟨h_4, h⟩ := h
  obtain ⟨h_5, h⟩ := h
  refine ru_go (t := (53, [some (.inr (some a0)), some (.inl x1)], [.inr (sm_R M b_2 (x1).toNatClampNeg)], M)) sm_a63_52 rfl rfl (st_aald h_4.choose_spec h_5 rfl) ?_
  obtain ⟨b_6, hb_7, h⟩ := h
  rw [hb_7]
  obtain ⟨h_8, h⟩ := h
  refine ru_go (t := (56, [some (.inr (some a0)), some (.inl x1)], [.inr (sm_R M b_6 6)], M)) sm_a63_53 rfl rfl (st_getR h_8 rfl rfl) ?_
  obtain ⟨b_9, hb_10, h⟩ := h
  rw [hb_10]
  obtain ⟨h_11, h⟩ := h
  exact ru_call (p := 59) sm_a63_56 rfl (sc_virt (Or.inl rfl) rfl rfl h_11 (Nat.le_of_ble_eq_true rfl)) rfl h
theorem bb_63_59 {d : Nat} {M : sm_M} {Q : Option sm_V → sm_M → Prop} {a0 : Nat} {x1 : Int32}
    (h : sm_Run (d + 1) 63 30 [some (.inr (some a0)), some (.inl (x1 + 1))] [] M Q) :
    sm_Run (d + 1) 63 59 [some (.inr (some a0)), some (.inl x1)] [] M Q := by
  refine ru_go (t := (62, [some (.inr (some a0)), some (.inl (x1 + 1))], [], M)) sm_a63_59 rfl rfl (st_iinc rfl (by decide)) ?_
  refine ru_go (t := (30, [some (.inr (some a0)), some (.inl (x1 + 1))], [], M)) sm_a63_62 rfl rfl (st_goto (pc := 62) (by decide)) ?_
  exact h

/-! WireBus$Device.leave:()V -/
theorem sm_a64_0 : sm_at 64 0 = some (.aload_n 0, 1, (0, 0, 0, 0)) := by decide +kernel
theorem sm_a64_1 : sm_at 64 1 = some (.iconst 0, 1, (0, 0, 0, 0)) := by decide +kernel
theorem sm_a64_2 : sm_at 64 2 = some (.putfield 15, 3, (4, 3, 0, 259)) := by decide +kernel
theorem sm_a64_5 : sm_at 64 5 = some (.aload_n 0, 1, (0, 0, 0, 0)) := by decide +kernel
theorem sm_a64_6 : sm_at 64 6 = some (.iconst 0, 1, (0, 0, 0, 0)) := by decide +kernel
theorem sm_a64_7 : sm_at 64 7 = some (.putfield 66, 3, (4, 4, 0, 263)) := by decide +kernel
theorem sm_a64_10 : sm_at 64 10 = some (.return_, 1, (0, 0, 0, 0)) := by decide +kernel
theorem bb_64_0 {d : Nat} {M : sm_M} {Q : Option sm_V → sm_M → Prop} {a0 : Nat}
    (h : sm_K M a0 = 15 ∧ Q none (sm_putI (sm_putI M a0 3 0) a0 4 0)) :
    sm_Run d 64 0 [some (.inr (some a0))] [] M Q := by
  refine ru_go (t := (1, [some (.inr (some a0))], [.inr (some a0)], M)) sm_a64_0 rfl rfl rfl ?_
  refine ru_go (t := (2, [some (.inr (some a0))], [.inl 0, .inr (some a0)], M)) sm_a64_1 rfl rfl (st_iconst (by decide)) ?_
  obtain ⟨h_1, h⟩ := h
  refine ru_go (t := (5, [some (.inr (some a0))], [], sm_putI M a0 3 0)) sm_a64_2 rfl rfl (st_putI h_1 rfl) ?_
  refine ru_go (t := (6, [some (.inr (some a0))], [.inr (some a0)], sm_putI M a0 3 0)) sm_a64_5 rfl rfl rfl ?_
  refine ru_go (t := (7, [some (.inr (some a0))], [.inl 0, .inr (some a0)], sm_putI M a0 3 0)) sm_a64_6 rfl rfl (st_iconst (by decide)) ?_
  refine ru_go (t := (10, [some (.inr (some a0))], [], sm_putI (sm_putI M a0 3 0) a0 4 0)) sm_a64_7 rfl rfl (st_putI h_1 rfl) ?_
  exact ru_ret sm_a64_10 (sm_rvv rfl) h

/-! WireBus$Device.answer:(I)V -/
theorem sm_a65_0 : sm_at 65 0 = some (.aload_n 0, 1, (0, 0, 0, 0)) := by decide +kernel
theorem sm_a65_1 : sm_at 65 1 = some (.getfield 41, 3, (4, 12, 0, 275)) := by decide +kernel
theorem sm_a65_4 : sm_at 65 4 = some (.iload_n 1, 1, (0, 0, 0, 0)) := by decide +kernel
theorem sm_a65_5 : sm_at 65 5 = some (.putfield 86, 3, (7, 1, 1, 147)) := by decide +kernel
theorem sm_a65_8 : sm_at 65 8 = some (.aload_n 0, 1, (0, 0, 0, 0)) := by decide +kernel
theorem sm_a65_9 : sm_at 65 9 = some (.getfield 41, 3, (4, 12, 0, 275)) := by decide +kernel
theorem sm_a65_12 : sm_at 65 12 = some (.iconst 0, 1, (0, 0, 0, 0)) := by decide +kernel
theorem sm_a65_13 : sm_at 65 13 = some (.putfield 89, 3, (7, 4, 1, 161)) := by decide +kernel
theorem sm_a65_16 : sm_at 65 16 = some (.aload_n 0, 1, (0, 0, 0, 0)) := by decide +kernel
theorem sm_a65_17 : sm_at 65 17 = some (.iconst 1, 1, (0, 0, 0, 0)) := by decide +kernel
theorem sm_a65_18 : sm_at 65 18 = some (.putfield 67, 3, (4, 11, 0, 273)) := by decide +kernel
theorem sm_a65_21 : sm_at 65 21 = some (.return_, 1, (0, 0, 0, 0)) := by decide +kernel
theorem bb_65_0 {d : Nat} {M : sm_M} {Q : Option sm_V → sm_M → Prop} {a0 : Nat} {x1 : Int32}
    (h : sm_K M a0 = 15 ∧ ∃ b_2, sm_R M a0 12 = some b_2 ∧ sm_K M b_2 = 24 ∧ ∃ b_5, sm_R (sm_putI M b_2 1 x1) a0 12 = some b_5 ∧ sm_K M b_5 = 24 ∧ Q none (sm_putI (sm_putI (sm_putI M b_2 1 x1) b_5 4 0) a0 11 1)) :
    sm_Run d 65 0 [some (.inr (some a0)), some (.inl x1)] [] M Q := by
  refine ru_go (t := (1, [some (.inr (some a0)), some (.inl x1)], [.inr (some a0)], M)) sm_a65_0 rfl rfl rfl ?_
  obtain ⟨h_1, h⟩ := h
  refine ru_go (t := (4, [some (.inr (some a0)), some (.inl x1)], [.inr (sm_R M a0 12)], M)) sm_a65_1 rfl rfl (st_getR h_1 rfl rfl) ?_
  refine ru_go (t := (5, [some (.inr (some a0)), some (.inl x1)], [.inl x1, .inr (sm_R M a0 12)], M)) sm_a65_4 rfl rfl rfl ?_
  obtain ⟨b_2, hb_3, h⟩ := h
  rw [hb_3]
  obtain ⟨h_4, h⟩ := h
  refine ru_go (t := (8, [some (.inr (some a0)), some (.inl x1)], [], sm_putI M b_2 1 x1)) sm_a65_5 rfl rfl (st_putI h_4 rfl) ?_
  refine ru_go (t := (9, [some (.inr (some a0)), some (.inl x1)], [.inr (some a0)], sm_putI M b_2 1 x1)) sm_a65_8 rfl rfl rfl ?_
  refine ru_go (t := (12, [some (.inr (some a0)), some (.inl x1)], [.inr (sm_R (sm_putI M b_2 1 x1) a0 12)], sm_putI M b_2 1 x1)) sm_a65_9 rfl rfl (st_getR h_1 rfl rfl) ?_
  refine ru_go (t := (13, [some (.inr (some a0)), some (.inl x1)], [.inl 0, .inr (sm_R (sm_putI M b_2 1 x1) a0 12)], sm_putI M b_2 1 x1)) sm_a65_12 rfl rfl (st_iconst (by decide)) ?_
  obtain ⟨b_5, hb_6, h⟩ := h
  rw [hb_6]
  obtain ⟨h_7, h⟩ := h
  refine ru_go (t := (16, [some (.inr (some a0)), some (.inl x1)], [], sm_putI (sm_putI M b_2 1 x1) b_5 4 0)) sm_a65_13 rfl rfl (st_putI h_7 rfl) ?_
  refine ru_go (t := (17, [some (.inr (some a0)), some (.inl x1)], [.inr (some a0)], sm_putI (sm_putI M b_2 1 x1) b_5 4 0)) sm_a65_16 rfl rfl rfl ?_
  refine ru_go (t := (18, [some (.inr (some a0)), some (.inl x1)], [.inl 1, .inr (some a0)], sm_putI (sm_putI M b_2 1 x1) b_5 4 0)) sm_a65_17 rfl rfl (st_iconst (by decide)) ?_
  refine ru_go (t := (21, [some (.inr (some a0)), some (.inl x1)], [], sm_putI (sm_putI (sm_putI M b_2 1 x1) b_5 4 0) a0 11 1)) sm_a65_18 rfl rfl (st_putI h_1 (by decide)) ?_
  exact ru_ret sm_a65_21 (sm_rvv rfl) h

/-! WireBus$Device.answerData:(II)V -/
theorem sm_a66_0 : sm_at 66 0 = some (.aload_n 0, 1, (0, 0, 0, 0)) := by decide +kernel
theorem sm_a66_1 : sm_at 66 1 = some (.iload_n 1, 1, (0, 0, 0, 0)) := by decide +kernel
theorem sm_a66_2 : sm_at 66 2 = some (.invokestatic 92, 3, (13, 27, 0, 872)) := by decide +kernel
theorem sm_a66_5 : sm_at 66 5 = some (.invokevirtual 96, 3, (10, 65, 4, 875)) := by decide +kernel
theorem sm_a66_8 : sm_at 66 8 = some (.aload_n 0, 1, (0, 0, 0, 0)) := by decide +kernel
theorem sm_a66_9 : sm_at 66 9 = some (.iconst 2, 1, (0, 0, 0, 0)) := by decide +kernel
theorem sm_a66_10 : sm_at 66 10 = some (.putfield 35, 3, (4, 9, 0, 271)) := by decide +kernel
theorem sm_a66_13 : sm_at 66 13 = some (.aload_n 0, 1, (0, 0, 0, 0)) := by decide +kernel
theorem sm_a66_14 : sm_at 66 14 = some (.iload_n 2, 1, (0, 0, 0, 0)) := by decide +kernel
theorem sm_a66_15 : sm_at 66 15 = some (.putfield 100, 3, (4, 10, 0, 272)) := by decide +kernel
theorem sm_a66_18 : sm_at 66 18 = some (.return_, 1, (0, 0, 0, 0)) := by decide +kernel
theorem bb_66_0 {d : Nat} {M : sm_M} {Q : Option sm_V → sm_M → Prop} {a0 : Nat} {x1 : Int32} {x2 : Int32}
    (h : sm_Run d 27 0 (sm_ent 27 [.inl x1]) [] M (fun v M1 => sm_Run (d + 1) 66 5 [some (.inr (some a0)), some (.inl x1), some (.inl x2)] (v.toList ++ [.inr (some a0)]) M1 Q)) :
    sm_Run (d + 1) 66 0 [some (.inr (some a0)), some (.inl x1), some (.inl x2)] [] M Q := by
  refine ru_go (t := (1, [some (.inr (some a0)), some (.inl x1), some (.inl x2)], [.inr (some a0)], M)) sm_a66_0 rfl rfl rfl ?_
  refine ru_go (t := (2, [some (.inr (some a0)), some (.inl x1), some (.inl x2)], [.inl x1, .inr (some a0)], M)) sm_a66_1 rfl rfl rfl ?_
  exact ru_call (p := 5) sm_a66_2 rfl (sc_stat (Or.inr rfl) (Nat.le_of_ble_eq_true rfl) rfl rfl (Nat.le_of_ble_eq_true rfl)) rfl h
theorem bb_66_5 {d : Nat} {M : sm_M} {Q : Option sm_V → sm_M → Prop} {a0 : Nat} {x1 : Int32} {x2 : Int32} {y0 : Int32} {b1 : Nat}
    (h : sm_K M b1 = 15 ∧ sm_Run d 65 0 (sm_ent 65 [.inr (some b1), .inl y0]) [] M (fun v M1 => sm_Run (d + 1) 66 8 [some (.inr (some a0)), some (.inl x1), some (.inl x2)] (v.toList ++ []) M1 Q)) :
    sm_Run (d + 1) 66 5 [some (.inr (some a0)), some (.inl x1), some (.inl x2)] [.inl y0, .inr (some b1)] M Q := by
  obtain ⟨h_1, h⟩ := h
  exact ru_call (p := 8) sm_a66_5 rfl (sc_virt (Or.inl rfl) rfl rfl h_1 (Nat.le_of_ble_eq_true rfl)) rfl h
theorem bb_66_8 {d : Nat} {M : sm_M} {Q : Option sm_V → sm_M → Prop} {a0 : Nat} {x1 : Int32} {x2 : Int32}
    (h : sm_K M a0 = 15 ∧ Q none (sm_putI (sm_putI M a0 9 2) a0 10 x2)) :
    sm_Run (d + 1) 66 8 [some (.inr (some a0)), some (.inl x1), some (.inl x2)] [] M Q := by
  refine ru_go (t := (9, [some (.inr (some a0)), some (.inl x1), some (.inl x2)], [.inr (some a0)], M)) sm_a66_8 rfl rfl rfl ?_
  refine ru_go (t := (10, [some (.inr (some a0)), some (.inl x1), some (.inl x2)], [.inl 2, .inr (some a0)], M)) sm_a66_9 rfl rfl (st_iconst (by decide)) ?_
  obtain ⟨h_1, h⟩ := h
  refine ru_go (t := (13, [some (.inr (some a0)), some (.inl x1), some (.inl x2)], [], sm_putI M a0 9 2)) sm_a66_10 rfl rfl (st_putI h_1 rfl) ?_
  refine ru_go (t := (14, [some (.inr (some a0)), some (.inl x1), some (.inl x2)], [.inr (some a0)], sm_putI M a0 9 2)) sm_a66_13 rfl rfl rfl ?_
  refine ru_go (t := (15, [some (.inr (some a0)), some (.inl x1), some (.inl x2)], [.inl x2, .inr (some a0)], sm_putI M a0 9 2)) sm_a66_14 rfl rfl rfl ?_
  refine ru_go (t := (18, [some (.inr (some a0)), some (.inl x1), some (.inl x2)], [], sm_putI (sm_putI M a0 9 2) a0 10 x2)) sm_a66_15 rfl rfl (st_putI h_1 rfl) ?_
  exact ru_ret sm_a66_18 (sm_rvv rfl) h

/-! WireBus$Device.hear:(LWireBus$Packet;)V -/
theorem sm_a67_0 : sm_at 67 0 = some (.aload_n 0, 1, (0, 0, 0, 0)) := by decide +kernel
theorem sm_a67_1 : sm_at 67 1 = some (.getfield 35, 3, (4, 9, 0, 271)) := by decide +kernel
theorem sm_a67_4 : sm_at 67 4 = some (.istore_n 2, 1, (0, 0, 0, 0)) := by decide +kernel
theorem sm_a67_5 : sm_at 67 5 = some (.aload_n 0, 1, (0, 0, 0, 0)) := by decide +kernel
theorem sm_a67_6 : sm_at 67 6 = some (.iconst (-1), 1, (0, 0, 0, 0)) := by decide +kernel
theorem sm_a67_7 : sm_at 67 7 = some (.putfield 35, 3, (4, 9, 0, 271)) := by decide +kernel
theorem sm_a67_10 : sm_at 67 10 = some (.aload_n 0, 1, (0, 0, 0, 0)) := by decide +kernel
theorem sm_a67_11 : sm_at 67 11 = some (.iconst 0, 1, (0, 0, 0, 0)) := by decide +kernel
theorem sm_a67_12 : sm_at 67 12 = some (.putfield 67, 3, (4, 11, 0, 273)) := by decide +kernel
theorem sm_a67_15 : sm_at 67 15 = some (.aload_n 1, 1, (0, 0, 0, 0)) := by decide +kernel
theorem sm_a67_16 : sm_at 67 16 = some (.ifnonnull 4, 3, (0, 0, 0, 0)) := by decide +kernel
theorem sm_a67_19 : sm_at 67 19 = some (.return_, 1, (0, 0, 0, 0)) := by decide +kernel
theorem sm_a67_20 : sm_at 67 20 = some (.aload_n 1, 1, (0, 0, 0, 0)) := by decide +kernel
theorem sm_a67_21 : sm_at 67 21 = some (.getfield 86, 3, (7, 1, 1, 147)) := by decide +kernel
theorem sm_a67_24 : sm_at 67 24 = some (.invokestatic 103, 3, (13, 25, 0, 854)) := by decide +kernel
theorem sm_a67_27 : sm_at 67 27 = some (.ifCond .eq 21, 3, (0, 0, 0, 0)) := by decide +kernel
theorem sm_a67_30 : sm_at 67 30 = some (.aload_n 1, 1, (0, 0, 0, 0)) := by decide +kernel
theorem sm_a67_31 : sm_at 67 31 = some (.getfield 107, 3, (7, 2, 1, 154)) := by decide +kernel
theorem sm_a67_34 : sm_at 67 34 = some (.bipush 127, 2, (0, 0, 0, 0)) := by decide +kernel
theorem sm_a67_36 : sm_at 67 36 = some (.iand, 1, (0, 0, 0, 0)) := by decide +kernel
theorem sm_a67_37 : sm_at 67 37 = some (.aload_n 0, 1, (0, 0, 0, 0)) := by decide +kernel
theorem sm_a67_38 : sm_at 67 38 = some (.getfield 66, 3, (4, 4, 0, 263)) := by decide +kernel
theorem sm_a67_41 : sm_at 67 41 = some (.if_icmp .ne 7, 3, (0, 0, 0, 0)) := by decide +kernel
theorem sm_a67_44 : sm_at 67 44 = some (.iconst 1, 1, (0, 0, 0, 0)) := by decide +kernel
theorem sm_a67_45 : sm_at 67 45 = some (.goto 4, 3, (0, 0, 0, 0)) := by decide +kernel
theorem sm_a67_48 : sm_at 67 48 = some (.iconst 0, 1, (0, 0, 0, 0)) := by decide +kernel
theorem sm_a67_49 : sm_at 67 49 = some (.istore_n 3, 1, (0, 0, 0, 0)) := by decide +kernel
theorem sm_a67_50 : sm_at 67 50 = some (.aload_n 1, 1, (0, 0, 0, 0)) := by decide +kernel
theorem sm_a67_51 : sm_at 67 51 = some (.getfield 107, 3, (7, 2, 1, 154)) := by decide +kernel
theorem sm_a67_54 : sm_at 67 54 = some (.bipush 7, 2, (0, 0, 0, 0)) := by decide +kernel
theorem sm_a67_56 : sm_at 67 56 = some (.ishr, 1, (0, 0, 0, 0)) := by decide +kernel
theorem sm_a67_57 : sm_at 67 57 = some (.bipush 15, 2, (0, 0, 0, 0)) := by decide +kernel
theorem sm_a67_59 : sm_at 67 59 = some (.iand, 1, (0, 0, 0, 0)) := by decide +kernel
theorem sm_a67_60 : sm_at 67 60 = some (.istore 4, 2, (0, 0, 0, 0)) := by decide +kernel
theorem sm_a67_62 : sm_at 67 62 = some (.iload_n 3, 1, (0, 0, 0, 0)) := by decide +kernel
theorem sm_a67_63 : sm_at 67 63 = some (.ifCond .eq 21, 3, (0, 0, 0, 0)) := by decide +kernel
theorem sm_a67_66 : sm_at 67 66 = some (.aload_n 1, 1, (0, 0, 0, 0)) := by decide +kernel
theorem sm_a67_67 : sm_at 67 67 = some (.getfield 86, 3, (7, 1, 1, 147)) := by decide +kernel
theorem sm_a67_70 : sm_at 67 70 = some (.bipush 9, 2, (0, 0, 0, 0)) := by decide +kernel
theorem sm_a67_72 : sm_at 67 72 = some (.if_icmp .ne 12, 3, (0, 0, 0, 0)) := by decide +kernel
theorem sm_a67_75 : sm_at 67 75 = some (.aload_n 0, 1, (0, 0, 0, 0)) := by decide +kernel
theorem sm_a67_76 : sm_at 67 76 = some (.iload 4, 2, (0, 0, 0, 0)) := by decide +kernel
theorem sm_a67_78 : sm_at 67 78 = some (.invokevirtual 110, 3, (10, 68, 4, 855)) := by decide +kernel
theorem sm_a67_81 : sm_at 67 81 = some (.goto 111, 3, (0, 0, 0, 0)) := by decide +kernel
theorem sm_a67_84 : sm_at 67 84 = some (.iload_n 3, 1, (0, 0, 0, 0)) := by decide +kernel
theorem sm_a67_85 : sm_at 67 85 = some (.ifCond .eq 20, 3, (0, 0, 0, 0)) := by decide +kernel
theorem sm_a67_88 : sm_at 67 88 = some (.aload_n 0, 1, (0, 0, 0, 0)) := by decide +kernel
theorem sm_a67_89 : sm_at 67 89 = some (.aload_n 1, 1, (0, 0, 0, 0)) := by decide +kernel
theorem sm_a67_90 : sm_at 67 90 = some (.getfield 86, 3, (7, 1, 1, 147)) := by decide +kernel
theorem sm_a67_93 : sm_at 67 93 = some (.putfield 35, 3, (4, 9, 0, 271)) := by decide +kernel
theorem sm_a67_96 : sm_at 67 96 = some (.aload_n 0, 1, (0, 0, 0, 0)) := by decide +kernel
theorem sm_a67_97 : sm_at 67 97 = some (.iload 4, 2, (0, 0, 0, 0)) := by decide +kernel
theorem sm_a67_99 : sm_at 67 99 = some (.putfield 100, 3, (4, 10, 0, 272)) := by decide +kernel
theorem sm_a67_102 : sm_at 67 102 = some (.goto 90, 3, (0, 0, 0, 0)) := by decide +kernel
theorem sm_a67_105 : sm_at 67 105 = some (.iload_n 2, 1, (0, 0, 0, 0)) := by decide +kernel
theorem sm_a67_106 : sm_at 67 106 = some (.bipush 13, 2, (0, 0, 0, 0)) := by decide +kernel
theorem sm_a67_108 : sm_at 67 108 = some (.if_icmp .ne 44, 3, (0, 0, 0, 0)) := by decide +kernel
theorem sm_a67_111 : sm_at 67 111 = some (.aload_n 0, 1, (0, 0, 0, 0)) := by decide +kernel
theorem sm_a67_112 : sm_at 67 112 = some (.getfield 100, 3, (4, 10, 0, 272)) := by decide +kernel
theorem sm_a67_115 : sm_at 67 115 = some (.ifCond .ne 37, 3, (0, 0, 0, 0)) := by decide +kernel
theorem sm_a67_118 : sm_at 67 118 = some (.aload_n 1, 1, (0, 0, 0, 0)) := by decide +kernel
theorem sm_a67_119 : sm_at 67 119 = some (.getfield 86, 3, (7, 1, 1, 147)) := by decide +kernel
theorem sm_a67_122 : sm_at 67 122 = some (.iconst 3, 1, (0, 0, 0, 0)) := by decide +kernel
theorem sm_a67_123 : sm_at 67 123 = some (.if_icmp .ne 29, 3, (0, 0, 0, 0)) := by decide +kernel
theorem sm_a67_126 : sm_at 67 126 = some (.aload_n 1, 1, (0, 0, 0, 0)) := by decide +kernel
theorem sm_a67_127 : sm_at 67 127 = some (.getfield 89, 3, (7, 4, 1, 161)) := by decide +kernel
theorem sm_a67_130 : sm_at 67 130 = some (.bipush 8, 2, (0, 0, 0, 0)) := by decide +kernel
theorem sm_a67_132 : sm_at 67 132 = some (.if_icmp .ne 20, 3, (0, 0, 0, 0)) := by decide +kernel
theorem sm_a67_135 : sm_at 67 135 = some (.aload_n 0, 1, (0, 0, 0, 0)) := by decide +kernel
theorem sm_a67_136 : sm_at 67 136 = some (.getfield 31, 3, (4, 8, 0, 270)) := by decide +kernel
theorem sm_a67_139 : sm_at 67 139 = some (.aload_n 0, 1, (0, 0, 0, 0)) := by decide +kernel
theorem sm_a67_140 : sm_at 67 140 = some (.aload_n 1, 1, (0, 0, 0, 0)) := by decide +kernel
theorem sm_a67_141 : sm_at 67 141 = some (.invokevirtual 113, 3, (10, 53, 3, 886)) := by decide +kernel
theorem sm_a67_144 : sm_at 67 144 = some (.aload_n 0, 1, (0, 0, 0, 0)) := by decide +kernel
theorem sm_a67_145 : sm_at 67 145 = some (.iconst 2, 1, (0, 0, 0, 0)) := by decide +kernel
theorem sm_a67_146 : sm_at 67 146 = some (.invokevirtual 96, 3, (10, 65, 4, 875)) := by decide +kernel
theorem sm_a67_149 : sm_at 67 149 = some (.goto 43, 3, (0, 0, 0, 0)) := by decide +kernel
theorem sm_a67_152 : sm_at 67 152 = some (.iload_n 2, 1, (0, 0, 0, 0)) := by decide +kernel
theorem sm_a67_153 : sm_at 67 153 = some (.iconst 1, 1, (0, 0, 0, 0)) := by decide +kernel
theorem sm_a67_154 : sm_at 67 154 = some (.if_icmp .ne 21, 3, (0, 0, 0, 0)) := by decide +kernel
theorem sm_a67_157 : sm_at 67 157 = some (.aload_n 1, 1, (0, 0, 0, 0)) := by decide +kernel
theorem sm_a67_158 : sm_at 67 158 = some (.getfield 86, 3, (7, 1, 1, 147)) := by decide +kernel
theorem sm_a67_161 : sm_at 67 161 = some (.invokestatic 117, 3, (13, 24, 0, 934)) := by decide +kernel
theorem sm_a67_164 : sm_at 67 164 = some (.ifCond .eq 11, 3, (0, 0, 0, 0)) := by decide +kernel
theorem sm_a67_167 : sm_at 67 167 = some (.aload_n 0, 1, (0, 0, 0, 0)) := by decide +kernel
theorem sm_a67_168 : sm_at 67 168 = some (.aload_n 1, 1, (0, 0, 0, 0)) := by decide +kernel
theorem sm_a67_169 : sm_at 67 169 = some (.invokevirtual 120, 3, (10, 69, 4, 935)) := by decide +kernel
theorem sm_a67_172 : sm_at 67 172 = some (.goto 20, 3, (0, 0, 0, 0)) := by decide +kernel
theorem sm_a67_175 : sm_at 67 175 = some (.iload_n 2, 1, (0, 0, 0, 0)) := by decide +kernel
theorem sm_a67_176 : sm_at 67 176 = some (.iconst 2, 1, (0, 0, 0, 0)) := by decide +kernel
theorem sm_a67_177 : sm_at 67 177 = some (.if_icmp .ne 15, 3, (0, 0, 0, 0)) := by decide +kernel
theorem sm_a67_180 : sm_at 67 180 = some (.aload_n 1, 1, (0, 0, 0, 0)) := by decide +kernel
theorem sm_a67_181 : sm_at 67 181 = some (.getfield 86, 3, (7, 1, 1, 147)) := by decide +kernel
theorem sm_a67_184 : sm_at 67 184 = some (.iconst 2, 1, (0, 0, 0, 0)) := by decide +kernel
theorem sm_a67_185 : sm_at 67 185 = some (.if_icmp .ne 7, 3, (0, 0, 0, 0)) := by decide +kernel
theorem sm_a67_188 : sm_at 67 188 = some (.aload_n 0, 1, (0, 0, 0, 0)) := by decide +kernel
theorem sm_a67_189 : sm_at 67 189 = some (.invokevirtual 124, 3, (10, 70, 4, 962)) := by decide +kernel
theorem sm_a67_192 : sm_at 67 192 = some (.return_, 1, (0, 0, 0, 0)) := by decide +kernel
theorem bb_67_0 {d : Nat} {M : sm_M} {Q : Option sm_V → sm_M → Prop} {a0 : Nat} {r1 : Option Nat} {z2 : Option sm_V} {z3 : Option sm_V} {z4 : Option sm_V}
    (h : sm_K M a0 = 15 ∧ ((r1 = none → Q none (sm_putI (sm_putI M a0 9 (-1)) a0 11 0)) ∧ (∀ b_2, r1 = some b_2 → sm_K M b_2 = 24 ∧ sm_Run d 25 0 (sm_ent 25 [.inl (sm_I (sm_putI (sm_putI M a0 9 (-1)) a0 11 0) b_2 1)]) [] (sm_putI (sm_putI M a0 9 (-1)) a0 11 0) (fun v M1 => sm_Run (d + 1) 67 27 [some (.inr (some a0)), some (.inr (some b_2)), some (.inl (sm_I M a0 9)), z3, z4] (v.toList ++ []) M1 Q)))) :
    sm_Run (d + 1) 67 0 [some (.inr (some a0)), some (.inr r1), z2, z3, z4] [] M Q := by
  refine ru_go (t := (1, [some (.inr (some a0)), some (.inr r1), z2, z3, z4], [.inr (some a0)], M)) sm_a67_0 rfl rfl rfl ?_
  obtain ⟨h_1, h⟩ := h
  refine ru_go (t := (4, [some (.inr (some a0)), some (.inr r1), z2, z3, z4], [.inl (sm_I M a0 9)], M)) sm_a67_1 rfl rfl (st_getI h_1 rfl) ?_
  refine ru_go (t := (5, [some (.inr (some a0)), some (.inr r1), some (.inl (sm_I M a0 9)), z3, z4], [], M)) sm_a67_4 rfl rfl rfl ?_
  refine ru_go (t := (6, [some (.inr (some a0)), some (.inr r1), some (.inl (sm_I M a0 9)), z3, z4], [.inr (some a0)], M)) sm_a67_5 rfl rfl rfl ?_
  refine ru_go (t := (7, [some (.inr (some a0)), some (.inr r1), some (.inl (sm_I M a0 9)), z3, z4], [.inl (-1), .inr (some a0)], M)) sm_a67_6 rfl rfl (st_iconst (by decide)) ?_
  refine ru_go (t := (10, [some (.inr (some a0)), some (.inr r1), some (.inl (sm_I M a0 9)), z3, z4], [], sm_putI M a0 9 (-1))) sm_a67_7 rfl rfl (st_putI h_1 rfl) ?_
  refine ru_go (t := (11, [some (.inr (some a0)), some (.inr r1), some (.inl (sm_I M a0 9)), z3, z4], [.inr (some a0)], sm_putI M a0 9 (-1))) sm_a67_10 rfl rfl rfl ?_
  refine ru_go (t := (12, [some (.inr (some a0)), some (.inr r1), some (.inl (sm_I M a0 9)), z3, z4], [.inl 0, .inr (some a0)], sm_putI M a0 9 (-1))) sm_a67_11 rfl rfl (st_iconst (by decide)) ?_
  refine ru_go (t := (15, [some (.inr (some a0)), some (.inr r1), some (.inl (sm_I M a0 9)), z3, z4], [], sm_putI (sm_putI M a0 9 (-1)) a0 11 0)) sm_a67_12 rfl rfl (st_putI h_1 (by decide)) ?_
  refine ru_go (t := (16, [some (.inr (some a0)), some (.inr r1), some (.inl (sm_I M a0 9)), z3, z4], [.inr r1], sm_putI (sm_putI M a0 9 (-1)) a0 11 0)) sm_a67_15 rfl rfl rfl ?_
  refine ru_ifnonnull (pc := 16) (p := 20) (p2 := 19) sm_a67_16 (by decide) rfl ⟨fun b_2 hc => ?_, fun hc => ?_⟩
  · have h := h.2 b_2 hc
    try rw [hc]
    refine ru_go (t := (21, [some (.inr (some a0)), some (.inr (some b_2)), some (.inl (sm_I M a0 9)), z3, z4], [.inr (some b_2)], sm_putI (sm_putI M a0 9 (-1)) a0 11 0)) sm_a67_20 rfl rfl rfl ?_
    obtain ⟨h_4, h⟩ := h
    refine ru_go (t := (24, [some (.inr (some a0)), some (.inr (some b_2)), some (.inl (sm_I M a0 9)), z3, z4], [.inl (sm_I (sm_putI (sm_putI M a0 9 (-1)) a0 11 0) b_2 1)], sm_putI (sm_putI M a0 9 (-1)) a0 11 0)) sm_a67_21 rfl rfl (st_getI h_4 rfl) ?_
    exact ru_call (p := 27) sm_a67_24 rfl (sc_stat (Or.inr rfl) (Nat.le_of_ble_eq_true rfl) rfl rfl (Nat.le_of_ble_eq_true rfl)) rfl h
  · have h := h.1 hc
    try rw [hc]
    exact ru_ret sm_a67_19 (sm_rvv rfl) h
theorem bb_67_27 {d : Nat} {M : sm_M} {Q : Option sm_V → sm_M → Prop} {a0 : Nat} {r1 : Option Nat} {x2 : Int32} {z3 : Option sm_V} {z4 : Option sm_V} {y0 : Int32}
    (h : ((y0 = 0 → sm_Run (d + 1) 67 48 [some (.inr (some a0)), some (.inr r1), some (.inl x2), z3, z4] [] M Q) ∧ (¬ (y0 = 0) → ∃ b_2, r1 = some b_2 ∧ sm_K M b_2 = 24 ∧ sm_K M a0 = 15 ∧ ((¬ ((sm_I M b_2 2) &&& 127) = (sm_I M a0 4) → sm_Run (d + 1) 67 48 [some (.inr (some a0)), some (.inr (some b_2)), some (.inl x2), z3, z4] [] M Q) ∧ (¬ (¬ ((sm_I M b_2 2) &&& 127) = (sm_I M a0 4)) → ((¬ (sm_I M b_2 1) = 9 → sm_Run (d + 1) 67 84 [some (.inr (some a0)), some (.inr (some b_2)), some (.inl x2), some (.inl 1), some (.inl (((sm_I M b_2 2) >>> (7 &&& 31)) &&& 15))] [] M Q) ∧ (¬ (¬ (sm_I M b_2 1) = 9) → sm_Run d 68 0 (sm_ent 68 [.inr (some a0), .inl (((sm_I M b_2 2) >>> (7 &&& 31)) &&& 15)]) [] M (fun v M1 => sm_Run (d + 1) 67 81 [some (.inr (some a0)), some (.inr (some b_2)), some (.inl x2), some (.inl 1), some (.inl (((sm_I M b_2 2) >>> (7 &&& 31)) &&& 15))] (v.toList ++ []) M1 Q)))))))) :
    sm_Run (d + 1) 67 27 [some (.inr (some a0)), some (.inr r1), some (.inl x2), z3, z4] [.inl y0] M Q := by
  refine ru_if (pc := 27) (p := 48) (p2 := 30) sm_a67_27 (by decide) rfl ⟨fun hc_1 => ?_, fun hc_1 => ?_⟩
  · have h := h.1 hc_1
    exact h
  · have h := h.2 hc_1
    refine ru_go (t := (31, [some (.inr (some a0)), some (.inr r1), some (.inl x2), z3, z4], [.inr r1], M)) sm_a67_30 rfl rfl rfl ?_
    obtain ⟨b_2, hb_3, h⟩ := h
    rw [hb_3]
    obtain ⟨h_4, h⟩ := h
    refine ru_go (t := (34, [some (.inr (some a0)), some (.inr (some b_2)), some (.inl x2), z3, z4], [.inl (sm_I M b_2 2)], M)) sm_a67_31 rfl rfl (st_getI h_4 rfl) ?_
    refine ru_go (t := (36, [some (.inr (some a0)), some (.inr (some b_2)), some (.inl x2), z3, z4], [.inl 127, .inl (sm_I M b_2 2)], M)) sm_a67_34 rfl rfl (st_bipush (by decide)) ?_
    refine ru_go (t := (37, [some (.inr (some a0)), some (.inr (some b_2)), some (.inl x2), z3, z4], [.inl ((sm_I M b_2 2) &&& 127)], M)) sm_a67_36 rfl rfl rfl ?_
    refine ru_go (t := (38, [some (.inr (some a0)), some (.inr (some b_2)), some (.inl x2), z3, z4], [.inr (some a0), .inl ((sm_I M b_2 2) &&& 127)], M)) sm_a67_37 rfl rfl rfl ?_
    obtain ⟨h_5, h⟩ := h
    refine ru_go (t := (41, [some (.inr (some a0)), some (.inr (some b_2)), some (.inl x2), z3, z4], [.inl (sm_I M a0 4), .inl ((sm_I M b_2 2) &&& 127)], M)) sm_a67_38 rfl rfl (st_getI h_5 rfl) ?_
    refine ru_icmp (pc := 41) (p := 48) (p2 := 44) sm_a67_41 (by decide) rfl ⟨fun hc_6 => ?_, fun hc_6 => ?_⟩
    · have h := h.1 hc_6
      exact h
    · have h := h.2 hc_6
      refine ru_go (t := (45, [some (.inr (some a0)), some (.inr (some b_2)), some (.inl x2), z3, z4], [.inl 1], M)) sm_a67_44 rfl rfl (st_iconst (by decide)) ?_
      refine ru_go (t := (49, [some (.inr (some a0)), some (.inr (some b_2)), some (.inl x2), z3, z4], [.inl 1], M)) sm_a67_45 rfl rfl (st_goto (pc := 45) (by decide)) ?_
      refine ru_go (t := (50, [some (.inr (some a0)), some (.inr (some b_2)), some (.inl x2), some (.inl 1), z4], [], M)) sm_a67_49 rfl rfl rfl ?_
      refine ru_go (t := (51, [some (.inr (some a0)), some (.inr (some b_2)), some (.inl x2), some (.inl 1), z4], [.inr (some b_2)], M)) sm_a67_50 rfl rfl rfl ?_
      refine ru_go (t := (54, [some (.inr (some a0)), some (.inr (some b_2)), some (.inl x2), some (.inl 1), z4], [.inl (sm_I M b_2 2)], M)) sm_a67_51 rfl rfl (st_getI h_4 rfl) ?_
      refine ru_go (t := (56, [some (.inr (some a0)), some (.inr (some b_2)), some (.inl x2), some (.inl 1), z4], [.inl 7, .inl (sm_I M b_2 2)], M)) sm_a67_54 rfl rfl (st_bipush (by decide)) ?_
      refine ru_go (t := (57, [some (.inr (some a0)), some (.inr (some b_2)), some (.inl x2), some (.inl 1), z4], [.inl ((sm_I M b_2 2) >>> (7 &&& 31))], M)) sm_a67_56 rfl rfl rfl ?_
      refine ru_go (t := (59, [some (.inr (some a0)), some (.inr (some b_2)), some (.inl x2), some (.inl 1), z4], [.inl 15, .inl ((sm_I M b_2 2) >>> (7 &&& 31))], M)) sm_a67_57 rfl rfl (st_bipush (by decide)) ?_
      refine ru_go (t := (60, [some (.inr (some a0)), some (.inr (some b_2)), some (.inl x2), some (.inl 1), z4], [.inl (((sm_I M b_2 2) >>> (7 &&& 31)) &&& 15)], M)) sm_a67_59 rfl rfl rfl ?_
      refine ru_go (t := (62, [some (.inr (some a0)), some (.inr (some b_2)), some (.inl x2), some (.inl 1), some (.inl (((sm_I M b_2 2) >>> (7 &&& 31)) &&& 15))], [], M)) sm_a67_60 rfl rfl rfl ?_
      refine ru_go (t := (63, [some (.inr (some a0)), some (.inr (some b_2)), some (.inl x2), some (.inl 1), some (.inl (((sm_I M b_2 2) >>> (7 &&& 31)) &&& 15))], [.inl 1], M)) sm_a67_62 rfl rfl rfl ?_
      refine ru_if (pc := 63) (p := 84) (p2 := 66) sm_a67_63 (by decide) rfl ⟨fun hc => absurd (show (1 : Int32) = 0 from hc) (by decide), fun _ => ?_⟩
      refine ru_go (t := (67, [some (.inr (some a0)), some (.inr (some b_2)), some (.inl x2), some (.inl 1), some (.inl (((sm_I M b_2 2) >>> (7 &&& 31)) &&& 15))], [.inr (some b_2)], M)) sm_a67_66 rfl rfl rfl ?_
      refine ru_go (t := (70, [some (.inr (some a0)), some (.inr (some b_2)), some (.inl x2), some (.inl 1), some (.inl (((sm_I M b_2 2) >>> (7 &&& 31)) &&& 15))], [.inl (sm_I M b_2 1)], M)) sm_a67_67 rfl rfl (st_getI h_4 rfl) ?_
      refine ru_go (t := (72, [some (.inr (some a0)), some (.inr (some b_2)), some (.inl x2), some (.inl 1), some (.inl (((sm_I M b_2 2) >>> (7 &&& 31)) &&& 15))], [.inl 9, .inl (sm_I M b_2 1)], M)) sm_a67_70 rfl rfl (st_bipush (by decide)) ?_
      refine ru_icmp (pc := 72) (p := 84) (p2 := 75) sm_a67_72 (by decide) rfl ⟨fun hc_7 => ?_, fun hc_7 => ?_⟩
      · have h := h.1 hc_7
        exact h
      · have h := h.2 hc_7
        refine ru_go (t := (76, [some (.inr (some a0)), some (.inr (some b_2)), some (.inl x2), some (.inl 1), some (.inl (((sm_I M b_2 2) >>> (7 &&& 31)) &&& 15))], [.inr (some a0)], M)) sm_a67_75 rfl rfl rfl ?_
        refine ru_go (t := (78, [some (.inr (some a0)), some (.inr (some b_2)), some (.inl x2), some (.inl 1), some (.inl (((sm_I M b_2 2) >>> (7 &&& 31)) &&& 15))], [.inl (((sm_I M b_2 2) >>> (7 &&& 31)) &&& 15), .inr (some a0)], M)) sm_a67_76 rfl rfl rfl ?_
        exact ru_call (p := 81) sm_a67_78 rfl (sc_virt (Or.inl rfl) rfl rfl h_5 (Nat.le_of_ble_eq_true rfl)) rfl h
theorem bb_67_48 {d : Nat} {M : sm_M} {Q : Option sm_V → sm_M → Prop} {a0 : Nat} {r1 : Option Nat} {x2 : Int32} {z3 : Option sm_V} {z4 : Option sm_V}
    (h : ∃ b_1, r1 = some b_1 ∧ sm_K M b_1 = 24 ∧ sm_Run (d + 1) 67 84 [some (.inr (some a0)), some (.inr (some b_1)), some (.inl x2), some (.inl 0), some (.inl (((sm_I M b_1 2) >>> (7 &&& 31)) &&& 15))] [] M Q) :
    sm_Run (d + 1) 67 48 [some (.inr (some a0)), some (.inr r1), some (.inl x2), z3, z4] [] M Q := by
  refine ru_go (t := (49, [some (.inr (some a0)), some (.inr r1), some (.inl x2), z3, z4], [.inl 0], M)) sm_a67_48 rfl rfl (st_iconst (by decide)) ?_
  refine ru_go (t := (50, [some (.inr (some a0)), some (.inr r1), some (.inl x2), some (.inl 0), z4], [], M)) sm_a67_49 rfl rfl rfl ?_
  refine ru_go (t := (51, [some (.inr (some a0)), some (.inr r1), some (.inl x2), some (.inl 0), z4], [.inr r1], M)) sm_a67_50 rfl rfl rfl ?_
  obtain ⟨b_1, hb_2, h⟩ := h
  rw [hb_2]
  obtain ⟨h_3, h⟩ := h
  refine ru_go (t := (54, [some (.inr (some a0)), some (.inr (some b_1)), some (.inl x2), some (.inl 0), z4], [.inl (sm_I M b_1 2)], M)) sm_a67_51 rfl rfl (st_getI h_3 rfl) ?_
  refine ru_go (t := (56, [some (.inr (some a0)), some (.inr (some b_1)), some (.inl x2), some (.inl 0), z4], [.inl 7, .inl (sm_I M b_1 2)], M)) sm_a67_54 rfl rfl (st_bipush (by decide)) ?_
  refine ru_go (t := (57, [some (.inr (some a0)), some (.inr (some b_1)), some (.inl x2), some (.inl 0), z4], [.inl ((sm_I M b_1 2) >>> (7 &&& 31))], M)) sm_a67_56 rfl rfl rfl ?_
  refine ru_go (t := (59, [some (.inr (some a0)), some (.inr (some b_1)), some (.inl x2), some (.inl 0), z4], [.inl 15, .inl ((sm_I M b_1 2) >>> (7 &&& 31))], M)) sm_a67_57 rfl rfl (st_bipush (by decide)) ?_
  refine ru_go (t := (60, [some (.inr (some a0)), some (.inr (some b_1)), some (.inl x2), some (.inl 0), z4], [.inl (((sm_I M b_1 2) >>> (7 &&& 31)) &&& 15)], M)) sm_a67_59 rfl rfl rfl ?_
  refine ru_go (t := (62, [some (.inr (some a0)), some (.inr (some b_1)), some (.inl x2), some (.inl 0), some (.inl (((sm_I M b_1 2) >>> (7 &&& 31)) &&& 15))], [], M)) sm_a67_60 rfl rfl rfl ?_
  refine ru_go (t := (63, [some (.inr (some a0)), some (.inr (some b_1)), some (.inl x2), some (.inl 0), some (.inl (((sm_I M b_1 2) >>> (7 &&& 31)) &&& 15))], [.inl 0], M)) sm_a67_62 rfl rfl rfl ?_
  refine ru_if (pc := 63) (p := 84) (p2 := 66) sm_a67_63 (by decide) rfl ⟨fun _ => ?_, fun hc => absurd (show sm_cP .eq 0 0 from (by show (0 : Int32) = 0; decide)) hc⟩
  exact h
theorem bb_67_81 {d : Nat} {M : sm_M} {Q : Option sm_V → sm_M → Prop} {a0 : Nat} {r1 : Option Nat} {x2 : Int32} {x3 : Int32} {x4 : Int32}
    (h : Q none M) :
    sm_Run (d + 1) 67 81 [some (.inr (some a0)), some (.inr r1), some (.inl x2), some (.inl x3), some (.inl x4)] [] M Q := by
  refine ru_go (t := (192, [some (.inr (some a0)), some (.inr r1), some (.inl x2), some (.inl x3), some (.inl x4)], [], M)) sm_a67_81 rfl rfl (st_goto (pc := 81) (by decide)) ?_
  exact ru_ret sm_a67_192 (sm_rvv rfl) h
theorem bb_67_84 {d : Nat} {M : sm_M} {Q : Option sm_V → sm_M → Prop} {a0 : Nat} {r1 : Option Nat} {x2 : Int32} {x3 : Int32} {x4 : Int32}
    (h : ((x3 = 0 → ((¬ x2 = 13 → sm_Run (d + 1) 67 152 [some (.inr (some a0)), some (.inr r1), some (.inl x2), some (.inl x3), some (.inl x4)] [] M Q) ∧ (¬ (¬ x2 = 13) → sm_K M a0 = 15 ∧ ((¬ (sm_I M a0 10) = 0 → sm_Run (d + 1) 67 152 [some (.inr (some a0)), some (.inr r1), some (.inl x2), some (.inl x3), some (.inl x4)] [] M Q) ∧ (¬ (¬ (sm_I M a0 10) = 0) → ∃ b_5, r1 = some b_5 ∧ sm_K M b_5 = 24 ∧ ((¬ (sm_I M b_5 1) = 3 → sm_Run (d + 1) 67 152 [some (.inr (some a0)), some (.inr (some b_5)), some (.inl x2), some (.inl x3), some (.inl x4)] [] M Q) ∧ (¬ (¬ (sm_I M b_5 1) = 3) → ((¬ (sm_I M b_5 4) = 8 → sm_Run (d + 1) 67 152 [some (.inr (some a0)), some (.inr (some b_5)), some (.inl x2), some (.inl x3), some (.inl x4)] [] M Q) ∧ (¬ (¬ (sm_I M b_5 4) = 8) → ∃ b_10, sm_R M a0 8 = some b_10 ∧ sm_K M b_10 = 12 ∧ sm_Run d 53 0 (sm_ent 53 [.inr (some b_10), .inr (some a0), .inr (some b_5)]) [] M (fun v M1 => sm_Run (d + 1) 67 144 [some (.inr (some a0)), some (.inr (some b_5)), some (.inl x2), some (.inl x3), some (.inl x4)] (v.toList ++ []) M1 Q)))))))))) ∧ (¬ (x3 = 0) → ∃ b_13, r1 = some b_13 ∧ sm_K M b_13 = 24 ∧ sm_K M a0 = 15 ∧ Q none (sm_putI (sm_putI M a0 9 (sm_I M b_13 1)) a0 10 x4)))) :
    sm_Run (d + 1) 67 84 [some (.inr (some a0)), some (.inr r1), some (.inl x2), some (.inl x3), some (.inl x4)] [] M Q := by
  refine ru_go (t := (85, [some (.inr (some a0)), some (.inr r1), some (.inl x2), some (.inl x3), some (.inl x4)], [.inl x3], M)) sm_a67_84 rfl rfl rfl ?_
  refine ru_if (pc := 85) (p := 105) (p2 := 88) sm_a67_85 (by decide) rfl ⟨fun hc_1 => ?_, fun hc_1 => ?_⟩
  · have h := h.1 hc_1
    refine ru_go (t := (106, [some (.inr (some a0)), some (.inr r1), some (.inl x2), some (.inl x3), some (.inl x4)], [.inl x2], M)) sm_a67_105 rfl rfl rfl ?_
    refine ru_go (t := (108, [some (.inr (some a0)), some (.inr r1), some (.inl x2), some (.inl x3), some (.inl x4)], [.inl 13, .inl x2], M)) sm_a67_106 rfl rfl (st_bipush (by decide)) ?_
    refine ru_icmp (pc := 108) (p := 152) (p2 := 111) sm_a67_108 (by decide) rfl ⟨fun hc_2 => ?_, fun hc_2 => ?_⟩
    · have h := h.1 hc_2
      exact h
    · have h := h.2 hc_2
      refine ru_go (t := (112, [some (.inr (some a0)), some (.inr r1), some (.inl x2), some (.inl x3), some (.inl x4)], [.inr (some a0)], M)) sm_a67_111 rfl rfl rfl ?_
      obtain ⟨h_3, h⟩ := h
      refine ru_go (t := (115, [some (.inr (some a0)), some (.inr r1), some (.inl x2), some (.inl x3), some (.inl x4)], [.inl (sm_I M a0 10)], M)) sm_a67_112 rfl rfl (st_getI h_3 rfl) ?_
      refine ru_if (pc := 115) (p := 152) (p2 := 118) sm_a67_115 (by decide) rfl ⟨fun hc_4 => ?_, fun hc_4 => ?_⟩
      · have h := h.1 hc_4
        exact h
      · have h := h.2 hc_4
        refine ru_go (t := (119, [some (.inr (some a0)), some (.inr r1), some (.inl x2), some (.inl x3), some (.inl x4)], [.inr r1], M)) sm_a67_118 rfl rfl rfl ?_
        obtain ⟨b_5, hb_6, h⟩ := h
        rw [hb_6]
        obtain ⟨h_7, h⟩ := h
        refine ru_go (t := (122, [some (.inr (some a0)), some (.inr (some b_5)), some (.inl x2), some (.inl x3), some (.inl x4)], [.inl (sm_I M b_5 1)], M)) sm_a67_119 rfl rfl (st_getI h_7 rfl) ?_
        refine ru_go (t := (123, [some (.inr (some a0)), some (.inr (some b_5)), some (.inl x2), some (.inl x3), some (.inl x4)], [.inl 3, .inl (sm_I M b_5 1)], M)) sm_a67_122 rfl rfl (st_iconst (by decide)) ?_
        refine ru_icmp (pc := 123) (p := 152) (p2 := 126) sm_a67_123 (by decide) rfl ⟨fun hc_8 => ?_, fun hc_8 => ?_⟩
        · have h := h.1 hc_8
          exact h
        · have h := h.2 hc_8
          refine ru_go (t := (127, [some (.inr (some a0)), some (.inr (some b_5)), some (.inl x2), some (.inl x3), some (.inl x4)], [.inr (some b_5)], M)) sm_a67_126 rfl rfl rfl ?_
          refine ru_go (t := (130, [some (.inr (some a0)), some (.inr (some b_5)), some (.inl x2), some (.inl x3), some (.inl x4)], [.inl (sm_I M b_5 4)], M)) sm_a67_127 rfl rfl (st_getI h_7 rfl) ?_
          refine ru_go (t := (132, [some (.inr (some a0)), some (.inr (some b_5)), some (.inl x2), some (.inl x3), some (.inl x4)], [.inl 8, .inl (sm_I M b_5 4)], M)) sm_a67_130 rfl rfl (st_bipush (by decide)) ?_
          refine ru_icmp (pc := 132) (p := 152) (p2 := 135) sm_a67_132 (by decide) rfl ⟨fun hc_9 => ?_, fun hc_9 => ?_⟩
          · have h := h.1 hc_9
            exact h
          · have h := h.2 hc_9
            refine ru_go (t := (136, [some (.inr (some a0)), some (.inr (some b_5)), some (.inl x2), some (.inl x3), some (.inl x4)], [.inr (some a0)], M)) sm_a67_135 rfl rfl rfl ?_
            refine ru_go (t := (139, [some (.inr (some a0)), some (.inr (some b_5)), some (.inl x2), some (.inl x3), some (.inl x4)], [.inr (sm_R M a0 8)], M)) sm_a67_136 rfl rfl (st_getR h_3 rfl rfl) ?_
            refine ru_go (t := (140, [some (.inr (some a0)), some (.inr (some b_5)), some (.inl x2), some (.inl x3), some (.inl x4)], [.inr (some a0), .inr (sm_R M a0 8)], M)) sm_a67_139 rfl rfl rfl ?_
            refine ru_go (t := (141, [some (.inr (some a0)), some (.inr (some b_5)), some (.inl x2), some (.inl x3), some (.inl x4)], [.inr (some b_5), .inr (some a0), .inr (sm_R M a0 8)], M)) sm_a67_140 rfl rfl rfl ?_
            obtain ⟨b_10, hb_11, h⟩ := h
            rw [hb_11]
            obtain ⟨h_12, h⟩ := h
            exact ru_call (p := 144) sm_a67_141 rfl (sc_virt (Or.inl rfl) rfl rfl h_12 (Nat.le_of_ble_eq_true rfl)) rfl h
  · have h := h.2 hc_1
    refine ru_go (t := (89, [some (.inr (some a0)), some (.inr r1), some (.inl x2), some (.inl x3), some (.inl x4)], [.inr (some a0)], M)) sm_a67_88 rfl rfl rfl ?_
    refine ru_go (t := (90, [some (.inr (some a0)), some (.inr r1), some (.inl x2), some (.inl x3), some (.inl x4)], [.inr r1, .inr (some a0)], M)) sm_a67_89 rfl rfl rfl ?_
    obtain ⟨b_13, hb_14, h⟩ := h
    rw [hb_14]
    obtain ⟨h_15, h⟩ := h
    refine ru_go (t := (93, [some (.inr (some a0)), some (.inr (some b_13)), some (.inl x2), some (.inl x3), some (.inl x4)], [.inl (sm_I M b_13 1), .inr (some a0)], M)) sm_a67_90 rfl rfl (st_getI h_15 rfl) ?_
    obtain ⟨h_16, h⟩ := h
    refine ru_go (t := (96, [some (.inr (some a0)), some (.inr (some b_13)), some (.inl x2), some (.inl x3), some (.inl x4)], [], sm_putI M a0 9 (sm_I M b_13 1))) sm_a67_93 rfl rfl (st_putI h_16 rfl) ?_
    refine ru_go (t := (97, [some (.inr (some a0)), some (.inr (some b_13)), some (.inl x2), some (.inl x3), some (.inl x4)], [.inr (some a0)], sm_putI M a0 9 (sm_I M b_13 1))) sm_a67_96 rfl rfl rfl ?_
    refine ru_go (t := (99, [some (.inr (some a0)), some (.inr (some b_13)), some (.inl x2), some (.inl x3), some (.inl x4)], [.inl x4, .inr (some a0)], sm_putI M a0 9 (sm_I M b_13 1))) sm_a67_97 rfl rfl rfl ?_
    refine ru_go (t := (102, [some (.inr (some a0)), some (.inr (some b_13)), some (.inl x2), some (.inl x3), some (.inl x4)], [], sm_putI (sm_putI M a0 9 (sm_I M b_13 1)) a0 10 x4)) sm_a67_99 rfl rfl (st_putI h_16 rfl) ?_
    refine ru_go (t := (192, [some (.inr (some a0)), some (.inr (some b_13)), some (.inl x2), some (.inl x3), some (.inl x4)], [], sm_putI (sm_putI M a0 9 (sm_I M b_13 1)) a0 10 x4)) sm_a67_102 rfl rfl (st_goto (pc := 102) (by decide)) ?_
    exact ru_ret sm_a67_192 (sm_rvv rfl) h
theorem bb_67_144 {d : Nat} {M : sm_M} {Q : Option sm_V → sm_M → Prop} {a0 : Nat} {r1 : Option Nat} {x2 : Int32} {x3 : Int32} {x4 : Int32}
    (h : sm_K M a0 = 15 ∧ sm_Run d 65 0 (sm_ent 65 [.inr (some a0), .inl 2]) [] M (fun v M1 => sm_Run (d + 1) 67 149 [some (.inr (some a0)), some (.inr r1), some (.inl x2), some (.inl x3), some (.inl x4)] (v.toList ++ []) M1 Q)) :
    sm_Run (d + 1) 67 144 [some (.inr (some a0)), some (.inr r1), some (.inl x2), some (.inl x3), some (.inl x4)] [] M Q := by
  refine ru_go (t := (145, [some (.inr (some a0)), some (.inr r1), some (.inl x2), some (.inl x3), some (.inl x4)], [.inr (some a0)], M)) sm_a67_144 rfl rfl rfl ?_
  refine ru_go (t := (146, [some (.inr (some a0)), some (.inr r1), some (.inl x2), some (.inl x3), some (.inl x4)], [.inl 2, .inr (some a0)], M)) sm_a67_145 rfl rfl (st_iconst (by decide)) ?_
  obtain ⟨h_1, h⟩ := h
  exact ru_call (p := 149) sm_a67_146 rfl (sc_virt (Or.inl rfl) rfl rfl h_1 (Nat.le_of_ble_eq_true rfl)) rfl h
theorem bb_67_149 {d : Nat} {M : sm_M} {Q : Option sm_V → sm_M → Prop} {a0 : Nat} {r1 : Option Nat} {x2 : Int32} {x3 : Int32} {x4 : Int32}
    (h : Q none M) :
    sm_Run (d + 1) 67 149 [some (.inr (some a0)), some (.inr r1), some (.inl x2), some (.inl x3), some (.inl x4)] [] M Q := by
  refine ru_go (t := (192, [some (.inr (some a0)), some (.inr r1), some (.inl x2), some (.inl x3), some (.inl x4)], [], M)) sm_a67_149 rfl rfl (st_goto (pc := 149) (by decide)) ?_
  exact ru_ret sm_a67_192 (sm_rvv rfl) h
theorem bb_67_152 {d : Nat} {M : sm_M} {Q : Option sm_V → sm_M → Prop} {a0 : Nat} {r1 : Option Nat} {x2 : Int32} {x3 : Int32} {x4 : Int32}
    (h : ((¬ x2 = 1 → sm_Run (d + 1) 67 175 [some (.inr (some a0)), some (.inr r1), some (.inl x2), some (.inl x3), some (.inl x4)] [] M Q) ∧ (¬ (¬ x2 = 1) → ∃ b_2, r1 = some b_2 ∧ sm_K M b_2 = 24 ∧ sm_Run d 24 0 (sm_ent 24 [.inl (sm_I M b_2 1)]) [] M (fun v M1 => sm_Run (d + 1) 67 164 [some (.inr (some a0)), some (.inr (some b_2)), some (.inl x2), some (.inl x3), some (.inl x4)] (v.toList ++ []) M1 Q)))) :
    sm_Run (d + 1) 67 152 [some (.inr (some a0)), some (.inr r1), some (.inl x2), some (.inl x3), some (.inl x4)] [] M Q := by
  refine ru_go (t := (153, [some (.inr (some a0)), some (.inr r1), some (.inl x2), some (.inl x3), some (.inl x4)], [.inl x2], M)) sm_a67_152 rfl rfl rfl ?_
  refine ru_go (t := (154, [some (.inr (some a0)), some (.inr r1), some (.inl x2), some (.inl x3), some (.inl x4)], [.inl 1, .inl x2], M)) sm_a67_153 rfl rfl (st_iconst (by decide)) ?_
  refine ru_icmp (pc := 154) (p := 175) (p2 := 157) sm_a67_154 (by decide) rfl ⟨fun hc_1 => ?_, fun hc_1 => ?_⟩
  · have h := h.1 hc_1
    exact h
  · have h := h.2 hc_1
    refine ru_go (t := (158, [some (.inr (some a0)), some (.inr r1), some (.inl x2), some (.inl x3), some (.inl x4)], [.inr r1], M)) sm_a67_157 rfl rfl rfl ?_
    obtain ⟨b_2, hb_3, h⟩ := h
    rw [hb_3]
    obtain ⟨h_4, h⟩ := h
    refine ru_go (t := (161, [some (.inr (some a0)), some (.inr (some b_2)), some (.inl x2), some (.inl x3), some (.inl x4)], [.inl (sm_I M b_2 1)], M)) sm_a67_158 rfl rfl (st_getI h_4 rfl) ?_
    exact ru_call (p := 164) sm_a67_161 rfl (sc_stat (Or.inr rfl) (Nat.le_of_ble_eq_true rfl) rfl rfl (Nat.le_of_ble_eq_true rfl)) rfl h
theorem bb_67_164 {d : Nat} {M : sm_M} {Q : Option sm_V → sm_M → Prop} {a0 : Nat} {r1 : Option Nat} {x2 : Int32} {x3 : Int32} {x4 : Int32} {y0 : Int32}
    (h : ((y0 = 0 → sm_Run (d + 1) 67 175 [some (.inr (some a0)), some (.inr r1), some (.inl x2), some (.inl x3), some (.inl x4)] [] M Q) ∧ (¬ (y0 = 0) → sm_K M a0 = 15 ∧ sm_Run d 69 0 (sm_ent 69 [.inr (some a0), .inr r1]) [] M (fun v M1 => sm_Run (d + 1) 67 172 [some (.inr (some a0)), some (.inr r1), some (.inl x2), some (.inl x3), some (.inl x4)] (v.toList ++ []) M1 Q)))) :
    sm_Run (d + 1) 67 164 [some (.inr (some a0)), some (.inr r1), some (.inl x2), some (.inl x3), some (.inl x4)] [.inl y0] M Q := by
  refine ru_if (pc := 164) (p := 175) (p2 := 167) sm_a67_164 (by decide) rfl ⟨fun hc_1 => ?_, fun hc_1 => ?_⟩
  · have h := h.1 hc_1
    exact h
  · have h := h.2 hc_1
    refine ru_go (t := (168, [some (.inr (some a0)), some (.inr r1), some (.inl x2), some (.inl x3), some (.inl x4)], [.inr (some a0)], M)) sm_a67_167 rfl rfl rfl ?_
    refine ru_go (t := (169, [some (.inr (some a0)), some (.inr r1), some (.inl x2), some (.inl x3), some (.inl x4)], [.inr r1, .inr (some a0)], M)) sm_a67_168 rfl rfl rfl ?_
    obtain ⟨h_2, h⟩ := h
    exact ru_call (p := 172) sm_a67_169 rfl (sc_virt (Or.inl rfl) rfl rfl h_2 (Nat.le_of_ble_eq_true rfl)) rfl h
theorem bb_67_172 {d : Nat} {M : sm_M} {Q : Option sm_V → sm_M → Prop} {a0 : Nat} {r1 : Option Nat} {x2 : Int32} {x3 : Int32} {x4 : Int32}
    (h : Q none M) :
    sm_Run (d + 1) 67 172 [some (.inr (some a0)), some (.inr r1), some (.inl x2), some (.inl x3), some (.inl x4)] [] M Q := by
  refine ru_go (t := (192, [some (.inr (some a0)), some (.inr r1), some (.inl x2), some (.inl x3), some (.inl x4)], [], M)) sm_a67_172 rfl rfl (st_goto (pc := 172) (by decide)) ?_
  exact ru_ret sm_a67_192 (sm_rvv rfl) h
theorem bb_67_175 {d : Nat} {M : sm_M} {Q : Option sm_V → sm_M → Prop} {a0 : Nat} {r1 : Option Nat} {x2 : Int32} {x3 : Int32} {x4 : Int32}
    (h : ((¬ x2 = 2 → Q none M) ∧ (¬ (¬ x2 = 2) → ∃ b_2, r1 = some b_2 ∧ sm_K M b_2 = 24 ∧ ((¬ (sm_I M b_2 1) = 2 → Q none M) ∧ (¬ (¬ (sm_I M b_2 1) = 2) → sm_K M a0 = 15 ∧ sm_Run d 70 0 (sm_ent 70 [.inr (some a0)]) [] M (fun v M1 => sm_Run (d + 1) 67 192 [some (.inr (some a0)), some (.inr (some b_2)), some (.inl x2), some (.inl x3), some (.inl x4)] (v.toList ++ []) M1 Q)))))) :
    sm_Run (d + 1) 67 175 [some (.inr (some a0)), some (.inr r1), some (.inl x2), some (.inl x3), some (.inl x4)] [] M Q := by
  refine ru_go (t := (176, [some (.inr (some a0)), some (.inr r1), some (.inl x2), some (.inl x3), some (.inl x4)], [.inl x2], M)) sm_a67_175 rfl rfl rfl ?_
  refine ru_go (t := (177, [some (.inr (some a0)), some (.inr r1), some (.inl x2), some (.inl x3), some (.inl x4)], [.inl 2, .inl x2], M)) sm_a67_176 rfl rfl (st_iconst (by decide)) ?_
  refine ru_icmp (pc := 177) (p := 192) (p2 := 180) sm_a67_177 (by decide) rfl ⟨fun hc_1 => ?_, fun hc_1 => ?_⟩
  · have h := h.1 hc_1
    exact ru_ret sm_a67_192 (sm_rvv rfl) h
  · have h := h.2 hc_1
    refine ru_go (t := (181, [some (.inr (some a0)), some (.inr r1), some (.inl x2), some (.inl x3), some (.inl x4)], [.inr r1], M)) sm_a67_180 rfl rfl rfl ?_
    obtain ⟨b_2, hb_3, h⟩ := h
    rw [hb_3]
    obtain ⟨h_4, h⟩ := h
    refine ru_go (t := (184, [some (.inr (some a0)), some (.inr (some b_2)), some (.inl x2), some (.inl x3), some (.inl x4)], [.inl (sm_I M b_2 1)], M)) sm_a67_181 rfl rfl (st_getI h_4 rfl) ?_
    refine ru_go (t := (185, [some (.inr (some a0)), some (.inr (some b_2)), some (.inl x2), some (.inl x3), some (.inl x4)], [.inl 2, .inl (sm_I M b_2 1)], M)) sm_a67_184 rfl rfl (st_iconst (by decide)) ?_
    refine ru_icmp (pc := 185) (p := 192) (p2 := 188) sm_a67_185 (by decide) rfl ⟨fun hc_5 => ?_, fun hc_5 => ?_⟩
    · have h := h.1 hc_5
      exact ru_ret sm_a67_192 (sm_rvv rfl) h
    · have h := h.2 hc_5
      refine ru_go (t := (189, [some (.inr (some a0)), some (.inr (some b_2)), some (.inl x2), some (.inl x3), some (.inl x4)], [.inr (some a0)], M)) sm_a67_188 rfl rfl rfl ?_
      obtain ⟨h_6, h⟩ := h
      exact ru_call (p := 192) sm_a67_189 rfl (sc_virt (Or.inl rfl) rfl rfl h_6 (Nat.le_of_ble_eq_true rfl)) rfl h
theorem bb_67_192 {d : Nat} {M : sm_M} {Q : Option sm_V → sm_M → Prop} {a0 : Nat} {r1 : Option Nat} {x2 : Int32} {x3 : Int32} {x4 : Int32}
    (h : Q none M) :
    sm_Run (d + 1) 67 192 [some (.inr (some a0)), some (.inr r1), some (.inl x2), some (.inl x3), some (.inl x4)] [] M Q := by
  exact ru_ret sm_a67_192 (sm_rvv rfl) h

/-! WireBus$Device.hearIn:(I)V -/
theorem sm_a68_0 : sm_at 68 0 = some (.iload_n 1, 1, (0, 0, 0, 0)) := by decide +kernel
theorem sm_a68_1 : sm_at 68 1 = some (.ifCond .ne 12, 3, (0, 0, 0, 0)) := by decide +kernel
theorem sm_a68_4 : sm_at 68 4 = some (.aload_n 0, 1, (0, 0, 0, 0)) := by decide +kernel
theorem sm_a68_5 : sm_at 68 5 = some (.getfield 31, 3, (4, 8, 0, 270)) := by decide +kernel
theorem sm_a68_8 : sm_at 68 8 = some (.aload_n 0, 1, (0, 0, 0, 0)) := by decide +kernel
theorem sm_a68_9 : sm_at 68 9 = some (.invokevirtual 127, 3, (10, 55, 3, 859)) := by decide +kernel
theorem sm_a68_12 : sm_at 68 12 = some (.return_, 1, (0, 0, 0, 0)) := by decide +kernel
theorem sm_a68_13 : sm_at 68 13 = some (.aload_n 0, 1, (0, 0, 0, 0)) := by decide +kernel
theorem sm_a68_14 : sm_at 68 14 = some (.iload_n 1, 1, (0, 0, 0, 0)) := by decide +kernel
theorem sm_a68_15 : sm_at 68 15 = some (.sipush 128, 3, (0, 0, 0, 0)) := by decide +kernel
theorem sm_a68_18 : sm_at 68 18 = some (.iadd, 1, (0, 0, 0, 0)) := by decide +kernel
theorem sm_a68_19 : sm_at 68 19 = some (.invokevirtual 54, 3, (10, 62, 4, 527)) := by decide +kernel
theorem sm_a68_22 : sm_at 68 22 = some (.astore_n 2, 1, (0, 0, 0, 0)) := by decide +kernel
theorem sm_a68_23 : sm_at 68 23 = some (.aload_n 2, 1, (0, 0, 0, 0)) := by decide +kernel
theorem sm_a68_24 : sm_at 68 24 = some (.ifnull 16, 3, (0, 0, 0, 0)) := by decide +kernel
theorem sm_a68_27 : sm_at 68 27 = some (.aload_n 0, 1, (0, 0, 0, 0)) := by decide +kernel
theorem sm_a68_28 : sm_at 68 28 = some (.getfield 15, 3, (4, 3, 0, 259)) := by decide +kernel
theorem sm_a68_31 : sm_at 68 31 = some (.iconst 3, 1, (0, 0, 0, 0)) := by decide +kernel
theorem sm_a68_32 : sm_at 68 32 = some (.if_icmp .ne 8, 3, (0, 0, 0, 0)) := by decide +kernel
theorem sm_a68_35 : sm_at 68 35 = some (.aload_n 2, 1, (0, 0, 0, 0)) := by decide +kernel
theorem sm_a68_36 : sm_at 68 36 = some (.aload_n 0, 1, (0, 0, 0, 0)) := by decide +kernel
theorem sm_a68_37 : sm_at 68 37 = some (.invokevirtual 130, 3, (10, 82, 5, 877)) := by decide +kernel
theorem sm_a68_40 : sm_at 68 40 = some (.return_, 1, (0, 0, 0, 0)) := by decide +kernel
theorem bb_68_0 {d : Nat} {M : sm_M} {Q : Option sm_V → sm_M → Prop} {a0 : Nat} {x1 : Int32} {z2 : Option sm_V}
    (h : ((¬ x1 = 0 → sm_K M a0 = 15 ∧ sm_Run d 62 0 (sm_ent 62 [.inr (some a0), .inl (x1 + 128)]) [] M (fun v M1 => sm_Run (d + 1) 68 22 [some (.inr (some a0)), some (.inl x1), z2] (v.toList ++ []) M1 Q)) ∧ (¬ (¬ x1 = 0) → sm_K M a0 = 15 ∧ ∃ b_4, sm_R M a0 8 = some b_4 ∧ sm_K M b_4 = 12 ∧ sm_Run d 55 0 (sm_ent 55 [.inr (some b_4), .inr (some a0)]) [] M (fun v M1 => sm_Run (d + 1) 68 12 [some (.inr (some a0)), some (.inl x1), z2] (v.toList ++ []) M1 Q)))) :
    sm_Run (d + 1) 68 0 [some (.inr (some a0)), some (.inl x1), z2] [] M Q := by
  refine ru_go (t := (1, [some (.inr (some a0)), some (.inl x1), z2], [.inl x1], M)) sm_a68_0 rfl rfl rfl ?_
  refine ru_if (pc := 1) (p := 13) (p2 := 4) sm_a68_1 (by decide) rfl ⟨fun hc_1 => ?_, fun hc_1 => ?_⟩
  · have h := h.1 hc_1
    refine ru_go (t := (14, [some (.inr (some a0)), some (.inl x1), z2], [.inr (some a0)], M)) sm_a68_13 rfl rfl rfl ?_
    refine ru_go (t := (15, [some (.inr (some a0)), some (.inl x1), z2], [.inl x1, .inr (some a0)], M)) sm_a68_14 rfl rfl rfl ?_
    refine ru_go (t := (18, [some (.inr (some a0)), some (.inl x1), z2], [.inl 128, .inl x1, .inr (some a0)], M)) sm_a68_15 rfl rfl (st_sipush (by decide)) ?_
    refine ru_go (t := (19, [some (.inr (some a0)), some (.inl x1), z2], [.inl (x1 + 128), .inr (some a0)], M)) sm_a68_18 rfl rfl rfl ?_
    obtain ⟨h_2, h⟩ := h
    exact ru_call (p := 22) sm_a68_19 rfl (sc_virt (Or.inl rfl) rfl rfl h_2 (Nat.le_of_ble_eq_true rfl)) rfl h
  · have h := h.2 hc_1
    refine ru_go (t := (5, [some (.inr (some a0)), some (.inl x1), z2], [.inr (some a0)], M)) sm_a68_4 rfl rfl rfl ?_
    obtain ⟨h_3, h⟩ := h
    refine ru_go (t := (8, [some (.inr (some a0)), some (.inl x1), z2], [.inr (sm_R M a0 8)], M)) sm_a68_5 rfl rfl (st_getR h_3 rfl rfl) ?_
    refine ru_go (t := (9, [some (.inr (some a0)), some (.inl x1), z2], [.inr (some a0), .inr (sm_R M a0 8)], M)) sm_a68_8 rfl rfl rfl ?_
    obtain ⟨b_4, hb_5, h⟩ := h
    rw [hb_5]
    obtain ⟨h_6, h⟩ := h
    exact ru_call (p := 12) sm_a68_9 rfl (sc_virt (Or.inl rfl) rfl rfl h_6 (Nat.le_of_ble_eq_true rfl)) rfl h
theorem bb_68_12 {d : Nat} {M : sm_M} {Q : Option sm_V → sm_M → Prop} {a0 : Nat} {x1 : Int32} {z2 : Option sm_V}
    (h : Q none M) :
    sm_Run (d + 1) 68 12 [some (.inr (some a0)), some (.inl x1), z2] [] M Q := by
  exact ru_ret sm_a68_12 (sm_rvv rfl) h
theorem bb_68_22 {d : Nat} {M : sm_M} {Q : Option sm_V → sm_M → Prop} {a0 : Nat} {x1 : Int32} {z2 : Option sm_V} {t0 : Option Nat}
    (h : ((t0 = none → Q none M) ∧ (∀ b_1, t0 = some b_1 → sm_K M a0 = 15 ∧ ((¬ (sm_I M a0 3) = 3 → Q none M) ∧ (¬ (¬ (sm_I M a0 3) = 3) → sm_K M b_1 = 18 ∧ sm_Run d 82 0 (sm_ent 82 [.inr (some b_1), .inr (some a0)]) [] M (fun v M1 => sm_Run (d + 1) 68 40 [some (.inr (some a0)), some (.inl x1), some (.inr (some b_1))] (v.toList ++ []) M1 Q)))))) :
    sm_Run (d + 1) 68 22 [some (.inr (some a0)), some (.inl x1), z2] [.inr t0] M Q := by
  refine ru_go (t := (23, [some (.inr (some a0)), some (.inl x1), some (.inr t0)], [], M)) sm_a68_22 rfl rfl rfl ?_
  refine ru_go (t := (24, [some (.inr (some a0)), some (.inl x1), some (.inr t0)], [.inr t0], M)) sm_a68_23 rfl rfl rfl ?_
  refine ru_ifnull (pc := 24) (p := 40) (p2 := 27) sm_a68_24 (by decide) rfl ⟨fun hc => ?_, fun b_1 hc => ?_⟩
  · have h := h.1 hc
    try rw [hc]
    exact ru_ret sm_a68_40 (sm_rvv rfl) h
  · have h := h.2 b_1 hc
    try rw [hc]
    refine ru_go (t := (28, [some (.inr (some a0)), some (.inl x1), some (.inr (some b_1))], [.inr (some a0)], M)) sm_a68_27 rfl rfl rfl ?_
    obtain ⟨h_3, h⟩ := h
    refine ru_go (t := (31, [some (.inr (some a0)), some (.inl x1), some (.inr (some b_1))], [.inl (sm_I M a0 3)], M)) sm_a68_28 rfl rfl (st_getI h_3 rfl) ?_
    refine ru_go (t := (32, [some (.inr (some a0)), some (.inl x1), some (.inr (some b_1))], [.inl 3, .inl (sm_I M a0 3)], M)) sm_a68_31 rfl rfl (st_iconst (by decide)) ?_
    refine ru_icmp (pc := 32) (p := 40) (p2 := 35) sm_a68_32 (by decide) rfl ⟨fun hc_4 => ?_, fun hc_4 => ?_⟩
    · have h := h.1 hc_4
      exact ru_ret sm_a68_40 (sm_rvv rfl) h
    · have h := h.2 hc_4
      refine ru_go (t := (36, [some (.inr (some a0)), some (.inl x1), some (.inr (some b_1))], [.inr (some b_1)], M)) sm_a68_35 rfl rfl rfl ?_
      refine ru_go (t := (37, [some (.inr (some a0)), some (.inl x1), some (.inr (some b_1))], [.inr (some a0), .inr (some b_1)], M)) sm_a68_36 rfl rfl rfl ?_
      obtain ⟨h_5, h⟩ := h
      exact ru_call (p := 40) sm_a68_37 rfl (sc_virt (Or.inl rfl) rfl rfl h_5 (Nat.le_of_ble_eq_true rfl)) rfl h
theorem bb_68_40 {d : Nat} {M : sm_M} {Q : Option sm_V → sm_M → Prop} {a0 : Nat} {x1 : Int32} {r2 : Option Nat}
    (h : Q none M) :
    sm_Run (d + 1) 68 40 [some (.inr (some a0)), some (.inl x1), some (.inr r2)] [] M Q := by
  exact ru_ret sm_a68_40 (sm_rvv rfl) h

/-! WireBus$Device.hearOut:(LWireBus$Packet;)V -/
theorem sm_a69_0 : sm_at 69 0 = some (.aload_n 0, 1, (0, 0, 0, 0)) := by decide +kernel
theorem sm_a69_1 : sm_at 69 1 = some (.getfield 100, 3, (4, 10, 0, 272)) := by decide +kernel
theorem sm_a69_4 : sm_at 69 4 = some (.ifCond .ne 13, 3, (0, 0, 0, 0)) := by decide +kernel
theorem sm_a69_7 : sm_at 69 7 = some (.aload_n 0, 1, (0, 0, 0, 0)) := by decide +kernel
theorem sm_a69_8 : sm_at 69 8 = some (.getfield 31, 3, (4, 8, 0, 270)) := by decide +kernel
theorem sm_a69_11 : sm_at 69 11 = some (.aload_n 0, 1, (0, 0, 0, 0)) := by decide +kernel
theorem sm_a69_12 : sm_at 69 12 = some (.aload_n 1, 1, (0, 0, 0, 0)) := by decide +kernel
theorem sm_a69_13 : sm_at 69 13 = some (.invokevirtual 131, 3, (10, 57, 3, 939)) := by decide +kernel
theorem sm_a69_16 : sm_at 69 16 = some (.return_, 1, (0, 0, 0, 0)) := by decide +kernel
theorem sm_a69_17 : sm_at 69 17 = some (.aload_n 0, 1, (0, 0, 0, 0)) := by decide +kernel
theorem sm_a69_18 : sm_at 69 18 = some (.aload_n 0, 1, (0, 0, 0, 0)) := by decide +kernel
theorem sm_a69_19 : sm_at 69 19 = some (.getfield 100, 3, (4, 10, 0, 272)) := by decide +kernel
theorem sm_a69_22 : sm_at 69 22 = some (.invokevirtual 54, 3, (10, 62, 4, 527)) := by decide +kernel
theorem sm_a69_25 : sm_at 69 25 = some (.astore_n 2, 1, (0, 0, 0, 0)) := by decide +kernel
theorem sm_a69_26 : sm_at 69 26 = some (.aload_n 2, 1, (0, 0, 0, 0)) := by decide +kernel
theorem sm_a69_27 : sm_at 69 27 = some (.ifnull 17, 3, (0, 0, 0, 0)) := by decide +kernel
theorem sm_a69_30 : sm_at 69 30 = some (.aload_n 0, 1, (0, 0, 0, 0)) := by decide +kernel
theorem sm_a69_31 : sm_at 69 31 = some (.getfield 15, 3, (4, 3, 0, 259)) := by decide +kernel
theorem sm_a69_34 : sm_at 69 34 = some (.iconst 3, 1, (0, 0, 0, 0)) := by decide +kernel
theorem sm_a69_35 : sm_at 69 35 = some (.if_icmp .ne 9, 3, (0, 0, 0, 0)) := by decide +kernel
theorem sm_a69_38 : sm_at 69 38 = some (.aload_n 2, 1, (0, 0, 0, 0)) := by decide +kernel
theorem sm_a69_39 : sm_at 69 39 = some (.aload_n 0, 1, (0, 0, 0, 0)) := by decide +kernel
theorem sm_a69_40 : sm_at 69 40 = some (.aload_n 1, 1, (0, 0, 0, 0)) := by decide +kernel
theorem sm_a69_41 : sm_at 69 41 = some (.invokevirtual 133, 3, (10, 81, 5, 954)) := by decide +kernel
theorem sm_a69_44 : sm_at 69 44 = some (.return_, 1, (0, 0, 0, 0)) := by decide +kernel
theorem bb_69_0 {d : Nat} {M : sm_M} {Q : Option sm_V → sm_M → Prop} {a0 : Nat} {r1 : Option Nat} {z2 : Option sm_V}
    (h : sm_K M a0 = 15 ∧ ((¬ (sm_I M a0 10) = 0 → sm_Run d 62 0 (sm_ent 62 [.inr (some a0), .inl (sm_I M a0 10)]) [] M (fun v M1 => sm_Run (d + 1) 69 25 [some (.inr (some a0)), some (.inr r1), z2] (v.toList ++ []) M1 Q)) ∧ (¬ (¬ (sm_I M a0 10) = 0) → ∃ b_3, sm_R M a0 8 = some b_3 ∧ sm_K M b_3 = 12 ∧ sm_Run d 57 0 (sm_ent 57 [.inr (some b_3), .inr (some a0), .inr r1]) [] M (fun v M1 => sm_Run (d + 1) 69 16 [some (.inr (some a0)), some (.inr r1), z2] (v.toList ++ []) M1 Q)))) :
    sm_Run (d + 1) 69 0 [some (.inr (some a0)), some (.inr r1), z2] [] M Q := by
  refine ru_go (t := (1, [some (.inr (some a0)), some (.inr r1), z2], [.inr (some a0)], M)) sm_a69_0 rfl rfl rfl ?_
  obtain ⟨h_1, h⟩ := h
  refine ru_go (t := (4, [some (.inr (some a0)), some (.inr r1), z2], [.inl (sm_I M a0 10)], M)) sm_a69_1 rfl rfl (st_getI h_1 rfl) ?_
  refine ru_if (pc := 4) (p := 17) (p2 := 7) sm_a69_4 (by decide) rfl ⟨fun hc_2 => ?_, fun hc_2 => ?_⟩
  · have h := h.1 hc_2
    refine ru_go (t := (18, [some (.inr (some a0)), some (.inr r1), z2], [.inr (some a0)], M)) sm_a69_17 rfl rfl rfl ?_
    refine ru_go (t := (19, [some (.inr (some a0)), some (.inr r1), z2], [.inr (some a0), .inr (some a0)], M)) sm_a69_18 rfl rfl rfl ?_
    refine ru_go (t := (22, [some (.inr (some a0)), some (.inr r1), z2], [.inl (sm_I M a0 10), .inr (some a0)], M)) sm_a69_19 rfl rfl (st_getI h_1 rfl) ?_
    exact ru_call (p := 25) sm_a69_22 rfl (sc_virt (Or.inl rfl) rfl rfl h_1 (Nat.le_of_ble_eq_true rfl)) rfl h
  · have h := h.2 hc_2
    refine ru_go (t := (8, [some (.inr (some a0)), some (.inr r1), z2], [.inr (some a0)], M)) sm_a69_7 rfl rfl rfl ?_
    refine ru_go (t := (11, [some (.inr (some a0)), some (.inr r1), z2], [.inr (sm_R M a0 8)], M)) sm_a69_8 rfl rfl (st_getR h_1 rfl rfl) ?_
    refine ru_go (t := (12, [some (.inr (some a0)), some (.inr r1), z2], [.inr (some a0), .inr (sm_R M a0 8)], M)) sm_a69_11 rfl rfl rfl ?_
    refine ru_go (t := (13, [some (.inr (some a0)), some (.inr r1), z2], [.inr r1, .inr (some a0), .inr (sm_R M a0 8)], M)) sm_a69_12 rfl rfl rfl ?_
    obtain ⟨b_3, hb_4, h⟩ := h
    rw [hb_4]
    obtain ⟨h_5, h⟩ := h
    exact ru_call (p := 16) sm_a69_13 rfl (sc_virt (Or.inl rfl) rfl rfl h_5 (Nat.le_of_ble_eq_true rfl)) rfl h
theorem bb_69_16 {d : Nat} {M : sm_M} {Q : Option sm_V → sm_M → Prop} {a0 : Nat} {r1 : Option Nat} {z2 : Option sm_V}
    (h : Q none M) :
    sm_Run (d + 1) 69 16 [some (.inr (some a0)), some (.inr r1), z2] [] M Q := by
  exact ru_ret sm_a69_16 (sm_rvv rfl) h
theorem bb_69_25 {d : Nat} {M : sm_M} {Q : Option sm_V → sm_M → Prop} {a0 : Nat} {r1 : Option Nat} {z2 : Option sm_V} {t0 : Option Nat}
    (h : ((t0 = none → Q none M) ∧ (∀ b_1, t0 = some b_1 → sm_K M a0 = 15 ∧ ((¬ (sm_I M a0 3) = 3 → Q none M) ∧ (¬ (¬ (sm_I M a0 3) = 3) → sm_K M b_1 = 18 ∧ sm_Run d 81 0 (sm_ent 81 [.inr (some b_1), .inr (some a0), .inr r1]) [] M (fun v M1 => sm_Run (d + 1) 69 44 [some (.inr (some a0)), some (.inr r1), some (.inr (some b_1))] (v.toList ++ []) M1 Q)))))) :
    sm_Run (d + 1) 69 25 [some (.inr (some a0)), some (.inr r1), z2] [.inr t0] M Q := by
  refine ru_go (t := (26, [some (.inr (some a0)), some (.inr r1), some (.inr t0)], [], M)) sm_a69_25 rfl rfl rfl ?_
  refine ru_go (t := (27, [some (.inr (some a0)), some (.inr r1), some (.inr t0)], [.inr t0], M)) sm_a69_26 rfl rfl rfl ?_
  refine ru_ifnull (pc := 27) (p := 44) (p2 := 30) sm_a69_27 (by decide) rfl ⟨fun hc => ?_, fun b_1 hc => ?_⟩
  · have h := h.1 hc
    try rw [hc]
    exact ru_ret sm_a69_44 (sm_rvv rfl) h
  · have h := h.2 b_1 hc
    try rw [hc]
    refine ru_go (t := (31, [some (.inr (some a0)), some (.inr r1), some (.inr (some b_1))], [.inr (some a0)], M)) sm_a69_30 rfl rfl rfl ?_
    obtain ⟨h_3, h⟩ := h
    refine ru_go (t := (34, [some (.inr (some a0)), some (.inr r1), some (.inr (some b_1))], [.inl (sm_I M a0 3)], M)) sm_a69_31 rfl rfl (st_getI h_3 rfl) ?_
    refine ru_go (t := (35, [some (.inr (some a0)), some (.inr r1), some (.inr (some b_1))], [.inl 3, .inl (sm_I M a0 3)], M)) sm_a69_34 rfl rfl (st_iconst (by decide)) ?_
    refine ru_icmp (pc := 35) (p := 44) (p2 := 38) sm_a69_35 (by decide) rfl ⟨fun hc_4 => ?_, fun hc_4 => ?_⟩
    · have h := h.1 hc_4
      exact ru_ret sm_a69_44 (sm_rvv rfl) h
    · have h := h.2 hc_4
      refine ru_go (t := (39, [some (.inr (some a0)), some (.inr r1), some (.inr (some b_1))], [.inr (some b_1)], M)) sm_a69_38 rfl rfl rfl ?_
      refine ru_go (t := (40, [some (.inr (some a0)), some (.inr r1), some (.inr (some b_1))], [.inr (some a0), .inr (some b_1)], M)) sm_a69_39 rfl rfl rfl ?_
      refine ru_go (t := (41, [some (.inr (some a0)), some (.inr r1), some (.inr (some b_1))], [.inr r1, .inr (some a0), .inr (some b_1)], M)) sm_a69_40 rfl rfl rfl ?_
      obtain ⟨h_5, h⟩ := h
      exact ru_call (p := 44) sm_a69_41 rfl (sc_virt (Or.inl rfl) rfl rfl h_5 (Nat.le_of_ble_eq_true rfl)) rfl h
theorem bb_69_44 {d : Nat} {M : sm_M} {Q : Option sm_V → sm_M → Prop} {a0 : Nat} {r1 : Option Nat} {r2 : Option Nat}
    (h : Q none M) :
    sm_Run (d + 1) 69 44 [some (.inr (some a0)), some (.inr r1), some (.inr r2)] [] M Q := by
  exact ru_ret sm_a69_44 (sm_rvv rfl) h

/-! WireBus$Device.hearAck:()V -/
theorem sm_a70_0 : sm_at 70 0 = some (.aload_n 0, 1, (0, 0, 0, 0)) := by decide +kernel
theorem sm_a70_1 : sm_at 70 1 = some (.getfield 100, 3, (4, 10, 0, 272)) := by decide +kernel
theorem sm_a70_4 : sm_at 70 4 = some (.ifCond .ne 12, 3, (0, 0, 0, 0)) := by decide +kernel
theorem sm_a70_7 : sm_at 70 7 = some (.aload_n 0, 1, (0, 0, 0, 0)) := by decide +kernel
theorem sm_a70_8 : sm_at 70 8 = some (.getfield 31, 3, (4, 8, 0, 270)) := by decide +kernel
theorem sm_a70_11 : sm_at 70 11 = some (.aload_n 0, 1, (0, 0, 0, 0)) := by decide +kernel
theorem sm_a70_12 : sm_at 70 12 = some (.invokevirtual 134, 3, (10, 56, 3, 966)) := by decide +kernel
theorem sm_a70_15 : sm_at 70 15 = some (.return_, 1, (0, 0, 0, 0)) := by decide +kernel
theorem sm_a70_16 : sm_at 70 16 = some (.aload_n 0, 1, (0, 0, 0, 0)) := by decide +kernel
theorem sm_a70_17 : sm_at 70 17 = some (.aload_n 0, 1, (0, 0, 0, 0)) := by decide +kernel
theorem sm_a70_18 : sm_at 70 18 = some (.getfield 100, 3, (4, 10, 0, 272)) := by decide +kernel
theorem sm_a70_21 : sm_at 70 21 = some (.invokevirtual 54, 3, (10, 62, 4, 527)) := by decide +kernel
theorem sm_a70_24 : sm_at 70 24 = some (.astore_n 1, 1, (0, 0, 0, 0)) := by decide +kernel
theorem sm_a70_25 : sm_at 70 25 = some (.aload_n 1, 1, (0, 0, 0, 0)) := by decide +kernel
theorem sm_a70_26 : sm_at 70 26 = some (.ifnull 7, 3, (0, 0, 0, 0)) := by decide +kernel
theorem sm_a70_29 : sm_at 70 29 = some (.aload_n 1, 1, (0, 0, 0, 0)) := by decide +kernel
theorem sm_a70_30 : sm_at 70 30 = some (.invokevirtual 136, 3, (10, 83, 5, 970)) := by decide +kernel
theorem sm_a70_33 : sm_at 70 33 = some (.return_, 1, (0, 0, 0, 0)) := by decide +kernel
theorem bb_70_0 {d : Nat} {M : sm_M} {Q : Option sm_V → sm_M → Prop} {a0 : Nat} {z1 : Option sm_V}
    (h : sm_K M a0 = 15 ∧ ((¬ (sm_I M a0 10) = 0 → sm_Run d 62 0 (sm_ent 62 [.inr (some a0), .inl (sm_I M a0 10)]) [] M (fun v M1 => sm_Run (d + 1) 70 24 [some (.inr (some a0)), z1] (v.toList ++ []) M1 Q)) ∧ (¬ (¬ (sm_I M a0 10) = 0) → ∃ b_3, sm_R M a0 8 = some b_3 ∧ sm_K M b_3 = 12 ∧ sm_Run d 56 0 (sm_ent 56 [.inr (some b_3), .inr (some a0)]) [] M (fun v M1 => sm_Run (d + 1) 70 15 [some (.inr (some a0)), z1] (v.toList ++ []) M1 Q)))) :
    sm_Run (d + 1) 70 0 [some (.inr (some a0)), z1] [] M Q := by
  refine ru_go (t := (1, [some (.inr (some a0)), z1], [.inr (some a0)], M)) sm_a70_0 rfl rfl rfl ?_
  obtain ⟨h_1, h⟩ := h
  refine ru_go (t := (4, [some (.inr (some a0)), z1], [.inl (sm_I M a0 10)], M)) sm_a70_1 rfl rfl (st_getI h_1 rfl) ?_
  refine ru_if (pc := 4) (p := 16) (p2 := 7) sm_a70_4 (by decide) rfl ⟨fun hc_2 => ?_, fun hc_2 => ?_⟩
  · have h := h.1 hc_2
    refine ru_go (t := (17, [some (.inr (some a0)), z1], [.inr (some a0)], M)) sm_a70_16 rfl rfl rfl ?_
    refine ru_go (t := (18, [some (.inr (some a0)), z1], [.inr (some a0), .inr (some a0)], M)) sm_a70_17 rfl rfl rfl ?_
    refine ru_go (t := (21, [some (.inr (some a0)), z1], [.inl (sm_I M a0 10), .inr (some a0)], M)) sm_a70_18 rfl rfl (st_getI h_1 rfl) ?_
    exact ru_call (p := 24) sm_a70_21 rfl (sc_virt (Or.inl rfl) rfl rfl h_1 (Nat.le_of_ble_eq_true rfl)) rfl h
  · have h := h.2 hc_2
    refine ru_go (t := (8, [some (.inr (some a0)), z1], [.inr (some a0)], M)) sm_a70_7 rfl rfl rfl ?_
    refine ru_go (t := (11, [some (.inr (some a0)), z1], [.inr (sm_R M a0 8)], M)) sm_a70_8 rfl rfl (st_getR h_1 rfl rfl) ?_
    refine ru_go (t := (12, [some (.inr (some a0)), z1], [.inr (some a0), .inr (sm_R M a0 8)], M)) sm_a70_11 rfl rfl rfl ?_
    obtain ⟨b_3, hb_4, h⟩ := h
    rw [hb_4]
    obtain ⟨h_5, h⟩ := h
    exact ru_call (p := 15) sm_a70_12 rfl (sc_virt (Or.inl rfl) rfl rfl h_5 (Nat.le_of_ble_eq_true rfl)) rfl h
theorem bb_70_15 {d : Nat} {M : sm_M} {Q : Option sm_V → sm_M → Prop} {a0 : Nat} {z1 : Option sm_V}
    (h : Q none M) :
    sm_Run (d + 1) 70 15 [some (.inr (some a0)), z1] [] M Q := by
  exact ru_ret sm_a70_15 (sm_rvv rfl) h
theorem bb_70_24 {d : Nat} {M : sm_M} {Q : Option sm_V → sm_M → Prop} {a0 : Nat} {z1 : Option sm_V} {t0 : Option Nat}
    (h : ((t0 = none → Q none M) ∧ (∀ b_1, t0 = some b_1 → sm_K M b_1 = 18 ∧ sm_Run d 83 0 (sm_ent 83 [.inr (some b_1)]) [] M (fun v M1 => sm_Run (d + 1) 70 33 [some (.inr (some a0)), some (.inr (some b_1))] (v.toList ++ []) M1 Q)))) :
    sm_Run (d + 1) 70 24 [some (.inr (some a0)), z1] [.inr t0] M Q := by
  refine ru_go (t := (25, [some (.inr (some a0)), some (.inr t0)], [], M)) sm_a70_24 rfl rfl rfl ?_
  refine ru_go (t := (26, [some (.inr (some a0)), some (.inr t0)], [.inr t0], M)) sm_a70_25 rfl rfl rfl ?_
  refine ru_ifnull (pc := 26) (p := 33) (p2 := 29) sm_a70_26 (by decide) rfl ⟨fun hc => ?_, fun b_1 hc => ?_⟩
  · have h := h.1 hc
    try rw [hc]
    exact ru_ret sm_a70_33 (sm_rvv rfl) h
  · have h := h.2 b_1 hc
    try rw [hc]
    refine ru_go (t := (30, [some (.inr (some a0)), some (.inr (some b_1))], [.inr (some b_1)], M)) sm_a70_29 rfl rfl rfl ?_
    obtain ⟨h_3, h⟩ := h
    exact ru_call (p := 33) sm_a70_30 rfl (sc_virt (Or.inl rfl) rfl rfl h_3 (Nat.le_of_ble_eq_true rfl)) rfl h
theorem bb_70_33 {d : Nat} {M : sm_M} {Q : Option sm_V → sm_M → Prop} {a0 : Nat} {r1 : Option Nat}
    (h : Q none M) :
    sm_Run (d + 1) 70 33 [some (.inr (some a0)), some (.inr r1)] [] M Q := by
  exact ru_ret sm_a70_33 (sm_rvv rfl) h

/-! WireBus$Device.tell:(III[I)I -/
theorem sm_a71_0 : sm_at 71 0 = some (.aload 4, 2, (0, 0, 0, 0)) := by decide +kernel
theorem sm_a71_2 : sm_at 71 2 = some (.arraylength, 1, (0, 0, 0, 0)) := by decide +kernel
theorem sm_a71_3 : sm_at 71 3 = some (.bipush 64, 2, (0, 0, 0, 0)) := by decide +kernel
theorem sm_a71_5 : sm_at 71 5 = some (.if_icmp .ge 5, 3, (0, 0, 0, 0)) := by decide +kernel
theorem sm_a71_8 : sm_at 71 8 = some (.iconst (-1), 1, (0, 0, 0, 0)) := by decide +kernel
theorem sm_a71_9 : sm_at 71 9 = some (.ireturn, 1, (0, 0, 0, 0)) := by decide +kernel
theorem sm_a71_10 : sm_at 71 10 = some (.iload_n 1, 1, (0, 0, 0, 0)) := by decide +kernel
theorem sm_a71_11 : sm_at 71 11 = some (.lookupswitch 130 #[(32768, 49), (32774, 69), (32776, 103), (33280, 61), (49153, 122)], 49, (0, 0, 0, 0)) := by decide +kernel
theorem sm_a71_60 : sm_at 71 60 = some (.aload 4, 2, (0, 0, 0, 0)) := by decide +kernel
theorem sm_a71_62 : sm_at 71 62 = some (.iconst 0, 1, (0, 0, 0, 0)) := by decide +kernel
theorem sm_a71_63 : sm_at 71 63 = some (.iconst 0, 1, (0, 0, 0, 0)) := by decide +kernel
theorem sm_a71_64 : sm_at 71 64 = some (.iastore, 1, (0, 0, 0, 0)) := by decide +kernel
theorem sm_a71_65 : sm_at 71 65 = some (.aload 4, 2, (0, 0, 0, 0)) := by decide +kernel
theorem sm_a71_67 : sm_at 71 67 = some (.iconst 1, 1, (0, 0, 0, 0)) := by decide +kernel
theorem sm_a71_68 : sm_at 71 68 = some (.iconst 0, 1, (0, 0, 0, 0)) := by decide +kernel
theorem sm_a71_69 : sm_at 71 69 = some (.iastore, 1, (0, 0, 0, 0)) := by decide +kernel
theorem sm_a71_70 : sm_at 71 70 = some (.iconst 2, 1, (0, 0, 0, 0)) := by decide +kernel
theorem sm_a71_71 : sm_at 71 71 = some (.ireturn, 1, (0, 0, 0, 0)) := by decide +kernel
theorem sm_a71_72 : sm_at 71 72 = some (.aload_n 0, 1, (0, 0, 0, 0)) := by decide +kernel
theorem sm_a71_73 : sm_at 71 73 = some (.iload_n 3, 1, (0, 0, 0, 0)) := by decide +kernel
theorem sm_a71_74 : sm_at 71 74 = some (.aload 4, 2, (0, 0, 0, 0)) := by decide +kernel
theorem sm_a71_76 : sm_at 71 76 = some (.invokevirtual 137, 3, (10, 72, 4, 909)) := by decide +kernel
theorem sm_a71_79 : sm_at 71 79 = some (.ireturn, 1, (0, 0, 0, 0)) := by decide +kernel
theorem sm_a71_80 : sm_at 71 80 = some (.iload_n 2, 1, (0, 0, 0, 0)) := by decide +kernel
theorem sm_a71_81 : sm_at 71 81 = some (.sipush 256, 3, (0, 0, 0, 0)) := by decide +kernel
theorem sm_a71_84 : sm_at 71 84 = some (.if_icmp .ne 12, 3, (0, 0, 0, 0)) := by decide +kernel
theorem sm_a71_87 : sm_at 71 87 = some (.aload_n 0, 1, (0, 0, 0, 0)) := by decide +kernel
theorem sm_a71_88 : sm_at 71 88 = some (.aload 4, 2, (0, 0, 0, 0)) := by decide +kernel
theorem sm_a71_90 : sm_at 71 90 = some (.invokevirtual 141, 3, (10, 74, 4, 913)) := by decide +kernel
theorem sm_a71_93 : sm_at 71 93 = some (.goto 20, 3, (0, 0, 0, 0)) := by decide +kernel
theorem sm_a71_96 : sm_at 71 96 = some (.iload_n 2, 1, (0, 0, 0, 0)) := by decide +kernel
theorem sm_a71_97 : sm_at 71 97 = some (.sipush 512, 3, (0, 0, 0, 0)) := by decide +kernel
theorem sm_a71_100 : sm_at 71 100 = some (.if_icmp .ne 12, 3, (0, 0, 0, 0)) := by decide +kernel
theorem sm_a71_103 : sm_at 71 103 = some (.aload_n 0, 1, (0, 0, 0, 0)) := by decide +kernel
theorem sm_a71_104 : sm_at 71 104 = some (.aload 4, 2, (0, 0, 0, 0)) := by decide +kernel
theorem sm_a71_106 : sm_at 71 106 = some (.invokevirtual 145, 3, (10, 75, 4, 922)) := by decide +kernel
theorem sm_a71_109 : sm_at 71 109 = some (.goto 4, 3, (0, 0, 0, 0)) := by decide +kernel
theorem sm_a71_112 : sm_at 71 112 = some (.iconst (-1), 1, (0, 0, 0, 0)) := by decide +kernel
theorem sm_a71_113 : sm_at 71 113 = some (.ireturn, 1, (0, 0, 0, 0)) := by decide +kernel
theorem sm_a71_114 : sm_at 71 114 = some (.aload 4, 2, (0, 0, 0, 0)) := by decide +kernel
theorem sm_a71_116 : sm_at 71 116 = some (.iconst 0, 1, (0, 0, 0, 0)) := by decide +kernel
theorem sm_a71_117 : sm_at 71 117 = some (.aload_n 0, 1, (0, 0, 0, 0)) := by decide +kernel
theorem sm_a71_118 : sm_at 71 118 = some (.getfield 15, 3, (4, 3, 0, 259)) := by decide +kernel
theorem sm_a71_121 : sm_at 71 121 = some (.iconst 3, 1, (0, 0, 0, 0)) := by decide +kernel
theorem sm_a71_122 : sm_at 71 122 = some (.if_icmp .ne 7, 3, (0, 0, 0, 0)) := by decide +kernel
theorem sm_a71_125 : sm_at 71 125 = some (.iconst 1, 1, (0, 0, 0, 0)) := by decide +kernel
theorem sm_a71_126 : sm_at 71 126 = some (.goto 4, 3, (0, 0, 0, 0)) := by decide +kernel
theorem sm_a71_129 : sm_at 71 129 = some (.iconst 0, 1, (0, 0, 0, 0)) := by decide +kernel
theorem sm_a71_130 : sm_at 71 130 = some (.iastore, 1, (0, 0, 0, 0)) := by decide +kernel
theorem sm_a71_131 : sm_at 71 131 = some (.iconst 1, 1, (0, 0, 0, 0)) := by decide +kernel
theorem sm_a71_132 : sm_at 71 132 = some (.ireturn, 1, (0, 0, 0, 0)) := by decide +kernel
theorem sm_a71_133 : sm_at 71 133 = some (.aload_n 0, 1, (0, 0, 0, 0)) := by decide +kernel
theorem sm_a71_134 : sm_at 71 134 = some (.iload_n 2, 1, (0, 0, 0, 0)) := by decide +kernel
theorem sm_a71_135 : sm_at 71 135 = some (.aload 4, 2, (0, 0, 0, 0)) := by decide +kernel
theorem sm_a71_137 : sm_at 71 137 = some (.invokevirtual 148, 3, (10, 73, 4, 930)) := by decide +kernel
theorem sm_a71_140 : sm_at 71 140 = some (.ireturn, 1, (0, 0, 0, 0)) := by decide +kernel
theorem sm_a71_141 : sm_at 71 141 = some (.iconst (-1), 1, (0, 0, 0, 0)) := by decide +kernel
theorem sm_a71_142 : sm_at 71 142 = some (.ireturn, 1, (0, 0, 0, 0)) := by decide +kernel
theorem bb_71_0 {d : Nat} {M : sm_M} {Q : Option sm_V → sm_M → Prop} {a0 : Nat} {x1 : Int32} {x2 : Int32} {x3 : Int32} {r4 : Option Nat}
    (h : ∃ b_1, r4 = some b_1 ∧ (1 ≤ sm_K M b_1 ∧ sm_K M b_1 % 3 ≠ 0) ∧ ((64 ≤ (Int32.ofNat (sm_L M b_1)) → ((x1 = 32768 → sm_wA 0 M b_1 ∧ sm_in_ M b_1 0 ∧ sm_in_ M b_1 1 ∧ Q (some (.inl 2)) (sm_putI (sm_putI M b_1 (0 : Int32).toNatClampNeg 0) b_1 (1 : Int32).toNatClampNeg 0)) ∧ (x1 = 32774 → ((¬ x2 = 256 → ((¬ x2 = 512 → Q (some (.inl (-1))) M) ∧ (¬ (¬ x2 = 512) → sm_K M a0 = 15 ∧ sm_Run d 75 0 (sm_ent 75 [.inr (some a0), .inr (some b_1)]) [] M (fun v M1 => sm_Run (d + 1) 71 109 [some (.inr (some a0)), some (.inl x1), some (.inl x2), some (.inl x3), some (.inr (some b_1))] (v.toList ++ []) M1 Q)))) ∧ (¬ (¬ x2 = 256) → sm_K M a0 = 15 ∧ sm_Run d 74 0 (sm_ent 74 [.inr (some a0), .inr (some b_1)]) [] M (fun v M1 => sm_Run (d + 1) 71 93 [some (.inr (some a0)), some (.inl x1), some (.inl x2), some (.inl x3), some (.inr (some b_1))] (v.toList ++ []) M1 Q)))) ∧ (x1 = 32776 → sm_K M a0 = 15 ∧ ((¬ (sm_I M a0 3) = 3 → sm_wA 0 M b_1 ∧ sm_in_ M b_1 0 ∧ Q (some (.inl 1)) (sm_putI M b_1 (0 : Int32).toNatClampNeg 0)) ∧ (¬ (¬ (sm_I M a0 3) = 3) → sm_wA 0 M b_1 ∧ sm_in_ M b_1 0 ∧ Q (some (.inl 1)) (sm_putI M b_1 (0 : Int32).toNatClampNeg 1)))) ∧ (x1 = 33280 → sm_K M a0 = 15 ∧ sm_Run d 72 0 (sm_ent 72 [.inr (some a0), .inl x3, .inr (some b_1)]) [] M (fun v M1 => sm_Run (d + 1) 71 79 [some (.inr (some a0)), some (.inl x1), some (.inl x2), some (.inl x3), some (.inr (some b_1))] (v.toList ++ []) M1 Q)) ∧ (x1 = 49153 → sm_K M a0 = 15 ∧ sm_Run d 73 0 (sm_ent 73 [.inr (some a0), .inl x2, .inr (some b_1)]) [] M (fun v M1 => sm_Run (d + 1) 71 140 [some (.inr (some a0)), some (.inl x1), some (.inl x2), some (.inl x3), some (.inr (some b_1))] (v.toList ++ []) M1 Q)) ∧ (¬ x1 = 32768 → ¬ x1 = 32774 → ¬ x1 = 32776 → ¬ x1 = 33280 → ¬ x1 = 49153 → Q (some (.inl (-1))) M))) ∧ (¬ (64 ≤ (Int32.ofNat (sm_L M b_1))) → Q (some (.inl (-1))) M))) :
    sm_Run (d + 1) 71 0 [some (.inr (some a0)), some (.inl x1), some (.inl x2), some (.inl x3), some (.inr r4)] [] M Q := by
  refine ru_go (t := (2, [some (.inr (some a0)), some (.inl x1), some (.inl x2), some (.inl x3), some (.inr r4)], [.inr r4], M)) sm_a71_0 rfl rfl rfl ?_
  obtain ⟨b_1, hb_2, h⟩ := h
  rw [hb_2]
  obtain ⟨h_3, h⟩ := h
  refine ru_go (t := (3, [some (.inr (some a0)), some (.inl x1), some (.inl x2), some (.inl x3), some (.inr (some b_1))], [.inl (Int32.ofNat (sm_L M b_1))], M)) sm_a71_2 rfl rfl (st_alen h_3) ?_
  refine ru_go (t := (5, [some (.inr (some a0)), some (.inl x1), some (.inl x2), some (.inl x3), some (.inr (some b_1))], [.inl 64, .inl (Int32.ofNat (sm_L M b_1))], M)) sm_a71_3 rfl rfl (st_bipush (by decide)) ?_
  refine ru_icmp (pc := 5) (p := 10) (p2 := 8) sm_a71_5 (by decide) rfl ⟨fun hc_4 => ?_, fun hc_4 => ?_⟩
  · have h := h.1 hc_4
    refine ru_go (t := (11, [some (.inr (some a0)), some (.inl x1), some (.inl x2), some (.inl x3), some (.inr (some b_1))], [.inl x1], M)) sm_a71_10 rfl rfl rfl ?_
    by_cases hc_5 : x1 = 32768
    · have h := h.1 hc_5
      refine ru_lsw (pc := 11) (v := 32768) (p := 60) sm_a71_11 hc_5 (by decide) ?_
      refine ru_go (t := (62, [some (.inr (some a0)), some (.inl x1), some (.inl x2), some (.inl x3), some (.inr (some b_1))], [.inr (some b_1)], M)) sm_a71_60 rfl rfl rfl ?_
      refine ru_go (t := (63, [some (.inr (some a0)), some (.inl x1), some (.inl x2), some (.inl x3), some (.inr (some b_1))], [.inl 0, .inr (some b_1)], M)) sm_a71_62 rfl rfl (st_iconst (by decide)) ?_
      refine ru_go (t := (64, [some (.inr (some a0)), some (.inl x1), some (.inl x2), some (.inl x3), some (.inr (some b_1))], [.inl 0, .inl 0, .inr (some b_1)], M)) sm_a71_63 rfl rfl (st_iconst (by decide)) ?_
      obtain ⟨h_6, h⟩ := h
      obtain ⟨h_7, h⟩ := h
      refine ru_go (t := (65, [some (.inr (some a0)), some (.inl x1), some (.inl x2), some (.inl x3), some (.inr (some b_1))], [], sm_putI M b_1 (0 : Int32).toNatClampNeg 0)) sm_a71_64 rfl rfl (st_iast h_6 h_7) ?_
      refine ru_go (t := (67, [some (.inr (some a0)), some (.inl x1), some (.inl x2), some (.inl x3), some (.inr (some b_1))], [.inr (some b_1)], sm_putI M b_1 (0 : Int32).toNatClampNeg 0)) sm_a71_65 rfl rfl rfl ?_
      refine ru_go (t := (68, [some (.inr (some a0)), some (.inl x1), some (.inl x2), some (.inl x3), some (.inr (some b_1))], [.inl 1, .inr (some b_1)], sm_putI M b_1 (0 : Int32).toNatClampNeg 0)) sm_a71_67 rfl rfl (st_iconst (by decide)) ?_
      refine ru_go (t := (69, [some (.inr (some a0)), some (.inl x1), some (.inl x2), some (.inl x3), some (.inr (some b_1))], [.inl 0, .inl 1, .inr (some b_1)], sm_putI M b_1 (0 : Int32).toNatClampNeg 0)) sm_a71_68 rfl rfl (st_iconst (by decide)) ?_
      obtain ⟨h_8, h⟩ := h
      refine ru_go (t := (70, [some (.inr (some a0)), some (.inl x1), some (.inl x2), some (.inl x3), some (.inr (some b_1))], [], sm_putI (sm_putI M b_1 (0 : Int32).toNatClampNeg 0) b_1 (1 : Int32).toNatClampNeg 0)) sm_a71_69 rfl rfl (st_iast h_6 h_8) ?_
      refine ru_go (t := (71, [some (.inr (some a0)), some (.inl x1), some (.inl x2), some (.inl x3), some (.inr (some b_1))], [.inl 2], sm_putI (sm_putI M b_1 (0 : Int32).toNatClampNeg 0) b_1 (1 : Int32).toNatClampNeg 0)) sm_a71_70 rfl rfl (st_iconst (by decide)) ?_
      exact ru_ret sm_a71_71 rfl h
    · by_cases hc_9 : x1 = 32774
      · have h := h.2.1 hc_9
        refine ru_lsw (pc := 11) (v := 32774) (p := 80) sm_a71_11 hc_9 (by decide) ?_
        refine ru_go (t := (81, [some (.inr (some a0)), some (.inl x1), some (.inl x2), some (.inl x3), some (.inr (some b_1))], [.inl x2], M)) sm_a71_80 rfl rfl rfl ?_
        refine ru_go (t := (84, [some (.inr (some a0)), some (.inl x1), some (.inl x2), some (.inl x3), some (.inr (some b_1))], [.inl 256, .inl x2], M)) sm_a71_81 rfl rfl (st_sipush (by decide)) ?_
        refine ru_icmp (pc := 84) (p := 96) (p2 := 87) sm_a71_84 (by decide) rfl ⟨fun hc_10 => ?_, fun hc_10 => ?_⟩
        · have h := h.1 hc_10
          refine ru_go (t := (97, [some (.inr (some a0)), some (.inl x1), some (.inl x2), some (.inl x3), some (.inr (some b_1))], [.inl x2], M)) sm_a71_96 rfl rfl rfl ?_
          refine ru_go (t := (100, [some (.inr (some a0)), some (.inl x1), some (.inl x2), some (.inl x3), some (.inr (some b_1))], [.inl 512, .inl x2], M)) sm_a71_97 rfl rfl (st_sipush (by decide)) ?_
          refine ru_icmp (pc := 100) (p := 112) (p2 := 103) sm_a71_100 (by decide) rfl ⟨fun hc_11 => ?_, fun hc_11 => ?_⟩
          · have h := h.1 hc_11
            refine ru_go (t := (113, [some (.inr (some a0)), some (.inl x1), some (.inl x2), some (.inl x3), some (.inr (some b_1))], [.inl (-1)], M)) sm_a71_112 rfl rfl (st_iconst (by decide)) ?_
            exact ru_ret sm_a71_113 rfl h
          · have h := h.2 hc_11
            refine ru_go (t := (104, [some (.inr (some a0)), some (.inl x1), some (.inl x2), some (.inl x3), some (.inr (some b_1))], [.inr (some a0)], M)) sm_a71_103 rfl rfl rfl ?_
            refine ru_go (t := (106, [some (.inr (some a0)), some (.inl x1), some (.inl x2), some (.inl x3), some (.inr (some b_1))], [.inr (some b_1), .inr (some a0)], M)) sm_a71_104 rfl rfl rfl ?_
            obtain ⟨h_12, h⟩ := h
            exact ru_call (p := 109) sm_a71_106 rfl (sc_virt (Or.inl rfl) rfl rfl h_12 (Nat.le_of_ble_eq_true rfl)) rfl h
        · have h := h.2 hc_10
          refine ru_go (t := (88, [some (.inr (some a0)), some (.inl x1), some (.inl x2), some (.inl x3), some (.inr (some b_1))], [.inr (some a0)], M)) sm_a71_87 rfl rfl rfl ?_
          refine ru_go (t := (90, [some (.inr (some a0)), some (.inl x1), some (.inl x2), some (.inl x3), some (.inr (some b_1))], [.inr (some b_1), .inr (some a0)], M)) sm_a71_88 rfl rfl rfl ?_
          obtain ⟨h_13, h⟩ := h
          exact ru_call (p := 93) sm_a71_90 rfl (sc_virt (Or.inl rfl) rfl rfl h_13 (Nat.le_of_ble_eq_true rfl)) rfl h
      · by_cases hc_14 : x1 = 32776
        · have h := h.2.2.1 hc_14
          refine ru_lsw (pc := 11) (v := 32776) (p := 114) sm_a71_11 hc_14 (by decide) ?_
          refine ru_go (t := (116, [some (.inr (some a0)), some (.inl x1), some (.inl x2), some (.inl x3), some (.inr (some b_1))], [.inr (some b_1)], M)) sm_a71_114 rfl rfl rfl ?_
          refine ru_go (t := (117, [some (.inr (some a0)), some (.inl x1), some (.inl x2), some (.inl x3), some (.inr (some b_1))], [.inl 0, .inr (some b_1)], M)) sm_a71_116 rfl rfl (st_iconst (by decide)) ?_
          refine ru_go (t := (118, [some (.inr (some a0)), some (.inl x1), some (.inl x2), some (.inl x3), some (.inr (some b_1))], [.inr (some a0), .inl 0, .inr (some b_1)], M)) sm_a71_117 rfl rfl rfl ?_
          obtain ⟨h_15, h⟩ := h
          refine ru_go (t := (121, [some (.inr (some a0)), some (.inl x1), some (.inl x2), some (.inl x3), some (.inr (some b_1))], [.inl (sm_I M a0 3), .inl 0, .inr (some b_1)], M)) sm_a71_118 rfl rfl (st_getI h_15 rfl) ?_
          refine ru_go (t := (122, [some (.inr (some a0)), some (.inl x1), some (.inl x2), some (.inl x3), some (.inr (some b_1))], [.inl 3, .inl (sm_I M a0 3), .inl 0, .inr (some b_1)], M)) sm_a71_121 rfl rfl (st_iconst (by decide)) ?_
          refine ru_icmp (pc := 122) (p := 129) (p2 := 125) sm_a71_122 (by decide) rfl ⟨fun hc_16 => ?_, fun hc_16 => ?_⟩
          · have h := h.1 hc_16
            refine ru_go (t := (130, [some (.inr (some a0)), some (.inl x1), some (.inl x2), some (.inl x3), some (.inr (some b_1))], [.inl 0, .inl 0, .inr (some b_1)], M)) sm_a71_129 rfl rfl (st_iconst (by decide)) ?_
            obtain ⟨h_17, h⟩ := h
            obtain ⟨h_18, h⟩ := h
            refine ru_go (t := (131, [some (.inr (some a0)), some (.inl x1), some (.inl x2), some (.inl x3), some (.inr (some b_1))], [], sm_putI M b_1 (0 : Int32).toNatClampNeg 0)) sm_a71_130 rfl rfl (st_iast h_17 h_18) ?_
            refine ru_go (t := (132, [some (.inr (some a0)), some (.inl x1), some (.inl x2), some (.inl x3), some (.inr (some b_1))], [.inl 1], sm_putI M b_1 (0 : Int32).toNatClampNeg 0)) sm_a71_131 rfl rfl (st_iconst (by decide)) ?_
            exact ru_ret sm_a71_132 rfl h
          · have h := h.2 hc_16
            refine ru_go (t := (126, [some (.inr (some a0)), some (.inl x1), some (.inl x2), some (.inl x3), some (.inr (some b_1))], [.inl 1, .inl 0, .inr (some b_1)], M)) sm_a71_125 rfl rfl (st_iconst (by decide)) ?_
            refine ru_go (t := (130, [some (.inr (some a0)), some (.inl x1), some (.inl x2), some (.inl x3), some (.inr (some b_1))], [.inl 1, .inl 0, .inr (some b_1)], M)) sm_a71_126 rfl rfl (st_goto (pc := 126) (by decide)) ?_
            obtain ⟨h_19, h⟩ := h
            obtain ⟨h_20, h⟩ := h
            refine ru_go (t := (131, [some (.inr (some a0)), some (.inl x1), some (.inl x2), some (.inl x3), some (.inr (some b_1))], [], sm_putI M b_1 (0 : Int32).toNatClampNeg 1)) sm_a71_130 rfl rfl (st_iast h_19 h_20) ?_
            refine ru_go (t := (132, [some (.inr (some a0)), some (.inl x1), some (.inl x2), some (.inl x3), some (.inr (some b_1))], [.inl 1], sm_putI M b_1 (0 : Int32).toNatClampNeg 1)) sm_a71_131 rfl rfl (st_iconst (by decide)) ?_
            exact ru_ret sm_a71_132 rfl h
        · by_cases hc_21 : x1 = 33280
          · have h := h.2.2.2.1 hc_21
            refine ru_lsw (pc := 11) (v := 33280) (p := 72) sm_a71_11 hc_21 (by decide) ?_
            refine ru_go (t := (73, [some (.inr (some a0)), some (.inl x1), some (.inl x2), some (.inl x3), some (.inr (some b_1))], [.inr (some a0)], M)) sm_a71_72 rfl rfl rfl ?_
            refine ru_go (t := (74, [some (.inr (some a0)), some (.inl x1), some (.inl x2), some (.inl x3), some (.inr (some b_1))], [.inl x3, .inr (some a0)], M)) sm_a71_73 rfl rfl rfl ?_
            refine ru_go (t := (76, [some (.inr (some a0)), some (.inl x1), some (.inl x2), some (.inl x3), some (.inr (some b_1))], [.inr (some b_1), .inl x3, .inr (some a0)], M)) sm_a71_74 rfl rfl rfl ?_
            obtain ⟨h_22, h⟩ := h
            exact ru_call (p := 79) sm_a71_76 rfl (sc_virt (Or.inl rfl) rfl rfl h_22 (Nat.le_of_ble_eq_true rfl)) rfl h
          · by_cases hc_23 : x1 = 49153
            · have h := h.2.2.2.2.1 hc_23
              refine ru_lsw (pc := 11) (v := 49153) (p := 133) sm_a71_11 hc_23 (by decide) ?_
              refine ru_go (t := (134, [some (.inr (some a0)), some (.inl x1), some (.inl x2), some (.inl x3), some (.inr (some b_1))], [.inr (some a0)], M)) sm_a71_133 rfl rfl rfl ?_
              refine ru_go (t := (135, [some (.inr (some a0)), some (.inl x1), some (.inl x2), some (.inl x3), some (.inr (some b_1))], [.inl x2, .inr (some a0)], M)) sm_a71_134 rfl rfl rfl ?_
              refine ru_go (t := (137, [some (.inr (some a0)), some (.inl x1), some (.inl x2), some (.inl x3), some (.inr (some b_1))], [.inr (some b_1), .inl x2, .inr (some a0)], M)) sm_a71_135 rfl rfl rfl ?_
              obtain ⟨h_24, h⟩ := h
              exact ru_call (p := 140) sm_a71_137 rfl (sc_virt (Or.inl rfl) rfl rfl h_24 (Nat.le_of_ble_eq_true rfl)) rfl h
            · have h := h.2.2.2.2.2 hc_5 hc_9 hc_14 hc_21 hc_23
              have zhc_5 := sm_ne_toInt hc_5; rw [show (32768 : Int32).toInt = 32768 by decide] at zhc_5
              have zhc_9 := sm_ne_toInt hc_9; rw [show (32774 : Int32).toInt = 32774 by decide] at zhc_9
              have zhc_14 := sm_ne_toInt hc_14; rw [show (32776 : Int32).toInt = 32776 by decide] at zhc_14
              have zhc_21 := sm_ne_toInt hc_21; rw [show (33280 : Int32).toInt = 33280 by decide] at zhc_21
              have zhc_23 := sm_ne_toInt hc_23; rw [show (49153 : Int32).toInt = 49153 by decide] at zhc_23
              refine ru_lswd (pc := 11) (p := 141) sm_a71_11 (by intro q hq; simp at hq; rcases hq with rfl | rfl | rfl | rfl | rfl <;> omega) (by decide) ?_
              refine ru_go (t := (142, [some (.inr (some a0)), some (.inl x1), some (.inl x2), some (.inl x3), some (.inr (some b_1))], [.inl (-1)], M)) sm_a71_141 rfl rfl (st_iconst (by decide)) ?_
              exact ru_ret sm_a71_142 rfl h
  · have h := h.2 hc_4
    refine ru_go (t := (9, [some (.inr (some a0)), some (.inl x1), some (.inl x2), some (.inl x3), some (.inr (some b_1))], [.inl (-1)], M)) sm_a71_8 rfl rfl (st_iconst (by decide)) ?_
    exact ru_ret sm_a71_9 rfl h
theorem bb_71_79 {d : Nat} {M : sm_M} {Q : Option sm_V → sm_M → Prop} {a0 : Nat} {x1 : Int32} {x2 : Int32} {x3 : Int32} {r4 : Option Nat} {y0 : Int32}
    (h : Q (some (.inl y0)) M) :
    sm_Run (d + 1) 71 79 [some (.inr (some a0)), some (.inl x1), some (.inl x2), some (.inl x3), some (.inr r4)] [.inl y0] M Q := by
  exact ru_ret sm_a71_79 rfl h
theorem bb_71_93 {d : Nat} {M : sm_M} {Q : Option sm_V → sm_M → Prop} {a0 : Nat} {x1 : Int32} {x2 : Int32} {x3 : Int32} {r4 : Option Nat} {y0 : Int32}
    (h : Q (some (.inl y0)) M) :
    sm_Run (d + 1) 71 93 [some (.inr (some a0)), some (.inl x1), some (.inl x2), some (.inl x3), some (.inr r4)] [.inl y0] M Q := by
  refine ru_go (t := (113, [some (.inr (some a0)), some (.inl x1), some (.inl x2), some (.inl x3), some (.inr r4)], [.inl y0], M)) sm_a71_93 rfl rfl (st_goto (pc := 93) (by decide)) ?_
  exact ru_ret sm_a71_113 rfl h
theorem bb_71_109 {d : Nat} {M : sm_M} {Q : Option sm_V → sm_M → Prop} {a0 : Nat} {x1 : Int32} {x2 : Int32} {x3 : Int32} {r4 : Option Nat} {y0 : Int32}
    (h : Q (some (.inl y0)) M) :
    sm_Run (d + 1) 71 109 [some (.inr (some a0)), some (.inl x1), some (.inl x2), some (.inl x3), some (.inr r4)] [.inl y0] M Q := by
  refine ru_go (t := (113, [some (.inr (some a0)), some (.inl x1), some (.inl x2), some (.inl x3), some (.inr r4)], [.inl y0], M)) sm_a71_109 rfl rfl (st_goto (pc := 109) (by decide)) ?_
  exact ru_ret sm_a71_113 rfl h
theorem bb_71_140 {d : Nat} {M : sm_M} {Q : Option sm_V → sm_M → Prop} {a0 : Nat} {x1 : Int32} {x2 : Int32} {x3 : Int32} {r4 : Option Nat} {y0 : Int32}
    (h : Q (some (.inl y0)) M) :
    sm_Run (d + 1) 71 140 [some (.inr (some a0)), some (.inl x1), some (.inl x2), some (.inl x3), some (.inr r4)] [.inl y0] M Q := by
  exact ru_ret sm_a71_140 rfl h

/-! WireBus$Device.tellHalted:(I[I)I -/
theorem sm_a72_0 : sm_at 72 0 = some (.aload_n 0, 1, (0, 0, 0, 0)) := by decide +kernel
theorem sm_a72_1 : sm_at 72 1 = some (.iload_n 1, 1, (0, 0, 0, 0)) := by decide +kernel
theorem sm_a72_2 : sm_at 72 2 = some (.invokevirtual 54, 3, (10, 62, 4, 527)) := by decide +kernel
theorem sm_a72_5 : sm_at 72 5 = some (.astore_n 3, 1, (0, 0, 0, 0)) := by decide +kernel
theorem sm_a72_6 : sm_at 72 6 = some (.aload_n 3, 1, (0, 0, 0, 0)) := by decide +kernel
theorem sm_a72_7 : sm_at 72 7 = some (.ifnonnull 16, 3, (0, 0, 0, 0)) := by decide +kernel
theorem sm_a72_10 : sm_at 72 10 = some (.iload_n 1, 1, (0, 0, 0, 0)) := by decide +kernel
theorem sm_a72_11 : sm_at 72 11 = some (.ifCond .eq 12, 3, (0, 0, 0, 0)) := by decide +kernel
theorem sm_a72_14 : sm_at 72 14 = some (.iload_n 1, 1, (0, 0, 0, 0)) := by decide +kernel
theorem sm_a72_15 : sm_at 72 15 = some (.sipush 128, 3, (0, 0, 0, 0)) := by decide +kernel
theorem sm_a72_18 : sm_at 72 18 = some (.if_icmp .eq 5, 3, (0, 0, 0, 0)) := by decide +kernel
theorem sm_a72_21 : sm_at 72 21 = some (.iconst (-1), 1, (0, 0, 0, 0)) := by decide +kernel
theorem sm_a72_22 : sm_at 72 22 = some (.ireturn, 1, (0, 0, 0, 0)) := by decide +kernel
theorem sm_a72_23 : sm_at 72 23 = some (.aload_n 2, 1, (0, 0, 0, 0)) := by decide +kernel
theorem sm_a72_24 : sm_at 72 24 = some (.iconst 0, 1, (0, 0, 0, 0)) := by decide +kernel
theorem sm_a72_25 : sm_at 72 25 = some (.aload_n 3, 1, (0, 0, 0, 0)) := by decide +kernel
theorem sm_a72_26 : sm_at 72 26 = some (.ifnull 14, 3, (0, 0, 0, 0)) := by decide +kernel
theorem sm_a72_29 : sm_at 72 29 = some (.aload_n 3, 1, (0, 0, 0, 0)) := by decide +kernel
theorem sm_a72_30 : sm_at 72 30 = some (.getfield 151, 3, (5, 4, 1, 547)) := by decide +kernel
theorem sm_a72_33 : sm_at 72 33 = some (.ifCond .eq 7, 3, (0, 0, 0, 0)) := by decide +kernel
theorem sm_a72_36 : sm_at 72 36 = some (.iconst 1, 1, (0, 0, 0, 0)) := by decide +kernel
theorem sm_a72_37 : sm_at 72 37 = some (.goto 4, 3, (0, 0, 0, 0)) := by decide +kernel
theorem sm_a72_40 : sm_at 72 40 = some (.iconst 0, 1, (0, 0, 0, 0)) := by decide +kernel
theorem sm_a72_41 : sm_at 72 41 = some (.iastore, 1, (0, 0, 0, 0)) := by decide +kernel
theorem sm_a72_42 : sm_at 72 42 = some (.aload_n 2, 1, (0, 0, 0, 0)) := by decide +kernel
theorem sm_a72_43 : sm_at 72 43 = some (.iconst 1, 1, (0, 0, 0, 0)) := by decide +kernel
theorem sm_a72_44 : sm_at 72 44 = some (.iconst 0, 1, (0, 0, 0, 0)) := by decide +kernel
theorem sm_a72_45 : sm_at 72 45 = some (.iastore, 1, (0, 0, 0, 0)) := by decide +kernel
theorem sm_a72_46 : sm_at 72 46 = some (.iconst 2, 1, (0, 0, 0, 0)) := by decide +kernel
theorem sm_a72_47 : sm_at 72 47 = some (.ireturn, 1, (0, 0, 0, 0)) := by decide +kernel
theorem bb_72_0 {d : Nat} {M : sm_M} {Q : Option sm_V → sm_M → Prop} {a0 : Nat} {x1 : Int32} {r2 : Option Nat} {z3 : Option sm_V}
    (h : sm_K M a0 = 15 ∧ sm_Run d 62 0 (sm_ent 62 [.inr (some a0), .inl x1]) [] M (fun v M1 => sm_Run (d + 1) 72 5 [some (.inr (some a0)), some (.inl x1), some (.inr r2), z3] (v.toList ++ []) M1 Q)) :
    sm_Run (d + 1) 72 0 [some (.inr (some a0)), some (.inl x1), some (.inr r2), z3] [] M Q := by
  refine ru_go (t := (1, [some (.inr (some a0)), some (.inl x1), some (.inr r2), z3], [.inr (some a0)], M)) sm_a72_0 rfl rfl rfl ?_
  refine ru_go (t := (2, [some (.inr (some a0)), some (.inl x1), some (.inr r2), z3], [.inl x1, .inr (some a0)], M)) sm_a72_1 rfl rfl rfl ?_
  obtain ⟨h_1, h⟩ := h
  exact ru_call (p := 5) sm_a72_2 rfl (sc_virt (Or.inl rfl) rfl rfl h_1 (Nat.le_of_ble_eq_true rfl)) rfl h
theorem bb_72_5 {d : Nat} {M : sm_M} {Q : Option sm_V → sm_M → Prop} {a0 : Nat} {x1 : Int32} {r2 : Option Nat} {z3 : Option sm_V} {t0 : Option Nat}
    (h : ((t0 = none → ((x1 = 0 → sm_Run (d + 1) 72 23 [some (.inr (some a0)), some (.inl x1), some (.inr r2), some (.inr none)] [] M Q) ∧ (¬ (x1 = 0) → ((x1 = 128 → sm_Run (d + 1) 72 23 [some (.inr (some a0)), some (.inl x1), some (.inr r2), some (.inr none)] [] M Q) ∧ (¬ (x1 = 128) → Q (some (.inl (-1))) M))))) ∧ (∀ b_1, t0 = some b_1 → sm_Run (d + 1) 72 23 [some (.inr (some a0)), some (.inl x1), some (.inr r2), some (.inr (some b_1))] [] M Q))) :
    sm_Run (d + 1) 72 5 [some (.inr (some a0)), some (.inl x1), some (.inr r2), z3] [.inr t0] M Q := by
  refine ru_go (t := (6, [some (.inr (some a0)), some (.inl x1), some (.inr r2), some (.inr t0)], [], M)) sm_a72_5 rfl rfl rfl ?_
  refine ru_go (t := (7, [some (.inr (some a0)), some (.inl x1), some (.inr r2), some (.inr t0)], [.inr t0], M)) sm_a72_6 rfl rfl rfl ?_
  refine ru_ifnonnull (pc := 7) (p := 23) (p2 := 10) sm_a72_7 (by decide) rfl ⟨fun b_1 hc => ?_, fun hc => ?_⟩
  · have h := h.2 b_1 hc
    try rw [hc]
    exact h
  · have h := h.1 hc
    try rw [hc]
    refine ru_go (t := (11, [some (.inr (some a0)), some (.inl x1), some (.inr r2), some (.inr none)], [.inl x1], M)) sm_a72_10 rfl rfl rfl ?_
    refine ru_if (pc := 11) (p := 23) (p2 := 14) sm_a72_11 (by decide) rfl ⟨fun hc_3 => ?_, fun hc_3 => ?_⟩
    · have h := h.1 hc_3
      exact h
    · have h := h.2 hc_3
      refine ru_go (t := (15, [some (.inr (some a0)), some (.inl x1), some (.inr r2), some (.inr none)], [.inl x1], M)) sm_a72_14 rfl rfl rfl ?_
      refine ru_go (t := (18, [some (.inr (some a0)), some (.inl x1), some (.inr r2), some (.inr none)], [.inl 128, .inl x1], M)) sm_a72_15 rfl rfl (st_sipush (by decide)) ?_
      refine ru_icmp (pc := 18) (p := 23) (p2 := 21) sm_a72_18 (by decide) rfl ⟨fun hc_4 => ?_, fun hc_4 => ?_⟩
      · have h := h.1 hc_4
        exact h
      · have h := h.2 hc_4
        refine ru_go (t := (22, [some (.inr (some a0)), some (.inl x1), some (.inr r2), some (.inr none)], [.inl (-1)], M)) sm_a72_21 rfl rfl (st_iconst (by decide)) ?_
        exact ru_ret sm_a72_22 rfl h
theorem bb_72_23 {d : Nat} {M : sm_M} {Q : Option sm_V → sm_M → Prop} {a0 : Nat} {x1 : Int32} {r2 : Option Nat} {r3 : Option Nat}
    (h : ((r3 = none → ∃ b_3, r2 = some b_3 ∧ sm_wA 0 M b_3 ∧ sm_in_ M b_3 0 ∧ sm_in_ M b_3 1 ∧ Q (some (.inl 2)) (sm_putI (sm_putI M b_3 (0 : Int32).toNatClampNeg 0) b_3 (1 : Int32).toNatClampNeg 0)) ∧ (∀ b_1, r3 = some b_1 → sm_K M b_1 = 18 ∧ (((sm_I M b_1 4) = 0 → ∃ b_10, r2 = some b_10 ∧ sm_wA 0 M b_10 ∧ sm_in_ M b_10 0 ∧ sm_in_ M b_10 1 ∧ Q (some (.inl 2)) (sm_putI (sm_putI M b_10 (0 : Int32).toNatClampNeg 0) b_10 (1 : Int32).toNatClampNeg 0)) ∧ (¬ ((sm_I M b_1 4) = 0) → ∃ b_15, r2 = some b_15 ∧ sm_wA 0 M b_15 ∧ sm_in_ M b_15 0 ∧ sm_in_ M b_15 1 ∧ Q (some (.inl 2)) (sm_putI (sm_putI M b_15 (0 : Int32).toNatClampNeg 1) b_15 (1 : Int32).toNatClampNeg 0)))))) :
    sm_Run (d + 1) 72 23 [some (.inr (some a0)), some (.inl x1), some (.inr r2), some (.inr r3)] [] M Q := by
  refine ru_go (t := (24, [some (.inr (some a0)), some (.inl x1), some (.inr r2), some (.inr r3)], [.inr r2], M)) sm_a72_23 rfl rfl rfl ?_
  refine ru_go (t := (25, [some (.inr (some a0)), some (.inl x1), some (.inr r2), some (.inr r3)], [.inl 0, .inr r2], M)) sm_a72_24 rfl rfl (st_iconst (by decide)) ?_
  refine ru_go (t := (26, [some (.inr (some a0)), some (.inl x1), some (.inr r2), some (.inr r3)], [.inr r3, .inl 0, .inr r2], M)) sm_a72_25 rfl rfl rfl ?_
  refine ru_ifnull (pc := 26) (p := 40) (p2 := 29) sm_a72_26 (by decide) rfl ⟨fun hc => ?_, fun b_1 hc => ?_⟩
  · have h := h.1 hc
    try rw [hc]
    refine ru_go (t := (41, [some (.inr (some a0)), some (.inl x1), some (.inr r2), some (.inr none)], [.inl 0, .inl 0, .inr r2], M)) sm_a72_40 rfl rfl (st_iconst (by decide)) ?_
    obtain ⟨b_3, hb_4, h⟩ := h
    rw [hb_4]
    obtain ⟨h_5, h⟩ := h
    obtain ⟨h_6, h⟩ := h
    refine ru_go (t := (42, [some (.inr (some a0)), some (.inl x1), some (.inr (some b_3)), some (.inr none)], [], sm_putI M b_3 (0 : Int32).toNatClampNeg 0)) sm_a72_41 rfl rfl (st_iast h_5 h_6) ?_
    refine ru_go (t := (43, [some (.inr (some a0)), some (.inl x1), some (.inr (some b_3)), some (.inr none)], [.inr (some b_3)], sm_putI M b_3 (0 : Int32).toNatClampNeg 0)) sm_a72_42 rfl rfl rfl ?_
    refine ru_go (t := (44, [some (.inr (some a0)), some (.inl x1), some (.inr (some b_3)), some (.inr none)], [.inl 1, .inr (some b_3)], sm_putI M b_3 (0 : Int32).toNatClampNeg 0)) sm_a72_43 rfl rfl (st_iconst (by decide)) ?_
    refine ru_go (t := (45, [some (.inr (some a0)), some (.inl x1), some (.inr (some b_3)), some (.inr none)], [.inl 0, .inl 1, .inr (some b_3)], sm_putI M b_3 (0 : Int32).toNatClampNeg 0)) sm_a72_44 rfl rfl (st_iconst (by decide)) ?_
    obtain ⟨h_7, h⟩ := h
    refine ru_go (t := (46, [some (.inr (some a0)), some (.inl x1), some (.inr (some b_3)), some (.inr none)], [], sm_putI (sm_putI M b_3 (0 : Int32).toNatClampNeg 0) b_3 (1 : Int32).toNatClampNeg 0)) sm_a72_45 rfl rfl (st_iast h_5 h_7) ?_
    refine ru_go (t := (47, [some (.inr (some a0)), some (.inl x1), some (.inr (some b_3)), some (.inr none)], [.inl 2], sm_putI (sm_putI M b_3 (0 : Int32).toNatClampNeg 0) b_3 (1 : Int32).toNatClampNeg 0)) sm_a72_46 rfl rfl (st_iconst (by decide)) ?_
    exact ru_ret sm_a72_47 rfl h
  · have h := h.2 b_1 hc
    try rw [hc]
    refine ru_go (t := (30, [some (.inr (some a0)), some (.inl x1), some (.inr r2), some (.inr (some b_1))], [.inr (some b_1), .inl 0, .inr r2], M)) sm_a72_29 rfl rfl rfl ?_
    obtain ⟨h_8, h⟩ := h
    refine ru_go (t := (33, [some (.inr (some a0)), some (.inl x1), some (.inr r2), some (.inr (some b_1))], [.inl (sm_I M b_1 4), .inl 0, .inr r2], M)) sm_a72_30 rfl rfl (st_getI h_8 rfl) ?_
    refine ru_if (pc := 33) (p := 40) (p2 := 36) sm_a72_33 (by decide) rfl ⟨fun hc_9 => ?_, fun hc_9 => ?_⟩
    · have h := h.1 hc_9
      refine ru_go (t := (41, [some (.inr (some a0)), some (.inl x1), some (.inr r2), some (.inr (some b_1))], [.inl 0, .inl 0, .inr r2], M)) sm_a72_40 rfl rfl (st_iconst (by decide)) ?_
      obtain ⟨b_10, hb_11, h⟩ := h
      rw [hb_11]
      obtain ⟨h_12, h⟩ := h
      obtain ⟨h_13, h⟩ := h
      refine ru_go (t := (42, [some (.inr (some a0)), some (.inl x1), some (.inr (some b_10)), some (.inr (some b_1))], [], sm_putI M b_10 (0 : Int32).toNatClampNeg 0)) sm_a72_41 rfl rfl (st_iast h_12 h_13) ?_
      refine ru_go (t := (43, [some (.inr (some a0)), some (.inl x1), some (.inr (some b_10)), some (.inr (some b_1))], [.inr (some b_10)], sm_putI M b_10 (0 : Int32).toNatClampNeg 0)) sm_a72_42 rfl rfl rfl ?_
      refine ru_go (t := (44, [some (.inr (some a0)), some (.inl x1), some (.inr (some b_10)), some (.inr (some b_1))], [.inl 1, .inr (some b_10)], sm_putI M b_10 (0 : Int32).toNatClampNeg 0)) sm_a72_43 rfl rfl (st_iconst (by decide)) ?_
      refine ru_go (t := (45, [some (.inr (some a0)), some (.inl x1), some (.inr (some b_10)), some (.inr (some b_1))], [.inl 0, .inl 1, .inr (some b_10)], sm_putI M b_10 (0 : Int32).toNatClampNeg 0)) sm_a72_44 rfl rfl (st_iconst (by decide)) ?_
      obtain ⟨h_14, h⟩ := h
      refine ru_go (t := (46, [some (.inr (some a0)), some (.inl x1), some (.inr (some b_10)), some (.inr (some b_1))], [], sm_putI (sm_putI M b_10 (0 : Int32).toNatClampNeg 0) b_10 (1 : Int32).toNatClampNeg 0)) sm_a72_45 rfl rfl (st_iast h_12 h_14) ?_
      refine ru_go (t := (47, [some (.inr (some a0)), some (.inl x1), some (.inr (some b_10)), some (.inr (some b_1))], [.inl 2], sm_putI (sm_putI M b_10 (0 : Int32).toNatClampNeg 0) b_10 (1 : Int32).toNatClampNeg 0)) sm_a72_46 rfl rfl (st_iconst (by decide)) ?_
      exact ru_ret sm_a72_47 rfl h
    · have h := h.2 hc_9
      refine ru_go (t := (37, [some (.inr (some a0)), some (.inl x1), some (.inr r2), some (.inr (some b_1))], [.inl 1, .inl 0, .inr r2], M)) sm_a72_36 rfl rfl (st_iconst (by decide)) ?_
      refine ru_go (t := (41, [some (.inr (some a0)), some (.inl x1), some (.inr r2), some (.inr (some b_1))], [.inl 1, .inl 0, .inr r2], M)) sm_a72_37 rfl rfl (st_goto (pc := 37) (by decide)) ?_
      obtain ⟨b_15, hb_16, h⟩ := h
      rw [hb_16]
      obtain ⟨h_17, h⟩ := h
      obtain ⟨h_18, h⟩ := h
      refine ru_go (t := (42, [some (.inr (some a0)), some (.inl x1), some (.inr (some b_15)), some (.inr (some b_1))], [], sm_putI M b_15 (0 : Int32).toNatClampNeg 1)) sm_a72_41 rfl rfl (st_iast h_17 h_18) ?_
      refine ru_go (t := (43, [some (.inr (some a0)), some (.inl x1), some (.inr (some b_15)), some (.inr (some b_1))], [.inr (some b_15)], sm_putI M b_15 (0 : Int32).toNatClampNeg 1)) sm_a72_42 rfl rfl rfl ?_
      refine ru_go (t := (44, [some (.inr (some a0)), some (.inl x1), some (.inr (some b_15)), some (.inr (some b_1))], [.inl 1, .inr (some b_15)], sm_putI M b_15 (0 : Int32).toNatClampNeg 1)) sm_a72_43 rfl rfl (st_iconst (by decide)) ?_
      refine ru_go (t := (45, [some (.inr (some a0)), some (.inl x1), some (.inr (some b_15)), some (.inr (some b_1))], [.inl 0, .inl 1, .inr (some b_15)], sm_putI M b_15 (0 : Int32).toNatClampNeg 1)) sm_a72_44 rfl rfl (st_iconst (by decide)) ?_
      obtain ⟨h_19, h⟩ := h
      refine ru_go (t := (46, [some (.inr (some a0)), some (.inl x1), some (.inr (some b_15)), some (.inr (some b_1))], [], sm_putI (sm_putI M b_15 (0 : Int32).toNatClampNeg 1) b_15 (1 : Int32).toNatClampNeg 0)) sm_a72_45 rfl rfl (st_iast h_17 h_19) ?_
      refine ru_go (t := (47, [some (.inr (some a0)), some (.inl x1), some (.inr (some b_15)), some (.inr (some b_1))], [.inl 2], sm_putI (sm_putI M b_15 (0 : Int32).toNatClampNeg 1) b_15 (1 : Int32).toNatClampNeg 0)) sm_a72_46 rfl rfl (st_iconst (by decide)) ?_
      exact ru_ret sm_a72_47 rfl h

/-! WireBus$Device.tellScratch:(I[I)I -/
theorem sm_a73_0 : sm_at 73 0 = some (.iload_n 1, 1, (0, 0, 0, 0)) := by decide +kernel
theorem sm_a73_1 : sm_at 73 1 = some (.aload_n 0, 1, (0, 0, 0, 0)) := by decide +kernel
theorem sm_a73_2 : sm_at 73 2 = some (.getfield 24, 3, (4, 7, 0, 268)) := by decide +kernel
theorem sm_a73_5 : sm_at 73 5 = some (.arraylength, 1, (0, 0, 0, 0)) := by decide +kernel
theorem sm_a73_6 : sm_at 73 6 = some (.if_icmp .le 5, 3, (0, 0, 0, 0)) := by decide +kernel
theorem sm_a73_9 : sm_at 73 9 = some (.iconst (-1), 1, (0, 0, 0, 0)) := by decide +kernel
theorem sm_a73_10 : sm_at 73 10 = some (.ireturn, 1, (0, 0, 0, 0)) := by decide +kernel
theorem sm_a73_11 : sm_at 73 11 = some (.aload_n 0, 1, (0, 0, 0, 0)) := by decide +kernel
theorem sm_a73_12 : sm_at 73 12 = some (.getfield 24, 3, (4, 7, 0, 268)) := by decide +kernel
theorem sm_a73_15 : sm_at 73 15 = some (.arraylength, 1, (0, 0, 0, 0)) := by decide +kernel
theorem sm_a73_16 : sm_at 73 16 = some (.iload_n 1, 1, (0, 0, 0, 0)) := by decide +kernel
theorem sm_a73_17 : sm_at 73 17 = some (.isub, 1, (0, 0, 0, 0)) := by decide +kernel
theorem sm_a73_18 : sm_at 73 18 = some (.istore_n 3, 1, (0, 0, 0, 0)) := by decide +kernel
theorem sm_a73_19 : sm_at 73 19 = some (.aload_n 0, 1, (0, 0, 0, 0)) := by decide +kernel
theorem sm_a73_20 : sm_at 73 20 = some (.getfield 24, 3, (4, 7, 0, 268)) := by decide +kernel
theorem sm_a73_23 : sm_at 73 23 = some (.iload_n 1, 1, (0, 0, 0, 0)) := by decide +kernel
theorem sm_a73_24 : sm_at 73 24 = some (.aload_n 2, 1, (0, 0, 0, 0)) := by decide +kernel
theorem sm_a73_25 : sm_at 73 25 = some (.iconst 0, 1, (0, 0, 0, 0)) := by decide +kernel
theorem sm_a73_26 : sm_at 73 26 = some (.iload_n 3, 1, (0, 0, 0, 0)) := by decide +kernel
theorem sm_a73_27 : sm_at 73 27 = some (.invokestatic 154, 3, (4, 0, 0, 919)) := by decide +kernel
theorem sm_a73_30 : sm_at 73 30 = some (.iload_n 3, 1, (0, 0, 0, 0)) := by decide +kernel
theorem sm_a73_31 : sm_at 73 31 = some (.ireturn, 1, (0, 0, 0, 0)) := by decide +kernel
theorem bb_73_0 {d : Nat} {M : sm_M} {Q : Option sm_V → sm_M → Prop} {a0 : Nat} {x1 : Int32} {r2 : Option Nat} {z3 : Option sm_V}
    (h : sm_K M a0 = 15 ∧ ∃ b_2, sm_R M a0 7 = some b_2 ∧ (1 ≤ sm_K M b_2 ∧ sm_K M b_2 % 3 ≠ 0) ∧ ((x1 ≤ (Int32.ofNat (sm_L M b_2)) → ∃ b_6, sm_R M a0 7 = some b_6 ∧ (1 ≤ sm_K M b_6 ∧ sm_K M b_6 % 3 ≠ 0) ∧ ∃ b_9, r2 = some b_9 ∧ ∃ b_11, sm_R M a0 7 = some b_11 ∧ sm_iA M b_11 ∧ sm_wA 0 M b_9 ∧ (0 ≤ (x1 : Int32).toInt ∧ 0 ≤ (0 : Int32).toInt ∧ 0 ≤ (((Int32.ofNat (sm_L M b_6)) - x1) : Int32).toInt) ∧ ((x1 : Int32).toInt + (((Int32.ofNat (sm_L M b_6)) - x1) : Int32).toInt ≤ sm_L M b_11 ∧ (0 : Int32).toInt + (((Int32.ofNat (sm_L M b_6)) - x1) : Int32).toInt ≤ sm_L M b_9) ∧ Q (some (.inl ((Int32.ofNat (sm_L M b_6)) - x1))) (sm_rowI M b_9 (va_cpy (sm_I M b_11) (sm_I M b_9) (x1 : Int32).toNatClampNeg (0 : Int32).toNatClampNeg (((Int32.ofNat (sm_L M b_6)) - x1) : Int32).toNatClampNeg))) ∧ (¬ (x1 ≤ (Int32.ofNat (sm_L M b_2))) → Q (some (.inl (-1))) M))) :
    sm_Run (d + 1) 73 0 [some (.inr (some a0)), some (.inl x1), some (.inr r2), z3] [] M Q := by
  refine ru_go (t := (1, [some (.inr (some a0)), some (.inl x1), some (.inr r2), z3], [.inl x1], M)) sm_a73_0 rfl rfl rfl ?_
  refine ru_go (t := (2, [some (.inr (some a0)), some (.inl x1), some (.inr r2), z3], [.inr (some a0), .inl x1], M)) sm_a73_1 rfl rfl rfl ?_
  obtain ⟨h_1, h⟩ := h
  refine ru_go (t := (5, [some (.inr (some a0)), some (.inl x1), some (.inr r2), z3], [.inr (sm_R M a0 7), .inl x1], M)) sm_a73_2 rfl rfl (st_getR h_1 rfl rfl) ?_
  obtain ⟨b_2, hb_3, h⟩ := h
  rw [hb_3]
  obtain ⟨h_4, h⟩ := h
  refine ru_go (t := (6, [some (.inr (some a0)), some (.inl x1), some (.inr r2), z3], [.inl (Int32.ofNat (sm_L M b_2)), .inl x1], M)) sm_a73_5 rfl rfl (st_alen h_4) ?_
  refine ru_icmp (pc := 6) (p := 11) (p2 := 9) sm_a73_6 (by decide) rfl ⟨fun hc_5 => ?_, fun hc_5 => ?_⟩
  · have h := h.1 hc_5
    refine ru_go (t := (12, [some (.inr (some a0)), some (.inl x1), some (.inr r2), z3], [.inr (some a0)], M)) sm_a73_11 rfl rfl rfl ?_
    refine ru_go (t := (15, [some (.inr (some a0)), some (.inl x1), some (.inr r2), z3], [.inr (sm_R M a0 7)], M)) sm_a73_12 rfl rfl (st_getR h_1 rfl rfl) ?_
    obtain ⟨b_6, hb_7, h⟩ := h
    rw [hb_7]
    obtain ⟨h_8, h⟩ := h
    refine ru_go (t := (16, [some (.inr (some a0)), some (.inl x1), some (.inr r2), z3], [.inl (Int32.ofNat (sm_L M b_6))], M)) sm_a73_15 rfl rfl (st_alen h_8) ?_
    refine ru_go (t := (17, [some (.inr (some a0)), some (.inl x1), some (.inr r2), z3], [.inl x1, .inl (Int32.ofNat (sm_L M b_6))], M)) sm_a73_16 rfl rfl rfl ?_
    refine ru_go (t := (18, [some (.inr (some a0)), some (.inl x1), some (.inr r2), z3], [.inl ((Int32.ofNat (sm_L M b_6)) - x1)], M)) sm_a73_17 rfl rfl rfl ?_
    refine ru_go (t := (19, [some (.inr (some a0)), some (.inl x1), some (.inr r2), some (.inl ((Int32.ofNat (sm_L M b_6)) - x1))], [], M)) sm_a73_18 rfl rfl rfl ?_
    refine ru_go (t := (20, [some (.inr (some a0)), some (.inl x1), some (.inr r2), some (.inl ((Int32.ofNat (sm_L M b_6)) - x1))], [.inr (some a0)], M)) sm_a73_19 rfl rfl rfl ?_
    refine ru_go (t := (23, [some (.inr (some a0)), some (.inl x1), some (.inr r2), some (.inl ((Int32.ofNat (sm_L M b_6)) - x1))], [.inr (sm_R M a0 7)], M)) sm_a73_20 rfl rfl (st_getR h_1 rfl rfl) ?_
    refine ru_go (t := (24, [some (.inr (some a0)), some (.inl x1), some (.inr r2), some (.inl ((Int32.ofNat (sm_L M b_6)) - x1))], [.inl x1, .inr (sm_R M a0 7)], M)) sm_a73_23 rfl rfl rfl ?_
    refine ru_go (t := (25, [some (.inr (some a0)), some (.inl x1), some (.inr r2), some (.inl ((Int32.ofNat (sm_L M b_6)) - x1))], [.inr r2, .inl x1, .inr (sm_R M a0 7)], M)) sm_a73_24 rfl rfl rfl ?_
    refine ru_go (t := (26, [some (.inr (some a0)), some (.inl x1), some (.inr r2), some (.inl ((Int32.ofNat (sm_L M b_6)) - x1))], [.inl 0, .inr r2, .inl x1, .inr (sm_R M a0 7)], M)) sm_a73_25 rfl rfl (st_iconst (by decide)) ?_
    refine ru_go (t := (27, [some (.inr (some a0)), some (.inl x1), some (.inr r2), some (.inl ((Int32.ofNat (sm_L M b_6)) - x1))], [.inl ((Int32.ofNat (sm_L M b_6)) - x1), .inl 0, .inr r2, .inl x1, .inr (sm_R M a0 7)], M)) sm_a73_26 rfl rfl rfl ?_
    obtain ⟨b_9, hb_10, h⟩ := h
    rw [hb_10]
    obtain ⟨b_11, hb_12, h⟩ := h
    rw [hb_12]
    obtain ⟨h_13, h⟩ := h
    obtain ⟨h_14, h⟩ := h
    obtain ⟨h_15, h⟩ := h
    obtain ⟨h_16, h⟩ := h
    refine ru_go (t := (30, [some (.inr (some a0)), some (.inl x1), some (.inr (some b_9)), some (.inl ((Int32.ofNat (sm_L M b_6)) - x1))], [], sm_rowI M b_9 (va_cpy (sm_I M b_11) (sm_I M b_9) (x1 : Int32).toNatClampNeg (0 : Int32).toNatClampNeg (((Int32.ofNat (sm_L M b_6)) - x1) : Int32).toNatClampNeg))) sm_a73_27 rfl rfl (st_copy (Nat.le_of_ble_eq_true rfl) h_13 h_14 h_15 h_16) ?_
    refine ru_go (t := (31, [some (.inr (some a0)), some (.inl x1), some (.inr (some b_9)), some (.inl ((Int32.ofNat (sm_L M b_6)) - x1))], [.inl ((Int32.ofNat (sm_L M b_6)) - x1)], sm_rowI M b_9 (va_cpy (sm_I M b_11) (sm_I M b_9) (x1 : Int32).toNatClampNeg (0 : Int32).toNatClampNeg (((Int32.ofNat (sm_L M b_6)) - x1) : Int32).toNatClampNeg))) sm_a73_30 rfl rfl rfl ?_
    exact ru_ret sm_a73_31 rfl h
  · have h := h.2 hc_5
    refine ru_go (t := (10, [some (.inr (some a0)), some (.inl x1), some (.inr r2), z3], [.inl (-1)], M)) sm_a73_9 rfl rfl (st_iconst (by decide)) ?_
    exact ru_ret sm_a73_10 rfl h

/-! WireBus$Device.describe:([I)I -/
theorem sm_a74_0 : sm_at 74 0 = some (.getstatic 160, 3, (0, 0, 0, 917)) := by decide +kernel
theorem sm_a74_3 : sm_at 74 3 = some (.iconst 0, 1, (0, 0, 0, 0)) := by decide +kernel
theorem sm_a74_4 : sm_at 74 4 = some (.aload_n 1, 1, (0, 0, 0, 0)) := by decide +kernel
theorem sm_a74_5 : sm_at 74 5 = some (.iconst 0, 1, (0, 0, 0, 0)) := by decide +kernel
theorem sm_a74_6 : sm_at 74 6 = some (.getstatic 160, 3, (0, 0, 0, 917)) := by decide +kernel
theorem sm_a74_9 : sm_at 74 9 = some (.arraylength, 1, (0, 0, 0, 0)) := by decide +kernel
theorem sm_a74_10 : sm_at 74 10 = some (.invokestatic 154, 3, (4, 0, 0, 919)) := by decide +kernel
theorem sm_a74_13 : sm_at 74 13 = some (.aload_n 1, 1, (0, 0, 0, 0)) := by decide +kernel
theorem sm_a74_14 : sm_at 74 14 = some (.bipush 7, 2, (0, 0, 0, 0)) := by decide +kernel
theorem sm_a74_16 : sm_at 74 16 = some (.aload_n 0, 1, (0, 0, 0, 0)) := by decide +kernel
theorem sm_a74_17 : sm_at 74 17 = some (.getfield 9, 3, (4, 0, 0, 255)) := by decide +kernel
theorem sm_a74_20 : sm_at 74 20 = some (.iastore, 1, (0, 0, 0, 0)) := by decide +kernel
theorem sm_a74_21 : sm_at 74 21 = some (.aload_n 1, 1, (0, 0, 0, 0)) := by decide +kernel
theorem sm_a74_22 : sm_at 74 22 = some (.bipush 8, 2, (0, 0, 0, 0)) := by decide +kernel
theorem sm_a74_24 : sm_at 74 24 = some (.aload_n 0, 1, (0, 0, 0, 0)) := by decide +kernel
theorem sm_a74_25 : sm_at 74 25 = some (.getfield 45, 3, (4, 1, 0, 257)) := by decide +kernel
theorem sm_a74_28 : sm_at 74 28 = some (.sipush 255, 3, (0, 0, 0, 0)) := by decide +kernel
theorem sm_a74_31 : sm_at 74 31 = some (.iand, 1, (0, 0, 0, 0)) := by decide +kernel
theorem sm_a74_32 : sm_at 74 32 = some (.iastore, 1, (0, 0, 0, 0)) := by decide +kernel
theorem sm_a74_33 : sm_at 74 33 = some (.aload_n 1, 1, (0, 0, 0, 0)) := by decide +kernel
theorem sm_a74_34 : sm_at 74 34 = some (.bipush 9, 2, (0, 0, 0, 0)) := by decide +kernel
theorem sm_a74_36 : sm_at 74 36 = some (.aload_n 0, 1, (0, 0, 0, 0)) := by decide +kernel
theorem sm_a74_37 : sm_at 74 37 = some (.getfield 45, 3, (4, 1, 0, 257)) := by decide +kernel
theorem sm_a74_40 : sm_at 74 40 = some (.bipush 8, 2, (0, 0, 0, 0)) := by decide +kernel
theorem sm_a74_42 : sm_at 74 42 = some (.ishr, 1, (0, 0, 0, 0)) := by decide +kernel
theorem sm_a74_43 : sm_at 74 43 = some (.iastore, 1, (0, 0, 0, 0)) := by decide +kernel
theorem sm_a74_44 : sm_at 74 44 = some (.aload_n 1, 1, (0, 0, 0, 0)) := by decide +kernel
theorem sm_a74_45 : sm_at 74 45 = some (.bipush 10, 2, (0, 0, 0, 0)) := by decide +kernel
theorem sm_a74_47 : sm_at 74 47 = some (.aload_n 0, 1, (0, 0, 0, 0)) := by decide +kernel
theorem sm_a74_48 : sm_at 74 48 = some (.getfield 48, 3, (4, 2, 0, 258)) := by decide +kernel
theorem sm_a74_51 : sm_at 74 51 = some (.sipush 255, 3, (0, 0, 0, 0)) := by decide +kernel
theorem sm_a74_54 : sm_at 74 54 = some (.iand, 1, (0, 0, 0, 0)) := by decide +kernel
theorem sm_a74_55 : sm_at 74 55 = some (.iastore, 1, (0, 0, 0, 0)) := by decide +kernel
theorem sm_a74_56 : sm_at 74 56 = some (.aload_n 1, 1, (0, 0, 0, 0)) := by decide +kernel
theorem sm_a74_57 : sm_at 74 57 = some (.bipush 11, 2, (0, 0, 0, 0)) := by decide +kernel
theorem sm_a74_59 : sm_at 74 59 = some (.aload_n 0, 1, (0, 0, 0, 0)) := by decide +kernel
theorem sm_a74_60 : sm_at 74 60 = some (.getfield 48, 3, (4, 2, 0, 258)) := by decide +kernel
theorem sm_a74_63 : sm_at 74 63 = some (.bipush 8, 2, (0, 0, 0, 0)) := by decide +kernel
theorem sm_a74_65 : sm_at 74 65 = some (.ishr, 1, (0, 0, 0, 0)) := by decide +kernel
theorem sm_a74_66 : sm_at 74 66 = some (.iastore, 1, (0, 0, 0, 0)) := by decide +kernel
theorem sm_a74_67 : sm_at 74 67 = some (.getstatic 160, 3, (0, 0, 0, 917)) := by decide +kernel
theorem sm_a74_70 : sm_at 74 70 = some (.arraylength, 1, (0, 0, 0, 0)) := by decide +kernel
theorem sm_a74_71 : sm_at 74 71 = some (.ireturn, 1, (0, 0, 0, 0)) := by decide +kernel
theorem bb_74_0 {d : Nat} {M : sm_M} {Q : Option sm_V → sm_M → Prop} {a0 : Nat} {r1 : Option Nat}
    (h : ∃ b_1, sm_S M 0 = some b_1 ∧ (1 ≤ sm_K M b_1 ∧ sm_K M b_1 % 3 ≠ 0) ∧ ∃ b_4, r1 = some b_4 ∧ sm_iA M b_1 ∧ sm_wA 0 M b_4 ∧ (0 ≤ (0 : Int32).toInt ∧ 0 ≤ (0 : Int32).toInt ∧ 0 ≤ ((Int32.ofNat (sm_L M b_1)) : Int32).toInt) ∧ ((0 : Int32).toInt + ((Int32.ofNat (sm_L M b_1)) : Int32).toInt ≤ sm_L M b_1 ∧ (0 : Int32).toInt + ((Int32.ofNat (sm_L M b_1)) : Int32).toInt ≤ sm_L M b_4) ∧ sm_K M a0 = 15 ∧ sm_in_ M b_4 7 ∧ sm_Run (d + 1) 74 21 [some (.inr (some a0)), some (.inr (some b_4))] [] (sm_putI (sm_rowI M b_4 (va_cpy (sm_I M b_1) (sm_I M b_4) (0 : Int32).toNatClampNeg (0 : Int32).toNatClampNeg ((Int32.ofNat (sm_L M b_1)) : Int32).toNatClampNeg)) b_4 (7 : Int32).toNatClampNeg (sm_I (sm_rowI M b_4 (va_cpy (sm_I M b_1) (sm_I M b_4) (0 : Int32).toNatClampNeg (0 : Int32).toNatClampNeg ((Int32.ofNat (sm_L M b_1)) : Int32).toNatClampNeg)) a0 0)) Q) :
    sm_Run (d + 1) 74 0 [some (.inr (some a0)), some (.inr r1)] [] M Q := by
  refine ru_go (t := (3, [some (.inr (some a0)), some (.inr r1)], [.inr (sm_S M 0)], M)) sm_a74_0 rfl rfl (st_gets rfl) ?_
  refine ru_go (t := (4, [some (.inr (some a0)), some (.inr r1)], [.inl 0, .inr (sm_S M 0)], M)) sm_a74_3 rfl rfl (st_iconst (by decide)) ?_
  refine ru_go (t := (5, [some (.inr (some a0)), some (.inr r1)], [.inr r1, .inl 0, .inr (sm_S M 0)], M)) sm_a74_4 rfl rfl rfl ?_
  refine ru_go (t := (6, [some (.inr (some a0)), some (.inr r1)], [.inl 0, .inr r1, .inl 0, .inr (sm_S M 0)], M)) sm_a74_5 rfl rfl (st_iconst (by decide)) ?_
  refine ru_go (t := (9, [some (.inr (some a0)), some (.inr r1)], [.inr (sm_S M 0), .inl 0, .inr r1, .inl 0, .inr (sm_S M 0)], M)) sm_a74_6 rfl rfl (st_gets rfl) ?_
  obtain ⟨b_1, hb_2, h⟩ := h
  rw [hb_2]
  obtain ⟨h_3, h⟩ := h
  refine ru_go (t := (10, [some (.inr (some a0)), some (.inr r1)], [.inl (Int32.ofNat (sm_L M b_1)), .inl 0, .inr r1, .inl 0, .inr (some b_1)], M)) sm_a74_9 rfl rfl (st_alen h_3) ?_
  obtain ⟨b_4, hb_5, h⟩ := h
  rw [hb_5]
  obtain ⟨h_6, h⟩ := h
  obtain ⟨h_7, h⟩ := h
  obtain ⟨h_8, h⟩ := h
  obtain ⟨h_9, h⟩ := h
  refine ru_go (t := (13, [some (.inr (some a0)), some (.inr (some b_4))], [], sm_rowI M b_4 (va_cpy (sm_I M b_1) (sm_I M b_4) (0 : Int32).toNatClampNeg (0 : Int32).toNatClampNeg ((Int32.ofNat (sm_L M b_1)) : Int32).toNatClampNeg))) sm_a74_10 rfl rfl (st_copy (Nat.le_of_ble_eq_true rfl) h_6 h_7 h_8 h_9) ?_
  refine ru_go (t := (14, [some (.inr (some a0)), some (.inr (some b_4))], [.inr (some b_4)], sm_rowI M b_4 (va_cpy (sm_I M b_1) (sm_I M b_4) (0 : Int32).toNatClampNeg (0 : Int32).toNatClampNeg ((Int32.ofNat (sm_L M b_1)) : Int32).toNatClampNeg))) sm_a74_13 rfl rfl rfl ?_
  refine ru_go (t := (16, [some (.inr (some a0)), some (.inr (some b_4))], [.inl 7, .inr (some b_4)], sm_rowI M b_4 (va_cpy (sm_I M b_1) (sm_I M b_4) (0 : Int32).toNatClampNeg (0 : Int32).toNatClampNeg ((Int32.ofNat (sm_L M b_1)) : Int32).toNatClampNeg))) sm_a74_14 rfl rfl (st_bipush (by decide)) ?_
  refine ru_go (t := (17, [some (.inr (some a0)), some (.inr (some b_4))], [.inr (some a0), .inl 7, .inr (some b_4)], sm_rowI M b_4 (va_cpy (sm_I M b_1) (sm_I M b_4) (0 : Int32).toNatClampNeg (0 : Int32).toNatClampNeg ((Int32.ofNat (sm_L M b_1)) : Int32).toNatClampNeg))) sm_a74_16 rfl rfl rfl ?_
  obtain ⟨h_10, h⟩ := h
  refine ru_go (t := (20, [some (.inr (some a0)), some (.inr (some b_4))], [.inl (sm_I (sm_rowI M b_4 (va_cpy (sm_I M b_1) (sm_I M b_4) (0 : Int32).toNatClampNeg (0 : Int32).toNatClampNeg ((Int32.ofNat (sm_L M b_1)) : Int32).toNatClampNeg)) a0 0), .inl 7, .inr (some b_4)], sm_rowI M b_4 (va_cpy (sm_I M b_1) (sm_I M b_4) (0 : Int32).toNatClampNeg (0 : Int32).toNatClampNeg ((Int32.ofNat (sm_L M b_1)) : Int32).toNatClampNeg))) sm_a74_17 rfl rfl (st_getI h_10 rfl) ?_
  obtain ⟨h_11, h⟩ := h
  refine ru_go (t := (21, [some (.inr (some a0)), some (.inr (some b_4))], [], sm_putI (sm_rowI M b_4 (va_cpy (sm_I M b_1) (sm_I M b_4) (0 : Int32).toNatClampNeg (0 : Int32).toNatClampNeg ((Int32.ofNat (sm_L M b_1)) : Int32).toNatClampNeg)) b_4 (7 : Int32).toNatClampNeg (sm_I (sm_rowI M b_4 (va_cpy (sm_I M b_1) (sm_I M b_4) (0 : Int32).toNatClampNeg (0 : Int32).toNatClampNeg ((Int32.ofNat (sm_L M b_1)) : Int32).toNatClampNeg)) a0 0))) sm_a74_20 rfl rfl (st_iast h_7 h_11) ?_
  exact h
theorem bb_74_21 {d : Nat} {M : sm_M} {Q : Option sm_V → sm_M → Prop} {a0 : Nat} {r1 : Option Nat}
    (h : sm_K M a0 = 15 ∧ ∃ b_2, r1 = some b_2 ∧ sm_wA 0 M b_2 ∧ sm_in_ M b_2 8 ∧ sm_in_ M b_2 9 ∧ sm_in_ M b_2 10 ∧ sm_Run (d + 1) 74 56 [some (.inr (some a0)), some (.inr (some b_2))] [] (sm_putI (sm_putI (sm_putI M b_2 (8 : Int32).toNatClampNeg ((sm_I M a0 1) &&& 255)) b_2 (9 : Int32).toNatClampNeg ((sm_I (sm_putI M b_2 (8 : Int32).toNatClampNeg ((sm_I M a0 1) &&& 255)) a0 1) >>> (8 &&& 31))) b_2 (10 : Int32).toNatClampNeg ((sm_I (sm_putI (sm_putI M b_2 (8 : Int32).toNatClampNeg ((sm_I M a0 1) &&& 255)) b_2 (9 : Int32).toNatClampNeg ((sm_I (sm_putI M b_2 (8 : Int32).toNatClampNeg ((sm_I M a0 1) &&& 255)) a0 1) >>> (8 &&& 31))) a0 2) &&& 255)) Q) :
    sm_Run (d + 1) 74 21 [some (.inr (some a0)), some (.inr r1)] [] M Q := by
  refine ru_go (t := (22, [some (.inr (some a0)), some (.inr r1)], [.inr r1], M)) sm_a74_21 rfl rfl rfl ?_
  refine ru_go (t := (24, [some (.inr (some a0)), some (.inr r1)], [.inl 8, .inr r1], M)) sm_a74_22 rfl rfl (st_bipush (by decide)) ?_
  refine ru_go (t := (25, [some (.inr (some a0)), some (.inr r1)], [.inr (some a0), .inl 8, .inr r1], M)) sm_a74_24 rfl rfl rfl ?_
  obtain ⟨h_1, h⟩ := h
  refine ru_go (t := (28, [some (.inr (some a0)), some (.inr r1)], [.inl (sm_I M a0 1), .inl 8, .inr r1], M)) sm_a74_25 rfl rfl (st_getI h_1 rfl) ?_
  refine ru_go (t := (31, [some (.inr (some a0)), some (.inr r1)], [.inl 255, .inl (sm_I M a0 1), .inl 8, .inr r1], M)) sm_a74_28 rfl rfl (st_sipush (by decide)) ?_
  refine ru_go (t := (32, [some (.inr (some a0)), some (.inr r1)], [.inl ((sm_I M a0 1) &&& 255), .inl 8, .inr r1], M)) sm_a74_31 rfl rfl rfl ?_
  obtain ⟨b_2, hb_3, h⟩ := h
  rw [hb_3]
  obtain ⟨h_4, h⟩ := h
  obtain ⟨h_5, h⟩ := h
  refine ru_go (t := (33, [some (.inr (some a0)), some (.inr (some b_2))], [], sm_putI M b_2 (8 : Int32).toNatClampNeg ((sm_I M a0 1) &&& 255))) sm_a74_32 rfl rfl (st_iast h_4 h_5) ?_
  refine ru_go (t := (34, [some (.inr (some a0)), some (.inr (some b_2))], [.inr (some b_2)], sm_putI M b_2 (8 : Int32).toNatClampNeg ((sm_I M a0 1) &&& 255))) sm_a74_33 rfl rfl rfl ?_
  refine ru_go (t := (36, [some (.inr (some a0)), some (.inr (some b_2))], [.inl 9, .inr (some b_2)], sm_putI M b_2 (8 : Int32).toNatClampNeg ((sm_I M a0 1) &&& 255))) sm_a74_34 rfl rfl (st_bipush (by decide)) ?_
  refine ru_go (t := (37, [some (.inr (some a0)), some (.inr (some b_2))], [.inr (some a0), .inl 9, .inr (some b_2)], sm_putI M b_2 (8 : Int32).toNatClampNeg ((sm_I M a0 1) &&& 255))) sm_a74_36 rfl rfl rfl ?_
  refine ru_go (t := (40, [some (.inr (some a0)), some (.inr (some b_2))], [.inl (sm_I (sm_putI M b_2 (8 : Int32).toNatClampNeg ((sm_I M a0 1) &&& 255)) a0 1), .inl 9, .inr (some b_2)], sm_putI M b_2 (8 : Int32).toNatClampNeg ((sm_I M a0 1) &&& 255))) sm_a74_37 rfl rfl (st_getI h_1 rfl) ?_
  refine ru_go (t := (42, [some (.inr (some a0)), some (.inr (some b_2))], [.inl 8, .inl (sm_I (sm_putI M b_2 (8 : Int32).toNatClampNeg ((sm_I M a0 1) &&& 255)) a0 1), .inl 9, .inr (some b_2)], sm_putI M b_2 (8 : Int32).toNatClampNeg ((sm_I M a0 1) &&& 255))) sm_a74_40 rfl rfl (st_bipush (by decide)) ?_
  refine ru_go (t := (43, [some (.inr (some a0)), some (.inr (some b_2))], [.inl ((sm_I (sm_putI M b_2 (8 : Int32).toNatClampNeg ((sm_I M a0 1) &&& 255)) a0 1) >>> (8 &&& 31)), .inl 9, .inr (some b_2)], sm_putI M b_2 (8 : Int32).toNatClampNeg ((sm_I M a0 1) &&& 255))) sm_a74_42 rfl rfl rfl ?_
  obtain ⟨h_6, h⟩ := h
  refine ru_go (t := (44, [some (.inr (some a0)), some (.inr (some b_2))], [], sm_putI (sm_putI M b_2 (8 : Int32).toNatClampNeg ((sm_I M a0 1) &&& 255)) b_2 (9 : Int32).toNatClampNeg ((sm_I (sm_putI M b_2 (8 : Int32).toNatClampNeg ((sm_I M a0 1) &&& 255)) a0 1) >>> (8 &&& 31)))) sm_a74_43 rfl rfl (st_iast h_4 h_6) ?_
  refine ru_go (t := (45, [some (.inr (some a0)), some (.inr (some b_2))], [.inr (some b_2)], sm_putI (sm_putI M b_2 (8 : Int32).toNatClampNeg ((sm_I M a0 1) &&& 255)) b_2 (9 : Int32).toNatClampNeg ((sm_I (sm_putI M b_2 (8 : Int32).toNatClampNeg ((sm_I M a0 1) &&& 255)) a0 1) >>> (8 &&& 31)))) sm_a74_44 rfl rfl rfl ?_
  refine ru_go (t := (47, [some (.inr (some a0)), some (.inr (some b_2))], [.inl 10, .inr (some b_2)], sm_putI (sm_putI M b_2 (8 : Int32).toNatClampNeg ((sm_I M a0 1) &&& 255)) b_2 (9 : Int32).toNatClampNeg ((sm_I (sm_putI M b_2 (8 : Int32).toNatClampNeg ((sm_I M a0 1) &&& 255)) a0 1) >>> (8 &&& 31)))) sm_a74_45 rfl rfl (st_bipush (by decide)) ?_
  refine ru_go (t := (48, [some (.inr (some a0)), some (.inr (some b_2))], [.inr (some a0), .inl 10, .inr (some b_2)], sm_putI (sm_putI M b_2 (8 : Int32).toNatClampNeg ((sm_I M a0 1) &&& 255)) b_2 (9 : Int32).toNatClampNeg ((sm_I (sm_putI M b_2 (8 : Int32).toNatClampNeg ((sm_I M a0 1) &&& 255)) a0 1) >>> (8 &&& 31)))) sm_a74_47 rfl rfl rfl ?_
  refine ru_go (t := (51, [some (.inr (some a0)), some (.inr (some b_2))], [.inl (sm_I (sm_putI (sm_putI M b_2 (8 : Int32).toNatClampNeg ((sm_I M a0 1) &&& 255)) b_2 (9 : Int32).toNatClampNeg ((sm_I (sm_putI M b_2 (8 : Int32).toNatClampNeg ((sm_I M a0 1) &&& 255)) a0 1) >>> (8 &&& 31))) a0 2), .inl 10, .inr (some b_2)], sm_putI (sm_putI M b_2 (8 : Int32).toNatClampNeg ((sm_I M a0 1) &&& 255)) b_2 (9 : Int32).toNatClampNeg ((sm_I (sm_putI M b_2 (8 : Int32).toNatClampNeg ((sm_I M a0 1) &&& 255)) a0 1) >>> (8 &&& 31)))) sm_a74_48 rfl rfl (st_getI h_1 rfl) ?_
  refine ru_go (t := (54, [some (.inr (some a0)), some (.inr (some b_2))], [.inl 255, .inl (sm_I (sm_putI (sm_putI M b_2 (8 : Int32).toNatClampNeg ((sm_I M a0 1) &&& 255)) b_2 (9 : Int32).toNatClampNeg ((sm_I (sm_putI M b_2 (8 : Int32).toNatClampNeg ((sm_I M a0 1) &&& 255)) a0 1) >>> (8 &&& 31))) a0 2), .inl 10, .inr (some b_2)], sm_putI (sm_putI M b_2 (8 : Int32).toNatClampNeg ((sm_I M a0 1) &&& 255)) b_2 (9 : Int32).toNatClampNeg ((sm_I (sm_putI M b_2 (8 : Int32).toNatClampNeg ((sm_I M a0 1) &&& 255)) a0 1) >>> (8 &&& 31)))) sm_a74_51 rfl rfl (st_sipush (by decide)) ?_
  refine ru_go (t := (55, [some (.inr (some a0)), some (.inr (some b_2))], [.inl ((sm_I (sm_putI (sm_putI M b_2 (8 : Int32).toNatClampNeg ((sm_I M a0 1) &&& 255)) b_2 (9 : Int32).toNatClampNeg ((sm_I (sm_putI M b_2 (8 : Int32).toNatClampNeg ((sm_I M a0 1) &&& 255)) a0 1) >>> (8 &&& 31))) a0 2) &&& 255), .inl 10, .inr (some b_2)], sm_putI (sm_putI M b_2 (8 : Int32).toNatClampNeg ((sm_I M a0 1) &&& 255)) b_2 (9 : Int32).toNatClampNeg ((sm_I (sm_putI M b_2 (8 : Int32).toNatClampNeg ((sm_I M a0 1) &&& 255)) a0 1) >>> (8 &&& 31)))) sm_a74_54 rfl rfl rfl ?_
  obtain ⟨h_7, h⟩ := h
  refine ru_go (t := (56, [some (.inr (some a0)), some (.inr (some b_2))], [], sm_putI (sm_putI (sm_putI M b_2 (8 : Int32).toNatClampNeg ((sm_I M a0 1) &&& 255)) b_2 (9 : Int32).toNatClampNeg ((sm_I (sm_putI M b_2 (8 : Int32).toNatClampNeg ((sm_I M a0 1) &&& 255)) a0 1) >>> (8 &&& 31))) b_2 (10 : Int32).toNatClampNeg ((sm_I (sm_putI (sm_putI M b_2 (8 : Int32).toNatClampNeg ((sm_I M a0 1) &&& 255)) b_2 (9 : Int32).toNatClampNeg ((sm_I (sm_putI M b_2 (8 : Int32).toNatClampNeg ((sm_I M a0 1) &&& 255)) a0 1) >>> (8 &&& 31))) a0 2) &&& 255))) sm_a74_55 rfl rfl (st_iast h_4 h_7) ?_
  exact h
theorem bb_74_56 {d : Nat} {M : sm_M} {Q : Option sm_V → sm_M → Prop} {a0 : Nat} {r1 : Option Nat}
    (h : sm_K M a0 = 15 ∧ ∃ b_2, r1 = some b_2 ∧ sm_wA 0 M b_2 ∧ sm_in_ M b_2 11 ∧ ∃ b_6, sm_S M 0 = some b_6 ∧ (1 ≤ sm_K M b_6 ∧ sm_K M b_6 % 3 ≠ 0) ∧ Q (some (.inl (Int32.ofNat (sm_L M b_6)))) (sm_putI M b_2 (11 : Int32).toNatClampNeg ((sm_I M a0 2) >>> (8 &&& 31)))) :
    sm_Run (d + 1) 74 56 [some (.inr (some a0)), some (.inr r1)] [] M Q := by
  refine ru_go (t := (57, [some (.inr (some a0)), some (.inr r1)], [.inr r1], M)) sm_a74_56 rfl rfl rfl ?_
  refine ru_go (t := (59, [some (.inr (some a0)), some (.inr r1)], [.inl 11, .inr r1], M)) sm_a74_57 rfl rfl (st_bipush (by decide)) ?_
  refine ru_go (t := (60, [some (.inr (some a0)), some (.inr r1)], [.inr (some a0), .inl 11, .inr r1], M)) sm_a74_59 rfl rfl rfl ?_
  obtain ⟨h_1, h⟩ := h
  refine ru_go (t := (63, [some (.inr (some a0)), some (.inr r1)], [.inl (sm_I M a0 2), .inl 11, .inr r1], M)) sm_a74_60 rfl rfl (st_getI h_1 rfl) ?_
  refine ru_go (t := (65, [some (.inr (some a0)), some (.inr r1)], [.inl 8, .inl (sm_I M a0 2), .inl 11, .inr r1], M)) sm_a74_63 rfl rfl (st_bipush (by decide)) ?_
  refine ru_go (t := (66, [some (.inr (some a0)), some (.inr r1)], [.inl ((sm_I M a0 2) >>> (8 &&& 31)), .inl 11, .inr r1], M)) sm_a74_65 rfl rfl rfl ?_
  obtain ⟨b_2, hb_3, h⟩ := h
  rw [hb_3]
  obtain ⟨h_4, h⟩ := h
  obtain ⟨h_5, h⟩ := h
  refine ru_go (t := (67, [some (.inr (some a0)), some (.inr (some b_2))], [], sm_putI M b_2 (11 : Int32).toNatClampNeg ((sm_I M a0 2) >>> (8 &&& 31)))) sm_a74_66 rfl rfl (st_iast h_4 h_5) ?_
  refine ru_go (t := (70, [some (.inr (some a0)), some (.inr (some b_2))], [.inr (sm_S M 0)], sm_putI M b_2 (11 : Int32).toNatClampNeg ((sm_I M a0 2) >>> (8 &&& 31)))) sm_a74_67 rfl rfl (st_gets rfl) ?_
  obtain ⟨b_6, hb_7, h⟩ := h
  rw [hb_7]
  obtain ⟨h_8, h⟩ := h
  refine ru_go (t := (71, [some (.inr (some a0)), some (.inr (some b_2))], [.inl (Int32.ofNat (sm_L M b_6))], sm_putI M b_2 (11 : Int32).toNatClampNeg ((sm_I M a0 2) >>> (8 &&& 31)))) sm_a74_70 rfl rfl (st_alen h_8) ?_
  exact ru_ret sm_a74_71 rfl h

/-! WireBus$Device.describeConfiguration:([I)I -/
theorem sm_a75_0 : sm_at 75 0 = some (.getstatic 163, 3, (1, 0, 0, 926)) := by decide +kernel
theorem sm_a75_3 : sm_at 75 3 = some (.iconst 0, 1, (0, 0, 0, 0)) := by decide +kernel
theorem sm_a75_4 : sm_at 75 4 = some (.aload_n 1, 1, (0, 0, 0, 0)) := by decide +kernel
theorem sm_a75_5 : sm_at 75 5 = some (.iconst 0, 1, (0, 0, 0, 0)) := by decide +kernel
theorem sm_a75_6 : sm_at 75 6 = some (.getstatic 163, 3, (1, 0, 0, 926)) := by decide +kernel
theorem sm_a75_9 : sm_at 75 9 = some (.arraylength, 1, (0, 0, 0, 0)) := by decide +kernel
theorem sm_a75_10 : sm_at 75 10 = some (.invokestatic 154, 3, (4, 0, 0, 919)) := by decide +kernel
theorem sm_a75_13 : sm_at 75 13 = some (.getstatic 163, 3, (1, 0, 0, 926)) := by decide +kernel
theorem sm_a75_16 : sm_at 75 16 = some (.arraylength, 1, (0, 0, 0, 0)) := by decide +kernel
theorem sm_a75_17 : sm_at 75 17 = some (.getstatic 166, 3, (2, 0, 0, 928)) := by decide +kernel
theorem sm_a75_20 : sm_at 75 20 = some (.arraylength, 1, (0, 0, 0, 0)) := by decide +kernel
theorem sm_a75_21 : sm_at 75 21 = some (.aload_n 0, 1, (0, 0, 0, 0)) := by decide +kernel
theorem sm_a75_22 : sm_at 75 22 = some (.getfield 51, 3, (4, 6, 0, 267)) := by decide +kernel
theorem sm_a75_25 : sm_at 75 25 = some (.imul, 1, (0, 0, 0, 0)) := by decide +kernel
theorem sm_a75_26 : sm_at 75 26 = some (.iadd, 1, (0, 0, 0, 0)) := by decide +kernel
theorem sm_a75_27 : sm_at 75 27 = some (.istore_n 2, 1, (0, 0, 0, 0)) := by decide +kernel
theorem sm_a75_28 : sm_at 75 28 = some (.aload_n 1, 1, (0, 0, 0, 0)) := by decide +kernel
theorem sm_a75_29 : sm_at 75 29 = some (.iconst 2, 1, (0, 0, 0, 0)) := by decide +kernel
theorem sm_a75_30 : sm_at 75 30 = some (.iload_n 2, 1, (0, 0, 0, 0)) := by decide +kernel
theorem sm_a75_31 : sm_at 75 31 = some (.iastore, 1, (0, 0, 0, 0)) := by decide +kernel
theorem sm_a75_32 : sm_at 75 32 = some (.aload_n 1, 1, (0, 0, 0, 0)) := by decide +kernel
theorem sm_a75_33 : sm_at 75 33 = some (.bipush 13, 2, (0, 0, 0, 0)) := by decide +kernel
theorem sm_a75_35 : sm_at 75 35 = some (.aload_n 0, 1, (0, 0, 0, 0)) := by decide +kernel
theorem sm_a75_36 : sm_at 75 36 = some (.getfield 51, 3, (4, 6, 0, 267)) := by decide +kernel
theorem sm_a75_39 : sm_at 75 39 = some (.iastore, 1, (0, 0, 0, 0)) := by decide +kernel
theorem sm_a75_40 : sm_at 75 40 = some (.iconst 0, 1, (0, 0, 0, 0)) := by decide +kernel
theorem sm_a75_41 : sm_at 75 41 = some (.istore_n 3, 1, (0, 0, 0, 0)) := by decide +kernel
theorem sm_a75_42 : sm_at 75 42 = some (.iload_n 3, 1, (0, 0, 0, 0)) := by decide +kernel
theorem sm_a75_43 : sm_at 75 43 = some (.aload_n 0, 1, (0, 0, 0, 0)) := by decide +kernel
theorem sm_a75_44 : sm_at 75 44 = some (.getfield 51, 3, (4, 6, 0, 267)) := by decide +kernel
theorem sm_a75_47 : sm_at 75 47 = some (.if_icmp .ge 97, 3, (0, 0, 0, 0)) := by decide +kernel
theorem sm_a75_50 : sm_at 75 50 = some (.aload_n 0, 1, (0, 0, 0, 0)) := by decide +kernel
theorem sm_a75_51 : sm_at 75 51 = some (.getfield 20, 3, (4, 5, 0, 266)) := by decide +kernel
theorem sm_a75_54 : sm_at 75 54 = some (.iload_n 3, 1, (0, 0, 0, 0)) := by decide +kernel
theorem sm_a75_55 : sm_at 75 55 = some (.aaload, 1, (0, 0, 0, 0)) := by decide +kernel
theorem sm_a75_56 : sm_at 75 56 = some (.astore 4, 2, (0, 0, 0, 0)) := by decide +kernel
theorem sm_a75_58 : sm_at 75 58 = some (.getstatic 163, 3, (1, 0, 0, 926)) := by decide +kernel
theorem sm_a75_61 : sm_at 75 61 = some (.arraylength, 1, (0, 0, 0, 0)) := by decide +kernel
theorem sm_a75_62 : sm_at 75 62 = some (.getstatic 166, 3, (2, 0, 0, 928)) := by decide +kernel
theorem sm_a75_65 : sm_at 75 65 = some (.arraylength, 1, (0, 0, 0, 0)) := by decide +kernel
theorem sm_a75_66 : sm_at 75 66 = some (.iload_n 3, 1, (0, 0, 0, 0)) := by decide +kernel
theorem sm_a75_67 : sm_at 75 67 = some (.imul, 1, (0, 0, 0, 0)) := by decide +kernel
theorem sm_a75_68 : sm_at 75 68 = some (.iadd, 1, (0, 0, 0, 0)) := by decide +kernel
theorem sm_a75_69 : sm_at 75 69 = some (.istore 5, 2, (0, 0, 0, 0)) := by decide +kernel
theorem sm_a75_71 : sm_at 75 71 = some (.getstatic 166, 3, (2, 0, 0, 928)) := by decide +kernel
theorem sm_a75_74 : sm_at 75 74 = some (.iconst 0, 1, (0, 0, 0, 0)) := by decide +kernel
theorem sm_a75_75 : sm_at 75 75 = some (.aload_n 1, 1, (0, 0, 0, 0)) := by decide +kernel
theorem sm_a75_76 : sm_at 75 76 = some (.iload 5, 2, (0, 0, 0, 0)) := by decide +kernel
theorem sm_a75_78 : sm_at 75 78 = some (.getstatic 166, 3, (2, 0, 0, 928)) := by decide +kernel
theorem sm_a75_81 : sm_at 75 81 = some (.arraylength, 1, (0, 0, 0, 0)) := by decide +kernel
theorem sm_a75_82 : sm_at 75 82 = some (.invokestatic 154, 3, (4, 0, 0, 919)) := by decide +kernel
theorem sm_a75_85 : sm_at 75 85 = some (.aload_n 1, 1, (0, 0, 0, 0)) := by decide +kernel
theorem sm_a75_86 : sm_at 75 86 = some (.iload 5, 2, (0, 0, 0, 0)) := by decide +kernel
theorem sm_a75_88 : sm_at 75 88 = some (.iconst 2, 1, (0, 0, 0, 0)) := by decide +kernel
theorem sm_a75_89 : sm_at 75 89 = some (.iadd, 1, (0, 0, 0, 0)) := by decide +kernel
theorem sm_a75_90 : sm_at 75 90 = some (.aload 4, 2, (0, 0, 0, 0)) := by decide +kernel
theorem sm_a75_92 : sm_at 75 92 = some (.getfield 63, 3, (5, 0, 1, 539)) := by decide +kernel
theorem sm_a75_95 : sm_at 75 95 = some (.iastore, 1, (0, 0, 0, 0)) := by decide +kernel
theorem sm_a75_96 : sm_at 75 96 = some (.aload_n 1, 1, (0, 0, 0, 0)) := by decide +kernel
theorem sm_a75_97 : sm_at 75 97 = some (.iload 5, 2, (0, 0, 0, 0)) := by decide +kernel
theorem sm_a75_99 : sm_at 75 99 = some (.iconst 3, 1, (0, 0, 0, 0)) := by decide +kernel
theorem sm_a75_100 : sm_at 75 100 = some (.iadd, 1, (0, 0, 0, 0)) := by decide +kernel
theorem sm_a75_101 : sm_at 75 101 = some (.aload 4, 2, (0, 0, 0, 0)) := by decide +kernel
theorem sm_a75_103 : sm_at 75 103 = some (.getfield 169, 3, (5, 2, 1, 543)) := by decide +kernel
theorem sm_a75_106 : sm_at 75 106 = some (.ifCond .ne 7, 3, (0, 0, 0, 0)) := by decide +kernel
theorem sm_a75_109 : sm_at 75 109 = some (.iconst 2, 1, (0, 0, 0, 0)) := by decide +kernel
theorem sm_a75_110 : sm_at 75 110 = some (.goto 4, 3, (0, 0, 0, 0)) := by decide +kernel
theorem sm_a75_113 : sm_at 75 113 = some (.iconst 3, 1, (0, 0, 0, 0)) := by decide +kernel
theorem sm_a75_114 : sm_at 75 114 = some (.iastore, 1, (0, 0, 0, 0)) := by decide +kernel
theorem sm_a75_115 : sm_at 75 115 = some (.aload_n 1, 1, (0, 0, 0, 0)) := by decide +kernel
theorem sm_a75_116 : sm_at 75 116 = some (.iload 5, 2, (0, 0, 0, 0)) := by decide +kernel
theorem sm_a75_118 : sm_at 75 118 = some (.iconst 4, 1, (0, 0, 0, 0)) := by decide +kernel
theorem sm_a75_119 : sm_at 75 119 = some (.iadd, 1, (0, 0, 0, 0)) := by decide +kernel
theorem sm_a75_120 : sm_at 75 120 = some (.aload 4, 2, (0, 0, 0, 0)) := by decide +kernel
theorem sm_a75_122 : sm_at 75 122 = some (.getfield 172, 3, (5, 1, 1, 541)) := by decide +kernel
theorem sm_a75_125 : sm_at 75 125 = some (.iastore, 1, (0, 0, 0, 0)) := by decide +kernel
theorem sm_a75_126 : sm_at 75 126 = some (.aload_n 1, 1, (0, 0, 0, 0)) := by decide +kernel
theorem sm_a75_127 : sm_at 75 127 = some (.iload 5, 2, (0, 0, 0, 0)) := by decide +kernel
theorem sm_a75_129 : sm_at 75 129 = some (.bipush 6, 2, (0, 0, 0, 0)) := by decide +kernel
theorem sm_a75_131 : sm_at 75 131 = some (.iadd, 1, (0, 0, 0, 0)) := by decide +kernel
theorem sm_a75_132 : sm_at 75 132 = some (.aload 4, 2, (0, 0, 0, 0)) := by decide +kernel
theorem sm_a75_134 : sm_at 75 134 = some (.getfield 169, 3, (5, 2, 1, 543)) := by decide +kernel
theorem sm_a75_137 : sm_at 75 137 = some (.iastore, 1, (0, 0, 0, 0)) := by decide +kernel
theorem sm_a75_138 : sm_at 75 138 = some (.iinc 3 1, 3, (0, 0, 0, 0)) := by decide +kernel
theorem sm_a75_141 : sm_at 75 141 = some (.goto (-99), 3, (0, 0, 0, 0)) := by decide +kernel
theorem sm_a75_144 : sm_at 75 144 = some (.iload_n 2, 1, (0, 0, 0, 0)) := by decide +kernel
theorem sm_a75_145 : sm_at 75 145 = some (.ireturn, 1, (0, 0, 0, 0)) := by decide +kernel
theorem bb_75_0 {d : Nat} {M : sm_M} {Q : Option sm_V → sm_M → Prop} {a0 : Nat} {r1 : Option Nat} {z2 : Option sm_V} {z3 : Option sm_V} {z4 : Option sm_V} {z5 : Option sm_V}
    (h : ∃ b_1, sm_S M 1 = some b_1 ∧ (1 ≤ sm_K M b_1 ∧ sm_K M b_1 % 3 ≠ 0) ∧ ∃ b_4, r1 = some b_4 ∧ sm_iA M b_1 ∧ sm_wA 0 M b_4 ∧ (0 ≤ (0 : Int32).toInt ∧ 0 ≤ (0 : Int32).toInt ∧ 0 ≤ ((Int32.ofNat (sm_L M b_1)) : Int32).toInt) ∧ ((0 : Int32).toInt + ((Int32.ofNat (sm_L M b_1)) : Int32).toInt ≤ sm_L M b_1 ∧ (0 : Int32).toInt + ((Int32.ofNat (sm_L M b_1)) : Int32).toInt ≤ sm_L M b_4) ∧ ∃ b_10, sm_S M 1 = some b_10 ∧ (1 ≤ sm_K M b_10 ∧ sm_K M b_10 % 3 ≠ 0) ∧ ∃ b_13, sm_S M 2 = some b_13 ∧ (1 ≤ sm_K M b_13 ∧ sm_K M b_13 % 3 ≠ 0) ∧ sm_K M a0 = 15 ∧ sm_in_ M b_4 2 ∧ sm_Run (d + 1) 75 32 [some (.inr (some a0)), some (.inr (some b_4)), some (.inl ((Int32.ofNat (sm_L M b_10)) + ((Int32.ofNat (sm_L M b_13)) * (sm_I (sm_rowI M b_4 (va_cpy (sm_I M b_1) (sm_I M b_4) (0 : Int32).toNatClampNeg (0 : Int32).toNatClampNeg ((Int32.ofNat (sm_L M b_1)) : Int32).toNatClampNeg)) a0 6)))), z3, z4, z5] [] (sm_putI (sm_rowI M b_4 (va_cpy (sm_I M b_1) (sm_I M b_4) (0 : Int32).toNatClampNeg (0 : Int32).toNatClampNeg ((Int32.ofNat (sm_L M b_1)) : Int32).toNatClampNeg)) b_4 (2 : Int32).toNatClampNeg ((Int32.ofNat (sm_L M b_10)) + ((Int32.ofNat (sm_L M b_13)) * (sm_I (sm_rowI M b_4 (va_cpy (sm_I M b_1) (sm_I M b_4) (0 : Int32).toNatClampNeg (0 : Int32).toNatClampNeg ((Int32.ofNat (sm_L M b_1)) : Int32).toNatClampNeg)) a0 6)))) Q) :
    sm_Run (d + 1) 75 0 [some (.inr (some a0)), some (.inr r1), z2, z3, z4, z5] [] M Q := by
  refine ru_go (t := (3, [some (.inr (some a0)), some (.inr r1), z2, z3, z4, z5], [.inr (sm_S M 1)], M)) sm_a75_0 rfl rfl (st_gets rfl) ?_
  refine ru_go (t := (4, [some (.inr (some a0)), some (.inr r1), z2, z3, z4, z5], [.inl 0, .inr (sm_S M 1)], M)) sm_a75_3 rfl rfl (st_iconst (by decide)) ?_
  refine ru_go (t := (5, [some (.inr (some a0)), some (.inr r1), z2, z3, z4, z5], [.inr r1, .inl 0, .inr (sm_S M 1)], M)) sm_a75_4 rfl rfl rfl ?_
  refine ru_go (t := (6, [some (.inr (some a0)), some (.inr r1), z2, z3, z4, z5], [.inl 0, .inr r1, .inl 0, .inr (sm_S M 1)], M)) sm_a75_5 rfl rfl (st_iconst (by decide)) ?_
  refine ru_go (t := (9, [some (.inr (some a0)), some (.inr r1), z2, z3, z4, z5], [.inr (sm_S M 1), .inl 0, .inr r1, .inl 0, .inr (sm_S M 1)], M)) sm_a75_6 rfl rfl (st_gets rfl) ?_
  obtain ⟨b_1, hb_2, h⟩ := h
  rw [hb_2]
  obtain ⟨h_3, h⟩ := h
  refine ru_go (t := (10, [some (.inr (some a0)), some (.inr r1), z2, z3, z4, z5], [.inl (Int32.ofNat (sm_L M b_1)), .inl 0, .inr r1, .inl 0, .inr (some b_1)], M)) sm_a75_9 rfl rfl (st_alen h_3) ?_
  obtain ⟨b_4, hb_5, h⟩ := h
  rw [hb_5]
  obtain ⟨h_6, h⟩ := h
  obtain ⟨h_7, h⟩ := h
  obtain ⟨h_8, h⟩ := h
  obtain ⟨h_9, h⟩ := h
  refine ru_go (t := (13, [some (.inr (some a0)), some (.inr (some b_4)), z2, z3, z4, z5], [], sm_rowI M b_4 (va_cpy (sm_I M b_1) (sm_I M b_4) (0 : Int32).toNatClampNeg (0 : Int32).toNatClampNeg ((Int32.ofNat (sm_L M b_1)) : Int32).toNatClampNeg))) sm_a75_10 rfl rfl (st_copy (Nat.le_of_ble_eq_true rfl) h_6 h_7 h_8 h_9) ?_
  refine ru_go (t := (16, [some (.inr (some a0)), some (.inr (some b_4)), z2, z3, z4, z5], [.inr (sm_S M 1)], sm_rowI M b_4 (va_cpy (sm_I M b_1) (sm_I M b_4) (0 : Int32).toNatClampNeg (0 : Int32).toNatClampNeg ((Int32.ofNat (sm_L M b_1)) : Int32).toNatClampNeg))) sm_a75_13 rfl rfl (st_gets rfl) ?_
  obtain ⟨b_10, hb_11, h⟩ := h
  rw [hb_11]
  obtain ⟨h_12, h⟩ := h
  refine ru_go (t := (17, [some (.inr (some a0)), some (.inr (some b_4)), z2, z3, z4, z5], [.inl (Int32.ofNat (sm_L M b_10))], sm_rowI M b_4 (va_cpy (sm_I M b_1) (sm_I M b_4) (0 : Int32).toNatClampNeg (0 : Int32).toNatClampNeg ((Int32.ofNat (sm_L M b_1)) : Int32).toNatClampNeg))) sm_a75_16 rfl rfl (st_alen h_12) ?_
  refine ru_go (t := (20, [some (.inr (some a0)), some (.inr (some b_4)), z2, z3, z4, z5], [.inr (sm_S M 2), .inl (Int32.ofNat (sm_L M b_10))], sm_rowI M b_4 (va_cpy (sm_I M b_1) (sm_I M b_4) (0 : Int32).toNatClampNeg (0 : Int32).toNatClampNeg ((Int32.ofNat (sm_L M b_1)) : Int32).toNatClampNeg))) sm_a75_17 rfl rfl (st_gets rfl) ?_
  obtain ⟨b_13, hb_14, h⟩ := h
  rw [hb_14]
  obtain ⟨h_15, h⟩ := h
  refine ru_go (t := (21, [some (.inr (some a0)), some (.inr (some b_4)), z2, z3, z4, z5], [.inl (Int32.ofNat (sm_L M b_13)), .inl (Int32.ofNat (sm_L M b_10))], sm_rowI M b_4 (va_cpy (sm_I M b_1) (sm_I M b_4) (0 : Int32).toNatClampNeg (0 : Int32).toNatClampNeg ((Int32.ofNat (sm_L M b_1)) : Int32).toNatClampNeg))) sm_a75_20 rfl rfl (st_alen h_15) ?_
  refine ru_go (t := (22, [some (.inr (some a0)), some (.inr (some b_4)), z2, z3, z4, z5], [.inr (some a0), .inl (Int32.ofNat (sm_L M b_13)), .inl (Int32.ofNat (sm_L M b_10))], sm_rowI M b_4 (va_cpy (sm_I M b_1) (sm_I M b_4) (0 : Int32).toNatClampNeg (0 : Int32).toNatClampNeg ((Int32.ofNat (sm_L M b_1)) : Int32).toNatClampNeg))) sm_a75_21 rfl rfl rfl ?_
  obtain ⟨h_16, h⟩ := h
  refine ru_go (t := (25, [some (.inr (some a0)), some (.inr (some b_4)), z2, z3, z4, z5], [.inl (sm_I (sm_rowI M b_4 (va_cpy (sm_I M b_1) (sm_I M b_4) (0 : Int32).toNatClampNeg (0 : Int32).toNatClampNeg ((Int32.ofNat (sm_L M b_1)) : Int32).toNatClampNeg)) a0 6), .inl (Int32.ofNat (sm_L M b_13)), .inl (Int32.ofNat (sm_L M b_10))], sm_rowI M b_4 (va_cpy (sm_I M b_1) (sm_I M b_4) (0 : Int32).toNatClampNeg (0 : Int32).toNatClampNeg ((Int32.ofNat (sm_L M b_1)) : Int32).toNatClampNeg))) sm_a75_22 rfl rfl (st_getI h_16 rfl) ?_
  refine ru_go (t := (26, [some (.inr (some a0)), some (.inr (some b_4)), z2, z3, z4, z5], [.inl ((Int32.ofNat (sm_L M b_13)) * (sm_I (sm_rowI M b_4 (va_cpy (sm_I M b_1) (sm_I M b_4) (0 : Int32).toNatClampNeg (0 : Int32).toNatClampNeg ((Int32.ofNat (sm_L M b_1)) : Int32).toNatClampNeg)) a0 6)), .inl (Int32.ofNat (sm_L M b_10))], sm_rowI M b_4 (va_cpy (sm_I M b_1) (sm_I M b_4) (0 : Int32).toNatClampNeg (0 : Int32).toNatClampNeg ((Int32.ofNat (sm_L M b_1)) : Int32).toNatClampNeg))) sm_a75_25 rfl rfl rfl ?_
  refine ru_go (t := (27, [some (.inr (some a0)), some (.inr (some b_4)), z2, z3, z4, z5], [.inl ((Int32.ofNat (sm_L M b_10)) + ((Int32.ofNat (sm_L M b_13)) * (sm_I (sm_rowI M b_4 (va_cpy (sm_I M b_1) (sm_I M b_4) (0 : Int32).toNatClampNeg (0 : Int32).toNatClampNeg ((Int32.ofNat (sm_L M b_1)) : Int32).toNatClampNeg)) a0 6)))], sm_rowI M b_4 (va_cpy (sm_I M b_1) (sm_I M b_4) (0 : Int32).toNatClampNeg (0 : Int32).toNatClampNeg ((Int32.ofNat (sm_L M b_1)) : Int32).toNatClampNeg))) sm_a75_26 rfl rfl rfl ?_
  refine ru_go (t := (28, [some (.inr (some a0)), some (.inr (some b_4)), some (.inl ((Int32.ofNat (sm_L M b_10)) + ((Int32.ofNat (sm_L M b_13)) * (sm_I (sm_rowI M b_4 (va_cpy (sm_I M b_1) (sm_I M b_4) (0 : Int32).toNatClampNeg (0 : Int32).toNatClampNeg ((Int32.ofNat (sm_L M b_1)) : Int32).toNatClampNeg)) a0 6)))), z3, z4, z5], [], sm_rowI M b_4 (va_cpy (sm_I M b_1) (sm_I M b_4) (0 : Int32).toNatClampNeg (0 : Int32).toNatClampNeg ((Int32.ofNat (sm_L M b_1)) : Int32).toNatClampNeg))) sm_a75_27 rfl rfl rfl ?_
  refine ru_go (t := (29, [some (.inr (some a0)), some (.inr (some b_4)), some (.inl ((Int32.ofNat (sm_L M b_10)) + ((Int32.ofNat (sm_L M b_13)) * (sm_I (sm_rowI M b_4 (va_cpy (sm_I M b_1) (sm_I M b_4) (0 : Int32).toNatClampNeg (0 : Int32).toNatClampNeg ((Int32.ofNat (sm_L M b_1)) : Int32).toNatClampNeg)) a0 6)))), z3, z4, z5], [.inr (some b_4)], sm_rowI M b_4 (va_cpy (sm_I M b_1) (sm_I M b_4) (0 : Int32).toNatClampNeg (0 : Int32).toNatClampNeg ((Int32.ofNat (sm_L M b_1)) : Int32).toNatClampNeg))) sm_a75_28 rfl rfl rfl ?_
  refine ru_go (t := (30, [some (.inr (some a0)), some (.inr (some b_4)), some (.inl ((Int32.ofNat (sm_L M b_10)) + ((Int32.ofNat (sm_L M b_13)) * (sm_I (sm_rowI M b_4 (va_cpy (sm_I M b_1) (sm_I M b_4) (0 : Int32).toNatClampNeg (0 : Int32).toNatClampNeg ((Int32.ofNat (sm_L M b_1)) : Int32).toNatClampNeg)) a0 6)))), z3, z4, z5], [.inl 2, .inr (some b_4)], sm_rowI M b_4 (va_cpy (sm_I M b_1) (sm_I M b_4) (0 : Int32).toNatClampNeg (0 : Int32).toNatClampNeg ((Int32.ofNat (sm_L M b_1)) : Int32).toNatClampNeg))) sm_a75_29 rfl rfl (st_iconst (by decide)) ?_
  refine ru_go (t := (31, [some (.inr (some a0)), some (.inr (some b_4)), some (.inl ((Int32.ofNat (sm_L M b_10)) + ((Int32.ofNat (sm_L M b_13)) * (sm_I (sm_rowI M b_4 (va_cpy (sm_I M b_1) (sm_I M b_4) (0 : Int32).toNatClampNeg (0 : Int32).toNatClampNeg ((Int32.ofNat (sm_L M b_1)) : Int32).toNatClampNeg)) a0 6)))), z3, z4, z5], [.inl ((Int32.ofNat (sm_L M b_10)) + ((Int32.ofNat (sm_L M b_13)) * (sm_I (sm_rowI M b_4 (va_cpy (sm_I M b_1) (sm_I M b_4) (0 : Int32).toNatClampNeg (0 : Int32).toNatClampNeg ((Int32.ofNat (sm_L M b_1)) : Int32).toNatClampNeg)) a0 6))), .inl 2, .inr (some b_4)], sm_rowI M b_4 (va_cpy (sm_I M b_1) (sm_I M b_4) (0 : Int32).toNatClampNeg (0 : Int32).toNatClampNeg ((Int32.ofNat (sm_L M b_1)) : Int32).toNatClampNeg))) sm_a75_30 rfl rfl rfl ?_
  obtain ⟨h_17, h⟩ := h
  refine ru_go (t := (32, [some (.inr (some a0)), some (.inr (some b_4)), some (.inl ((Int32.ofNat (sm_L M b_10)) + ((Int32.ofNat (sm_L M b_13)) * (sm_I (sm_rowI M b_4 (va_cpy (sm_I M b_1) (sm_I M b_4) (0 : Int32).toNatClampNeg (0 : Int32).toNatClampNeg ((Int32.ofNat (sm_L M b_1)) : Int32).toNatClampNeg)) a0 6)))), z3, z4, z5], [], sm_putI (sm_rowI M b_4 (va_cpy (sm_I M b_1) (sm_I M b_4) (0 : Int32).toNatClampNeg (0 : Int32).toNatClampNeg ((Int32.ofNat (sm_L M b_1)) : Int32).toNatClampNeg)) b_4 (2 : Int32).toNatClampNeg ((Int32.ofNat (sm_L M b_10)) + ((Int32.ofNat (sm_L M b_13)) * (sm_I (sm_rowI M b_4 (va_cpy (sm_I M b_1) (sm_I M b_4) (0 : Int32).toNatClampNeg (0 : Int32).toNatClampNeg ((Int32.ofNat (sm_L M b_1)) : Int32).toNatClampNeg)) a0 6))))) sm_a75_31 rfl rfl (st_iast h_7 h_17) ?_
  exact h
theorem bb_75_32 {d : Nat} {M : sm_M} {Q : Option sm_V → sm_M → Prop} {a0 : Nat} {r1 : Option Nat} {x2 : Int32} {z3 : Option sm_V} {z4 : Option sm_V} {z5 : Option sm_V}
    (h : sm_K M a0 = 15 ∧ ∃ b_2, r1 = some b_2 ∧ sm_wA 0 M b_2 ∧ sm_in_ M b_2 13 ∧ sm_Run (d + 1) 75 42 [some (.inr (some a0)), some (.inr (some b_2)), some (.inl x2), some (.inl 0), z4, z5] [] (sm_putI M b_2 (13 : Int32).toNatClampNeg (sm_I M a0 6)) Q) :
    sm_Run (d + 1) 75 32 [some (.inr (some a0)), some (.inr r1), some (.inl x2), z3, z4, z5] [] M Q := by
  refine ru_go (t := (33, [some (.inr (some a0)), some (.inr r1), some (.inl x2), z3, z4, z5], [.inr r1], M)) sm_a75_32 rfl rfl rfl ?_
  refine ru_go (t := (35, [some (.inr (some a0)), some (.inr r1), some (.inl x2), z3, z4, z5], [.inl 13, .inr r1], M)) sm_a75_33 rfl rfl (st_bipush (by decide)) ?_
  refine ru_go (t := (36, [some (.inr (some a0)), some (.inr r1), some (.inl x2), z3, z4, z5], [.inr (some a0), .inl 13, .inr r1], M)) sm_a75_35 rfl rfl rfl ?_
  obtain ⟨h_1, h⟩ := h
  refine ru_go (t := (39, [some (.inr (some a0)), some (.inr r1), some (.inl x2), z3, z4, z5], [.inl (sm_I M a0 6), .inl 13, .inr r1], M)) sm_a75_36 rfl rfl (st_getI h_1 rfl) ?_
  obtain ⟨b_2, hb_3, h⟩ := h
  rw [hb_3]
  obtain ⟨h_4, h⟩ := h
  obtain ⟨h_5, h⟩ := h
  refine ru_go (t := (40, [some (.inr (some a0)), some (.inr (some b_2)), some (.inl x2), z3, z4, z5], [], sm_putI M b_2 (13 : Int32).toNatClampNeg (sm_I M a0 6))) sm_a75_39 rfl rfl (st_iast h_4 h_5) ?_
  refine ru_go (t := (41, [some (.inr (some a0)), some (.inr (some b_2)), some (.inl x2), z3, z4, z5], [.inl 0], sm_putI M b_2 (13 : Int32).toNatClampNeg (sm_I M a0 6))) sm_a75_40 rfl rfl (st_iconst (by decide)) ?_
  refine ru_go (t := (42, [some (.inr (some a0)), some (.inr (some b_2)), some (.inl x2), some (.inl 0), z4, z5], [], sm_putI M b_2 (13 : Int32).toNatClampNeg (sm_I M a0 6))) sm_a75_41 rfl rfl rfl ?_
  exact h
theorem bb_75_42 {d : Nat} {M : sm_M} {Q : Option sm_V → sm_M → Prop} {a0 : Nat} {r1 : Option Nat} {x2 : Int32} {x3 : Int32} {z4 : Option sm_V} {z5 : Option sm_V}
    (h : sm_K M a0 = 15 ∧ (((sm_I M a0 6) ≤ x3 → Q (some (.inl x2)) M) ∧ (¬ ((sm_I M a0 6) ≤ x3) → ∃ b_3, sm_R M a0 5 = some b_3 ∧ (∃ ci, sm_K M b_3 = 4 + 3 * ci) ∧ sm_in_ M b_3 x3 ∧ ∃ b_7, sm_S M 1 = some b_7 ∧ (1 ≤ sm_K M b_7 ∧ sm_K M b_7 % 3 ≠ 0) ∧ ∃ b_10, sm_S M 2 = some b_10 ∧ (1 ≤ sm_K M b_10 ∧ sm_K M b_10 % 3 ≠ 0) ∧ ∃ b_13, sm_S M 2 = some b_13 ∧ (1 ≤ sm_K M b_13 ∧ sm_K M b_13 % 3 ≠ 0) ∧ ∃ b_16, r1 = some b_16 ∧ sm_iA M b_13 ∧ sm_wA 0 M b_16 ∧ (0 ≤ (0 : Int32).toInt ∧ 0 ≤ (((Int32.ofNat (sm_L M b_7)) + ((Int32.ofNat (sm_L M b_10)) * x3)) : Int32).toInt ∧ 0 ≤ ((Int32.ofNat (sm_L M b_13)) : Int32).toInt) ∧ ((0 : Int32).toInt + ((Int32.ofNat (sm_L M b_13)) : Int32).toInt ≤ sm_L M b_13 ∧ (((Int32.ofNat (sm_L M b_7)) + ((Int32.ofNat (sm_L M b_10)) * x3)) : Int32).toInt + ((Int32.ofNat (sm_L M b_13)) : Int32).toInt ≤ sm_L M b_16) ∧ ∃ b_22, sm_R M b_3 (x3).toNatClampNeg = some b_22 ∧ sm_K M b_22 = 18 ∧ sm_in_ M b_16 (((Int32.ofNat (sm_L M b_7)) + ((Int32.ofNat (sm_L M b_10)) * x3)) + 2) ∧ sm_Run (d + 1) 75 96 [some (.inr (some a0)), some (.inr (some b_16)), some (.inl x2), some (.inl x3), some (.inr (some b_22)), some (.inl ((Int32.ofNat (sm_L M b_7)) + ((Int32.ofNat (sm_L M b_10)) * x3)))] [] (sm_putI (sm_rowI M b_16 (va_cpy (sm_I M b_13) (sm_I M b_16) (0 : Int32).toNatClampNeg (((Int32.ofNat (sm_L M b_7)) + ((Int32.ofNat (sm_L M b_10)) * x3)) : Int32).toNatClampNeg ((Int32.ofNat (sm_L M b_13)) : Int32).toNatClampNeg)) b_16 (((Int32.ofNat (sm_L M b_7)) + ((Int32.ofNat (sm_L M b_10)) * x3)) + 2).toNatClampNeg (sm_I (sm_rowI M b_16 (va_cpy (sm_I M b_13) (sm_I M b_16) (0 : Int32).toNatClampNeg (((Int32.ofNat (sm_L M b_7)) + ((Int32.ofNat (sm_L M b_10)) * x3)) : Int32).toNatClampNeg ((Int32.ofNat (sm_L M b_13)) : Int32).toNatClampNeg)) b_22 0)) Q))) :
    sm_Run (d + 1) 75 42 [some (.inr (some a0)), some (.inr r1), some (.inl x2), some (.inl x3), z4, z5] [] M Q := by
  refine ru_go (t := (43, [some (.inr (some a0)), some (.inr r1), some (.inl x2), some (.inl x3), z4, z5], [.inl x3], M)) sm_a75_42 rfl rfl rfl ?_
  refine ru_go (t := (44, [some (.inr (some a0)), some (.inr r1), some (.inl x2), some (.inl x3), z4, z5], [.inr (some a0), .inl x3], M)) sm_a75_43 rfl rfl rfl ?_
  obtain ⟨h_1, h⟩ := h
  refine ru_go (t := (47, [some (.inr (some a0)), some (.inr r1), some (.inl x2), some (.inl x3), z4, z5], [.inl (sm_I M a0 6), .inl x3], M)) sm_a75_44 rfl rfl (st_getI h_1 rfl) ?_
  refine ru_icmp (pc := 47) (p := 144) (p2 := 50) sm_a75_47 (by decide) rfl ⟨fun hc_2 => ?_, fun hc_2 => ?_⟩
  · have h := h.1 hc_2
    refine ru_go (t := (145, [some (.inr (some a0)), some (.inr r1), some (.inl x2), some (.inl x3), z4, z5], [.inl x2], M)) sm_a75_144 rfl rfl rfl ?_
    exact ru_ret sm_a75_145 rfl h
  · have h := h.2 hc_2
    refine ru_go (t := (51, [some (.inr (some a0)), some (.inr r1), some (.inl x2), some (.inl x3), z4, z5], [.inr (some a0)], M)) sm_a75_50 rfl rfl rfl ?_
    refine ru_go (t := (54, [some (.inr (some a0)), some (.inr r1), some (.inl x2), some (.inl x3), z4, z5], [.inr (sm_R M a0 5)], M)) sm_a75_51 rfl rfl (st_getR h_1 rfl rfl) ?_
    refine ru_go (t := (55, [some (.inr (some a0)), some (.inr r1), some (.inl x2), some (.inl x3), z4, z5], [.inl x3, .inr (sm_R M a0 5)], M)) sm_a75_54 rfl rfl rfl ?_
    obtain ⟨b_3, hb_4, h⟩ := h
    rw [hb_4]
    obtain ⟨h_5, h⟩ := h
    obtain ⟨h_6, h⟩ := h
    refine ru_go (t := (56, [some (.inr (some a0)), some (.inr r1), some (.inl x2), some (.inl x3), z4, z5], [.inr (sm_R M b_3 (x3).toNatClampNeg)], M)) sm_a75_55 rfl rfl (st_aald h_5.choose_spec h_6 rfl) ?_
    refine ru_go (t := (58, [some (.inr (some a0)), some (.inr r1), some (.inl x2), some (.inl x3), some (.inr (sm_R M b_3 (x3).toNatClampNeg)), z5], [], M)) sm_a75_56 rfl rfl rfl ?_
    refine ru_go (t := (61, [some (.inr (some a0)), some (.inr r1), some (.inl x2), some (.inl x3), some (.inr (sm_R M b_3 (x3).toNatClampNeg)), z5], [.inr (sm_S M 1)], M)) sm_a75_58 rfl rfl (st_gets rfl) ?_
    obtain ⟨b_7, hb_8, h⟩ := h
    rw [hb_8]
    obtain ⟨h_9, h⟩ := h
    refine ru_go (t := (62, [some (.inr (some a0)), some (.inr r1), some (.inl x2), some (.inl x3), some (.inr (sm_R M b_3 (x3).toNatClampNeg)), z5], [.inl (Int32.ofNat (sm_L M b_7))], M)) sm_a75_61 rfl rfl (st_alen h_9) ?_
    refine ru_go (t := (65, [some (.inr (some a0)), some (.inr r1), some (.inl x2), some (.inl x3), some (.inr (sm_R M b_3 (x3).toNatClampNeg)), z5], [.inr (sm_S M 2), .inl (Int32.ofNat (sm_L M b_7))], M)) sm_a75_62 rfl rfl (st_gets rfl) ?_
    obtain ⟨b_10, hb_11, h⟩ := h
    rw [hb_11]
    obtain ⟨h_12, h⟩ := h
    refine ru_go (t := (66, [some (.inr (some a0)), some (.inr r1), some (.inl x2), some (.inl x3), some (.inr (sm_R M b_3 (x3).toNatClampNeg)), z5], [.inl (Int32.ofNat (sm_L M b_10)), .inl (Int32.ofNat (sm_L M b_7))], M)) sm_a75_65 rfl rfl (st_alen h_12) ?_
    refine ru_go (t := (67, [some (.inr (some a0)), some (.inr r1), some (.inl x2), some (.inl x3), some (.inr (sm_R M b_3 (x3).toNatClampNeg)), z5], [.inl x3, .inl (Int32.ofNat (sm_L M b_10)), .inl (Int32.ofNat (sm_L M b_7))], M)) sm_a75_66 rfl rfl rfl ?_
    refine ru_go (t := (68, [some (.inr (some a0)), some (.inr r1), some (.inl x2), some (.inl x3), some (.inr (sm_R M b_3 (x3).toNatClampNeg)), z5], [.inl ((Int32.ofNat (sm_L M b_10)) * x3), .inl (Int32.ofNat (sm_L M b_7))], M)) sm_a75_67 rfl rfl rfl ?_
    refine ru_go (t := (69, [some (.inr (some a0)), some (.inr r1), some (.inl x2), some (.inl x3), some (.inr (sm_R M b_3 (x3).toNatClampNeg)), z5], [.inl ((Int32.ofNat (sm_L M b_7)) + ((Int32.ofNat (sm_L M b_10)) * x3))], M)) sm_a75_68 rfl rfl rfl ?_
    refine ru_go (t := (71, [some (.inr (some a0)), some (.inr r1), some (.inl x2), some (.inl x3), some (.inr (sm_R M b_3 (x3).toNatClampNeg)), some (.inl ((Int32.ofNat (sm_L M b_7)) + ((Int32.ofNat (sm_L M b_10)) * x3)))], [], M)) sm_a75_69 rfl rfl rfl ?_
    refine ru_go (t := (74, [some (.inr (some a0)), some (.inr r1), some (.inl x2), some (.inl x3), some (.inr (sm_R M b_3 (x3).toNatClampNeg)), some (.inl ((Int32.ofNat (sm_L M b_7)) + ((Int32.ofNat (sm_L M b_10)) * x3)))], [.inr (sm_S M 2)], M)) sm_a75_71 rfl rfl (st_gets rfl) ?_
    refine ru_go (t := (75, [some (.inr (some a0)), some (.inr r1), some (.inl x2), some (.inl x3), some (.inr (sm_R M b_3 (x3).toNatClampNeg)), some (.inl ((Int32.ofNat (sm_L M b_7)) + ((Int32.ofNat (sm_L M b_10)) * x3)))], [.inl 0, .inr (sm_S M 2)], M)) sm_a75_74 rfl rfl (st_iconst (by decide)) ?_
    refine ru_go (t := (76, [some (.inr (some a0)), some (.inr r1), some (.inl x2), some (.inl x3), some (.inr (sm_R M b_3 (x3).toNatClampNeg)), some (.inl ((Int32.ofNat (sm_L M b_7)) + ((Int32.ofNat (sm_L M b_10)) * x3)))], [.inr r1, .inl 0, .inr (sm_S M 2)], M)) sm_a75_75 rfl rfl rfl ?_
    refine ru_go (t := (78, [some (.inr (some a0)), some (.inr r1), some (.inl x2), some (.inl x3), some (.inr (sm_R M b_3 (x3).toNatClampNeg)), some (.inl ((Int32.ofNat (sm_L M b_7)) + ((Int32.ofNat (sm_L M b_10)) * x3)))], [.inl ((Int32.ofNat (sm_L M b_7)) + ((Int32.ofNat (sm_L M b_10)) * x3)), .inr r1, .inl 0, .inr (sm_S M 2)], M)) sm_a75_76 rfl rfl rfl ?_
    refine ru_go (t := (81, [some (.inr (some a0)), some (.inr r1), some (.inl x2), some (.inl x3), some (.inr (sm_R M b_3 (x3).toNatClampNeg)), some (.inl ((Int32.ofNat (sm_L M b_7)) + ((Int32.ofNat (sm_L M b_10)) * x3)))], [.inr (sm_S M 2), .inl ((Int32.ofNat (sm_L M b_7)) + ((Int32.ofNat (sm_L M b_10)) * x3)), .inr r1, .inl 0, .inr (sm_S M 2)], M)) sm_a75_78 rfl rfl (st_gets rfl) ?_
    obtain ⟨b_13, hb_14, h⟩ := h
    rw [hb_14]
    obtain ⟨h_15, h⟩ := h
    refine ru_go (t := (82, [some (.inr (some a0)), some (.inr r1), some (.inl x2), some (.inl x3), some (.inr (sm_R M b_3 (x3).toNatClampNeg)), some (.inl ((Int32.ofNat (sm_L M b_7)) + ((Int32.ofNat (sm_L M b_10)) * x3)))], [.inl (Int32.ofNat (sm_L M b_13)), .inl ((Int32.ofNat (sm_L M b_7)) + ((Int32.ofNat (sm_L M b_10)) * x3)), .inr r1, .inl 0, .inr (some b_13)], M)) sm_a75_81 rfl rfl (st_alen h_15) ?_
    obtain ⟨b_16, hb_17, h⟩ := h
    rw [hb_17]
    obtain ⟨h_18, h⟩ := h
    obtain ⟨h_19, h⟩ := h
    obtain ⟨h_20, h⟩ := h
    obtain ⟨h_21, h⟩ := h
    refine ru_go (t := (85, [some (.inr (some a0)), some (.inr (some b_16)), some (.inl x2), some (.inl x3), some (.inr (sm_R M b_3 (x3).toNatClampNeg)), some (.inl ((Int32.ofNat (sm_L M b_7)) + ((Int32.ofNat (sm_L M b_10)) * x3)))], [], sm_rowI M b_16 (va_cpy (sm_I M b_13) (sm_I M b_16) (0 : Int32).toNatClampNeg (((Int32.ofNat (sm_L M b_7)) + ((Int32.ofNat (sm_L M b_10)) * x3)) : Int32).toNatClampNeg ((Int32.ofNat (sm_L M b_13)) : Int32).toNatClampNeg))) sm_a75_82 rfl rfl (st_copy (Nat.le_of_ble_eq_true rfl) h_18 h_19 h_20 h_21) ?_
    refine ru_go (t := (86, [some (.inr (some a0)), some (.inr (some b_16)), some (.inl x2), some (.inl x3), some (.inr (sm_R M b_3 (x3).toNatClampNeg)), some (.inl ((Int32.ofNat (sm_L M b_7)) + ((Int32.ofNat (sm_L M b_10)) * x3)))], [.inr (some b_16)], sm_rowI M b_16 (va_cpy (sm_I M b_13) (sm_I M b_16) (0 : Int32).toNatClampNeg (((Int32.ofNat (sm_L M b_7)) + ((Int32.ofNat (sm_L M b_10)) * x3)) : Int32).toNatClampNeg ((Int32.ofNat (sm_L M b_13)) : Int32).toNatClampNeg))) sm_a75_85 rfl rfl rfl ?_
    refine ru_go (t := (88, [some (.inr (some a0)), some (.inr (some b_16)), some (.inl x2), some (.inl x3), some (.inr (sm_R M b_3 (x3).toNatClampNeg)), some (.inl ((Int32.ofNat (sm_L M b_7)) + ((Int32.ofNat (sm_L M b_10)) * x3)))], [.inl ((Int32.ofNat (sm_L M b_7)) + ((Int32.ofNat (sm_L M b_10)) * x3)), .inr (some b_16)], sm_rowI M b_16 (va_cpy (sm_I M b_13) (sm_I M b_16) (0 : Int32).toNatClampNeg (((Int32.ofNat (sm_L M b_7)) + ((Int32.ofNat (sm_L M b_10)) * x3)) : Int32).toNatClampNeg ((Int32.ofNat (sm_L M b_13)) : Int32).toNatClampNeg))) sm_a75_86 rfl rfl rfl ?_
    refine ru_go (t := (89, [some (.inr (some a0)), some (.inr (some b_16)), some (.inl x2), some (.inl x3), some (.inr (sm_R M b_3 (x3).toNatClampNeg)), some (.inl ((Int32.ofNat (sm_L M b_7)) + ((Int32.ofNat (sm_L M b_10)) * x3)))], [.inl 2, .inl ((Int32.ofNat (sm_L M b_7)) + ((Int32.ofNat (sm_L M b_10)) * x3)), .inr (some b_16)], sm_rowI M b_16 (va_cpy (sm_I M b_13) (sm_I M b_16) (0 : Int32).toNatClampNeg (((Int32.ofNat (sm_L M b_7)) + ((Int32.ofNat (sm_L M b_10)) * x3)) : Int32).toNatClampNeg ((Int32.ofNat (sm_L M b_13)) : Int32).toNatClampNeg))) sm_a75_88 rfl rfl (st_iconst (by decide)) ?_
    refine ru_go (t := (90, [some (.inr (some a0)), some (.inr (some b_16)), some (.inl x2), some (.inl x3), some (.inr (sm_R M b_3 (x3).toNatClampNeg)), some (.inl ((Int32.ofNat (sm_L M b_7)) + ((Int32.ofNat (sm_L M b_10)) * x3)))], [.inl (((Int32.ofNat (sm_L M b_7)) + ((Int32.ofNat (sm_L M b_10)) * x3)) + 2), .inr (some b_16)], sm_rowI M b_16 (va_cpy (sm_I M b_13) (sm_I M b_16) (0 : Int32).toNatClampNeg (((Int32.ofNat (sm_L M b_7)) + ((Int32.ofNat (sm_L M b_10)) * x3)) : Int32).toNatClampNeg ((Int32.ofNat (sm_L M b_13)) : Int32).toNatClampNeg))) sm_a75_89 rfl rfl rfl ?_
    refine ru_go (t := (92, [some (.inr (some a0)), some (.inr (some b_16)), some (.inl x2), some (.inl x3), some (.inr (sm_R M b_3 (x3).toNatClampNeg)), some (.inl ((Int32.ofNat (sm_L M b_7)) + ((Int32.ofNat (sm_L M b_10)) * x3)))], [.inr (sm_R M b_3 (x3).toNatClampNeg), .inl (((Int32.ofNat (sm_L M b_7)) + ((Int32.ofNat (sm_L M b_10)) * x3)) + 2), .inr (some b_16)], sm_rowI M b_16 (va_cpy (sm_I M b_13) (sm_I M b_16) (0 : Int32).toNatClampNeg (((Int32.ofNat (sm_L M b_7)) + ((Int32.ofNat (sm_L M b_10)) * x3)) : Int32).toNatClampNeg ((Int32.ofNat (sm_L M b_13)) : Int32).toNatClampNeg))) sm_a75_90 rfl rfl rfl ?_
    obtain ⟨b_22, hb_23, h⟩ := h
    rw [hb_23]
    obtain ⟨h_24, h⟩ := h
    refine ru_go (t := (95, [some (.inr (some a0)), some (.inr (some b_16)), some (.inl x2), some (.inl x3), some (.inr (some b_22)), some (.inl ((Int32.ofNat (sm_L M b_7)) + ((Int32.ofNat (sm_L M b_10)) * x3)))], [.inl (sm_I (sm_rowI M b_16 (va_cpy (sm_I M b_13) (sm_I M b_16) (0 : Int32).toNatClampNeg (((Int32.ofNat (sm_L M b_7)) + ((Int32.ofNat (sm_L M b_10)) * x3)) : Int32).toNatClampNeg ((Int32.ofNat (sm_L M b_13)) : Int32).toNatClampNeg)) b_22 0), .inl (((Int32.ofNat (sm_L M b_7)) + ((Int32.ofNat (sm_L M b_10)) * x3)) + 2), .inr (some b_16)], sm_rowI M b_16 (va_cpy (sm_I M b_13) (sm_I M b_16) (0 : Int32).toNatClampNeg (((Int32.ofNat (sm_L M b_7)) + ((Int32.ofNat (sm_L M b_10)) * x3)) : Int32).toNatClampNeg ((Int32.ofNat (sm_L M b_13)) : Int32).toNatClampNeg))) sm_a75_92 rfl rfl (st_getI h_24 rfl) ?_
    obtain ⟨h_25, h⟩ := h
    refine ru_go (t := (96, [some (.inr (some a0)), some (.inr (some b_16)), some (.inl x2), some (.inl x3), some (.inr (some b_22)), some (.inl ((Int32.ofNat (sm_L M b_7)) + ((Int32.ofNat (sm_L M b_10)) * x3)))], [], sm_putI (sm_rowI M b_16 (va_cpy (sm_I M b_13) (sm_I M b_16) (0 : Int32).toNatClampNeg (((Int32.ofNat (sm_L M b_7)) + ((Int32.ofNat (sm_L M b_10)) * x3)) : Int32).toNatClampNeg ((Int32.ofNat (sm_L M b_13)) : Int32).toNatClampNeg)) b_16 (((Int32.ofNat (sm_L M b_7)) + ((Int32.ofNat (sm_L M b_10)) * x3)) + 2).toNatClampNeg (sm_I (sm_rowI M b_16 (va_cpy (sm_I M b_13) (sm_I M b_16) (0 : Int32).toNatClampNeg (((Int32.ofNat (sm_L M b_7)) + ((Int32.ofNat (sm_L M b_10)) * x3)) : Int32).toNatClampNeg ((Int32.ofNat (sm_L M b_13)) : Int32).toNatClampNeg)) b_22 0))) sm_a75_95 rfl rfl (st_iast h_19 h_25) ?_
    exact h
theorem bb_75_96 {d : Nat} {M : sm_M} {Q : Option sm_V → sm_M → Prop} {a0 : Nat} {r1 : Option Nat} {x2 : Int32} {x3 : Int32} {r4 : Option Nat} {x5 : Int32}
    (h : ∃ b_1, r4 = some b_1 ∧ sm_K M b_1 = 18 ∧ ((¬ (sm_I M b_1 2) = 0 → ∃ b_5, r1 = some b_5 ∧ sm_wA 0 M b_5 ∧ sm_in_ M b_5 (x5 + 3) ∧ sm_in_ M b_5 (x5 + 4) ∧ sm_in_ M b_5 (x5 + 6) ∧ sm_Run (d + 1) 75 42 [some (.inr (some a0)), some (.inr (some b_5)), some (.inl x2), some (.inl (x3 + 1)), some (.inr (some b_1)), some (.inl x5)] [] (sm_putI (sm_putI (sm_putI M b_5 (x5 + 3).toNatClampNeg 3) b_5 (x5 + 4).toNatClampNeg (sm_I (sm_putI M b_5 (x5 + 3).toNatClampNeg 3) b_1 1)) b_5 (x5 + 6).toNatClampNeg (sm_I (sm_putI (sm_putI M b_5 (x5 + 3).toNatClampNeg 3) b_5 (x5 + 4).toNatClampNeg (sm_I (sm_putI M b_5 (x5 + 3).toNatClampNeg 3) b_1 1)) b_1 2)) Q) ∧ (¬ (¬ (sm_I M b_1 2) = 0) → ∃ b_11, r1 = some b_11 ∧ sm_wA 0 M b_11 ∧ sm_in_ M b_11 (x5 + 3) ∧ sm_in_ M b_11 (x5 + 4) ∧ sm_in_ M b_11 (x5 + 6) ∧ sm_Run (d + 1) 75 42 [some (.inr (some a0)), some (.inr (some b_11)), some (.inl x2), some (.inl (x3 + 1)), some (.inr (some b_1)), some (.inl x5)] [] (sm_putI (sm_putI (sm_putI M b_11 (x5 + 3).toNatClampNeg 2) b_11 (x5 + 4).toNatClampNeg (sm_I (sm_putI M b_11 (x5 + 3).toNatClampNeg 2) b_1 1)) b_11 (x5 + 6).toNatClampNeg (sm_I (sm_putI (sm_putI M b_11 (x5 + 3).toNatClampNeg 2) b_11 (x5 + 4).toNatClampNeg (sm_I (sm_putI M b_11 (x5 + 3).toNatClampNeg 2) b_1 1)) b_1 2)) Q))) :
    sm_Run (d + 1) 75 96 [some (.inr (some a0)), some (.inr r1), some (.inl x2), some (.inl x3), some (.inr r4), some (.inl x5)] [] M Q := by
  refine ru_go (t := (97, [some (.inr (some a0)), some (.inr r1), some (.inl x2), some (.inl x3), some (.inr r4), some (.inl x5)], [.inr r1], M)) sm_a75_96 rfl rfl rfl ?_
  refine ru_go (t := (99, [some (.inr (some a0)), some (.inr r1), some (.inl x2), some (.inl x3), some (.inr r4), some (.inl x5)], [.inl x5, .inr r1], M)) sm_a75_97 rfl rfl rfl ?_
  refine ru_go (t := (100, [some (.inr (some a0)), some (.inr r1), some (.inl x2), some (.inl x3), some (.inr r4), some (.inl x5)], [.inl 3, .inl x5, .inr r1], M)) sm_a75_99 rfl rfl (st_iconst (by decide)) ?_
  refine ru_go (t := (101, [some (.inr (some a0)), some (.inr r1), some (.inl x2), some (.inl x3), some (.inr r4), some (.inl x5)], [.inl (x5 + 3), .inr r1], M)) sm_a75_100 rfl rfl rfl ?_
  refine ru_go (t := (103, [some (.inr (some a0)), some (.inr r1), some (.inl x2), some (.inl x3), some (.inr r4), some (.inl x5)], [.inr r4, .inl (x5 + 3), .inr r1], M)) sm_a75_101 rfl rfl rfl ?_
  obtain ⟨b_1, hb_2, h⟩ := h
  rw [hb_2]
  obtain ⟨h_3, h⟩ := h
  refine ru_go (t := (106, [some (.inr (some a0)), some (.inr r1), some (.inl x2), some (.inl x3), some (.inr (some b_1)), some (.inl x5)], [.inl (sm_I M b_1 2), .inl (x5 + 3), .inr r1], M)) sm_a75_103 rfl rfl (st_getI h_3 rfl) ?_
  refine ru_if (pc := 106) (p := 113) (p2 := 109) sm_a75_106 (by decide) rfl ⟨fun hc_4 => ?_, fun hc_4 => ?_⟩
  · have h := h.1 hc_4
    refine ru_go (t := (114, [some (.inr (some a0)), some (.inr r1), some (.inl x2), some (.inl x3), some (.inr (some b_1)), some (.inl x5)], [.inl 3, .inl (x5 + 3), .inr r1], M)) sm_a75_113 rfl rfl (st_iconst (by decide)) ?_
    obtain ⟨b_5, hb_6, h⟩ := h
    rw [hb_6]
    obtain ⟨h_7, h⟩ := h
    obtain ⟨h_8, h⟩ := h
    refine ru_go (t := (115, [some (.inr (some a0)), some (.inr (some b_5)), some (.inl x2), some (.inl x3), some (.inr (some b_1)), some (.inl x5)], [], sm_putI M b_5 (x5 + 3).toNatClampNeg 3)) sm_a75_114 rfl rfl (st_iast h_7 h_8) ?_
    refine ru_go (t := (116, [some (.inr (some a0)), some (.inr (some b_5)), some (.inl x2), some (.inl x3), some (.inr (some b_1)), some (.inl x5)], [.inr (some b_5)], sm_putI M b_5 (x5 + 3).toNatClampNeg 3)) sm_a75_115 rfl rfl rfl ?_
    refine ru_go (t := (118, [some (.inr (some a0)), some (.inr (some b_5)), some (.inl x2), some (.inl x3), some (.inr (some b_1)), some (.inl x5)], [.inl x5, .inr (some b_5)], sm_putI M b_5 (x5 + 3).toNatClampNeg 3)) sm_a75_116 rfl rfl rfl ?_
    refine ru_go (t := (119, [some (.inr (some a0)), some (.inr (some b_5)), some (.inl x2), some (.inl x3), some (.inr (some b_1)), some (.inl x5)], [.inl 4, .inl x5, .inr (some b_5)], sm_putI M b_5 (x5 + 3).toNatClampNeg 3)) sm_a75_118 rfl rfl (st_iconst (by decide)) ?_
    refine ru_go (t := (120, [some (.inr (some a0)), some (.inr (some b_5)), some (.inl x2), some (.inl x3), some (.inr (some b_1)), some (.inl x5)], [.inl (x5 + 4), .inr (some b_5)], sm_putI M b_5 (x5 + 3).toNatClampNeg 3)) sm_a75_119 rfl rfl rfl ?_
    refine ru_go (t := (122, [some (.inr (some a0)), some (.inr (some b_5)), some (.inl x2), some (.inl x3), some (.inr (some b_1)), some (.inl x5)], [.inr (some b_1), .inl (x5 + 4), .inr (some b_5)], sm_putI M b_5 (x5 + 3).toNatClampNeg 3)) sm_a75_120 rfl rfl rfl ?_
    refine ru_go (t := (125, [some (.inr (some a0)), some (.inr (some b_5)), some (.inl x2), some (.inl x3), some (.inr (some b_1)), some (.inl x5)], [.inl (sm_I (sm_putI M b_5 (x5 + 3).toNatClampNeg 3) b_1 1), .inl (x5 + 4), .inr (some b_5)], sm_putI M b_5 (x5 + 3).toNatClampNeg 3)) sm_a75_122 rfl rfl (st_getI h_3 rfl) ?_
    obtain ⟨h_9, h⟩ := h
    refine ru_go (t := (126, [some (.inr (some a0)), some (.inr (some b_5)), some (.inl x2), some (.inl x3), some (.inr (some b_1)), some (.inl x5)], [], sm_putI (sm_putI M b_5 (x5 + 3).toNatClampNeg 3) b_5 (x5 + 4).toNatClampNeg (sm_I (sm_putI M b_5 (x5 + 3).toNatClampNeg 3) b_1 1))) sm_a75_125 rfl rfl (st_iast h_7 h_9) ?_
    refine ru_go (t := (127, [some (.inr (some a0)), some (.inr (some b_5)), some (.inl x2), some (.inl x3), some (.inr (some b_1)), some (.inl x5)], [.inr (some b_5)], sm_putI (sm_putI M b_5 (x5 + 3).toNatClampNeg 3) b_5 (x5 + 4).toNatClampNeg (sm_I (sm_putI M b_5 (x5 + 3).toNatClampNeg 3) b_1 1))) sm_a75_126 rfl rfl rfl ?_
    refine ru_go (t := (129, [some (.inr (some a0)), some (.inr (some b_5)), some (.inl x2), some (.inl x3), some (.inr (some b_1)), some (.inl x5)], [.inl x5, .inr (some b_5)], sm_putI (sm_putI M b_5 (x5 + 3).toNatClampNeg 3) b_5 (x5 + 4).toNatClampNeg (sm_I (sm_putI M b_5 (x5 + 3).toNatClampNeg 3) b_1 1))) sm_a75_127 rfl rfl rfl ?_
    refine ru_go (t := (131, [some (.inr (some a0)), some (.inr (some b_5)), some (.inl x2), some (.inl x3), some (.inr (some b_1)), some (.inl x5)], [.inl 6, .inl x5, .inr (some b_5)], sm_putI (sm_putI M b_5 (x5 + 3).toNatClampNeg 3) b_5 (x5 + 4).toNatClampNeg (sm_I (sm_putI M b_5 (x5 + 3).toNatClampNeg 3) b_1 1))) sm_a75_129 rfl rfl (st_bipush (by decide)) ?_
    refine ru_go (t := (132, [some (.inr (some a0)), some (.inr (some b_5)), some (.inl x2), some (.inl x3), some (.inr (some b_1)), some (.inl x5)], [.inl (x5 + 6), .inr (some b_5)], sm_putI (sm_putI M b_5 (x5 + 3).toNatClampNeg 3) b_5 (x5 + 4).toNatClampNeg (sm_I (sm_putI M b_5 (x5 + 3).toNatClampNeg 3) b_1 1))) sm_a75_131 rfl rfl rfl ?_
    refine ru_go (t := (134, [some (.inr (some a0)), some (.inr (some b_5)), some (.inl x2), some (.inl x3), some (.inr (some b_1)), some (.inl x5)], [.inr (some b_1), .inl (x5 + 6), .inr (some b_5)], sm_putI (sm_putI M b_5 (x5 + 3).toNatClampNeg 3) b_5 (x5 + 4).toNatClampNeg (sm_I (sm_putI M b_5 (x5 + 3).toNatClampNeg 3) b_1 1))) sm_a75_132 rfl rfl rfl ?_
    refine ru_go (t := (137, [some (.inr (some a0)), some (.inr (some b_5)), some (.inl x2), some (.inl x3), some (.inr (some b_1)), some (.inl x5)], [.inl (sm_I (sm_putI (sm_putI M b_5 (x5 + 3).toNatClampNeg 3) b_5 (x5 + 4).toNatClampNeg (sm_I (sm_putI M b_5 (x5 + 3).toNatClampNeg 3) b_1 1)) b_1 2), .inl (x5 + 6), .inr (some b_5)], sm_putI (sm_putI M b_5 (x5 + 3).toNatClampNeg 3) b_5 (x5 + 4).toNatClampNeg (sm_I (sm_putI M b_5 (x5 + 3).toNatClampNeg 3) b_1 1))) sm_a75_134 rfl rfl (st_getI h_3 rfl) ?_
    obtain ⟨h_10, h⟩ := h
    refine ru_go (t := (138, [some (.inr (some a0)), some (.inr (some b_5)), some (.inl x2), some (.inl x3), some (.inr (some b_1)), some (.inl x5)], [], sm_putI (sm_putI (sm_putI M b_5 (x5 + 3).toNatClampNeg 3) b_5 (x5 + 4).toNatClampNeg (sm_I (sm_putI M b_5 (x5 + 3).toNatClampNeg 3) b_1 1)) b_5 (x5 + 6).toNatClampNeg (sm_I (sm_putI (sm_putI M b_5 (x5 + 3).toNatClampNeg 3) b_5 (x5 + 4).toNatClampNeg (sm_I (sm_putI M b_5 (x5 + 3).toNatClampNeg 3) b_1 1)) b_1 2))) sm_a75_137 rfl rfl (st_iast h_7 h_10) ?_
    refine ru_go (t := (141, [some (.inr (some a0)), some (.inr (some b_5)), some (.inl x2), some (.inl (x3 + 1)), some (.inr (some b_1)), some (.inl x5)], [], sm_putI (sm_putI (sm_putI M b_5 (x5 + 3).toNatClampNeg 3) b_5 (x5 + 4).toNatClampNeg (sm_I (sm_putI M b_5 (x5 + 3).toNatClampNeg 3) b_1 1)) b_5 (x5 + 6).toNatClampNeg (sm_I (sm_putI (sm_putI M b_5 (x5 + 3).toNatClampNeg 3) b_5 (x5 + 4).toNatClampNeg (sm_I (sm_putI M b_5 (x5 + 3).toNatClampNeg 3) b_1 1)) b_1 2))) sm_a75_138 rfl rfl (st_iinc rfl (by decide)) ?_
    refine ru_go (t := (42, [some (.inr (some a0)), some (.inr (some b_5)), some (.inl x2), some (.inl (x3 + 1)), some (.inr (some b_1)), some (.inl x5)], [], sm_putI (sm_putI (sm_putI M b_5 (x5 + 3).toNatClampNeg 3) b_5 (x5 + 4).toNatClampNeg (sm_I (sm_putI M b_5 (x5 + 3).toNatClampNeg 3) b_1 1)) b_5 (x5 + 6).toNatClampNeg (sm_I (sm_putI (sm_putI M b_5 (x5 + 3).toNatClampNeg 3) b_5 (x5 + 4).toNatClampNeg (sm_I (sm_putI M b_5 (x5 + 3).toNatClampNeg 3) b_1 1)) b_1 2))) sm_a75_141 rfl rfl (st_goto (pc := 141) (by decide)) ?_
    exact h
  · have h := h.2 hc_4
    refine ru_go (t := (110, [some (.inr (some a0)), some (.inr r1), some (.inl x2), some (.inl x3), some (.inr (some b_1)), some (.inl x5)], [.inl 2, .inl (x5 + 3), .inr r1], M)) sm_a75_109 rfl rfl (st_iconst (by decide)) ?_
    refine ru_go (t := (114, [some (.inr (some a0)), some (.inr r1), some (.inl x2), some (.inl x3), some (.inr (some b_1)), some (.inl x5)], [.inl 2, .inl (x5 + 3), .inr r1], M)) sm_a75_110 rfl rfl (st_goto (pc := 110) (by decide)) ?_
    obtain ⟨b_11, hb_12, h⟩ := h
    rw [hb_12]
    obtain ⟨h_13, h⟩ := h
    obtain ⟨h_14, h⟩ := h
    refine ru_go (t := (115, [some (.inr (some a0)), some (.inr (some b_11)), some (.inl x2), some (.inl x3), some (.inr (some b_1)), some (.inl x5)], [], sm_putI M b_11 (x5 + 3).toNatClampNeg 2)) sm_a75_114 rfl rfl (st_iast h_13 h_14) ?_
    refine ru_go (t := (116, [some (.inr (some a0)), some (.inr (some b_11)), some (.inl x2), some (.inl x3), some (.inr (some b_1)), some (.inl x5)], [.inr (some b_11)], sm_putI M b_11 (x5 + 3).toNatClampNeg 2)) sm_a75_115 rfl rfl rfl ?_
    refine ru_go (t := (118, [some (.inr (some a0)), some (.inr (some b_11)), some (.inl x2), some (.inl x3), some (.inr (some b_1)), some (.inl x5)], [.inl x5, .inr (some b_11)], sm_putI M b_11 (x5 + 3).toNatClampNeg 2)) sm_a75_116 rfl rfl rfl ?_
    refine ru_go (t := (119, [some (.inr (some a0)), some (.inr (some b_11)), some (.inl x2), some (.inl x3), some (.inr (some b_1)), some (.inl x5)], [.inl 4, .inl x5, .inr (some b_11)], sm_putI M b_11 (x5 + 3).toNatClampNeg 2)) sm_a75_118 rfl rfl (st_iconst (by decide)) ?_
    refine ru_go (t := (120, [some (.inr (some a0)), some (.inr (some b_11)), some (.inl x2), some (.inl x3), some (.inr (some b_1)), some (.inl x5)], [.inl (x5 + 4), .inr (some b_11)], sm_putI M b_11 (x5 + 3).toNatClampNeg 2)) sm_a75_119 rfl rfl rfl ?_
    refine ru_go (t := (122, [some (.inr (some a0)), some (.inr (some b_11)), some (.inl x2), some (.inl x3), some (.inr (some b_1)), some (.inl x5)], [.inr (some b_1), .inl (x5 + 4), .inr (some b_11)], sm_putI M b_11 (x5 + 3).toNatClampNeg 2)) sm_a75_120 rfl rfl rfl ?_
    refine ru_go (t := (125, [some (.inr (some a0)), some (.inr (some b_11)), some (.inl x2), some (.inl x3), some (.inr (some b_1)), some (.inl x5)], [.inl (sm_I (sm_putI M b_11 (x5 + 3).toNatClampNeg 2) b_1 1), .inl (x5 + 4), .inr (some b_11)], sm_putI M b_11 (x5 + 3).toNatClampNeg 2)) sm_a75_122 rfl rfl (st_getI h_3 rfl) ?_
    obtain ⟨h_15, h⟩ := h
    refine ru_go (t := (126, [some (.inr (some a0)), some (.inr (some b_11)), some (.inl x2), some (.inl x3), some (.inr (some b_1)), some (.inl x5)], [], sm_putI (sm_putI M b_11 (x5 + 3).toNatClampNeg 2) b_11 (x5 + 4).toNatClampNeg (sm_I (sm_putI M b_11 (x5 + 3).toNatClampNeg 2) b_1 1))) sm_a75_125 rfl rfl (st_iast h_13 h_15) ?_
    refine ru_go (t := (127, [some (.inr (some a0)), some (.inr (some b_11)), some (.inl x2), some (.inl x3), some (.inr (some b_1)), some (.inl x5)], [.inr (some b_11)], sm_putI (sm_putI M b_11 (x5 + 3).toNatClampNeg 2) b_11 (x5 + 4).toNatClampNeg (sm_I (sm_putI M b_11 (x5 + 3).toNatClampNeg 2) b_1 1))) sm_a75_126 rfl rfl rfl ?_
    refine ru_go (t := (129, [some (.inr (some a0)), some (.inr (some b_11)), some (.inl x2), some (.inl x3), some (.inr (some b_1)), some (.inl x5)], [.inl x5, .inr (some b_11)], sm_putI (sm_putI M b_11 (x5 + 3).toNatClampNeg 2) b_11 (x5 + 4).toNatClampNeg (sm_I (sm_putI M b_11 (x5 + 3).toNatClampNeg 2) b_1 1))) sm_a75_127 rfl rfl rfl ?_
    refine ru_go (t := (131, [some (.inr (some a0)), some (.inr (some b_11)), some (.inl x2), some (.inl x3), some (.inr (some b_1)), some (.inl x5)], [.inl 6, .inl x5, .inr (some b_11)], sm_putI (sm_putI M b_11 (x5 + 3).toNatClampNeg 2) b_11 (x5 + 4).toNatClampNeg (sm_I (sm_putI M b_11 (x5 + 3).toNatClampNeg 2) b_1 1))) sm_a75_129 rfl rfl (st_bipush (by decide)) ?_
    refine ru_go (t := (132, [some (.inr (some a0)), some (.inr (some b_11)), some (.inl x2), some (.inl x3), some (.inr (some b_1)), some (.inl x5)], [.inl (x5 + 6), .inr (some b_11)], sm_putI (sm_putI M b_11 (x5 + 3).toNatClampNeg 2) b_11 (x5 + 4).toNatClampNeg (sm_I (sm_putI M b_11 (x5 + 3).toNatClampNeg 2) b_1 1))) sm_a75_131 rfl rfl rfl ?_
    refine ru_go (t := (134, [some (.inr (some a0)), some (.inr (some b_11)), some (.inl x2), some (.inl x3), some (.inr (some b_1)), some (.inl x5)], [.inr (some b_1), .inl (x5 + 6), .inr (some b_11)], sm_putI (sm_putI M b_11 (x5 + 3).toNatClampNeg 2) b_11 (x5 + 4).toNatClampNeg (sm_I (sm_putI M b_11 (x5 + 3).toNatClampNeg 2) b_1 1))) sm_a75_132 rfl rfl rfl ?_
    refine ru_go (t := (137, [some (.inr (some a0)), some (.inr (some b_11)), some (.inl x2), some (.inl x3), some (.inr (some b_1)), some (.inl x5)], [.inl (sm_I (sm_putI (sm_putI M b_11 (x5 + 3).toNatClampNeg 2) b_11 (x5 + 4).toNatClampNeg (sm_I (sm_putI M b_11 (x5 + 3).toNatClampNeg 2) b_1 1)) b_1 2), .inl (x5 + 6), .inr (some b_11)], sm_putI (sm_putI M b_11 (x5 + 3).toNatClampNeg 2) b_11 (x5 + 4).toNatClampNeg (sm_I (sm_putI M b_11 (x5 + 3).toNatClampNeg 2) b_1 1))) sm_a75_134 rfl rfl (st_getI h_3 rfl) ?_
    obtain ⟨h_16, h⟩ := h
    refine ru_go (t := (138, [some (.inr (some a0)), some (.inr (some b_11)), some (.inl x2), some (.inl x3), some (.inr (some b_1)), some (.inl x5)], [], sm_putI (sm_putI (sm_putI M b_11 (x5 + 3).toNatClampNeg 2) b_11 (x5 + 4).toNatClampNeg (sm_I (sm_putI M b_11 (x5 + 3).toNatClampNeg 2) b_1 1)) b_11 (x5 + 6).toNatClampNeg (sm_I (sm_putI (sm_putI M b_11 (x5 + 3).toNatClampNeg 2) b_11 (x5 + 4).toNatClampNeg (sm_I (sm_putI M b_11 (x5 + 3).toNatClampNeg 2) b_1 1)) b_1 2))) sm_a75_137 rfl rfl (st_iast h_13 h_16) ?_
    refine ru_go (t := (141, [some (.inr (some a0)), some (.inr (some b_11)), some (.inl x2), some (.inl (x3 + 1)), some (.inr (some b_1)), some (.inl x5)], [], sm_putI (sm_putI (sm_putI M b_11 (x5 + 3).toNatClampNeg 2) b_11 (x5 + 4).toNatClampNeg (sm_I (sm_putI M b_11 (x5 + 3).toNatClampNeg 2) b_1 1)) b_11 (x5 + 6).toNatClampNeg (sm_I (sm_putI (sm_putI M b_11 (x5 + 3).toNatClampNeg 2) b_11 (x5 + 4).toNatClampNeg (sm_I (sm_putI M b_11 (x5 + 3).toNatClampNeg 2) b_1 1)) b_1 2))) sm_a75_138 rfl rfl (st_iinc rfl (by decide)) ?_
    refine ru_go (t := (42, [some (.inr (some a0)), some (.inr (some b_11)), some (.inl x2), some (.inl (x3 + 1)), some (.inr (some b_1)), some (.inl x5)], [], sm_putI (sm_putI (sm_putI M b_11 (x5 + 3).toNatClampNeg 2) b_11 (x5 + 4).toNatClampNeg (sm_I (sm_putI M b_11 (x5 + 3).toNatClampNeg 2) b_1 1)) b_11 (x5 + 6).toNatClampNeg (sm_I (sm_putI (sm_putI M b_11 (x5 + 3).toNatClampNeg 2) b_11 (x5 + 4).toNatClampNeg (sm_I (sm_putI M b_11 (x5 + 3).toNatClampNeg 2) b_1 1)) b_1 2))) sm_a75_141 rfl rfl (st_goto (pc := 141) (by decide)) ?_
    exact h

/-! WireBus$Device.obey:(III)Z -/
theorem sm_a76_0 : sm_at 76 0 = some (.iload_n 1, 1, (0, 0, 0, 0)) := by decide +kernel
theorem sm_a76_1 : sm_at 76 1 = some (.bipush 9, 2, (0, 0, 0, 0)) := by decide +kernel
theorem sm_a76_3 : sm_at 76 3 = some (.if_icmp .ne 62, 3, (0, 0, 0, 0)) := by decide +kernel
theorem sm_a76_6 : sm_at 76 6 = some (.aload_n 0, 1, (0, 0, 0, 0)) := by decide +kernel
theorem sm_a76_7 : sm_at 76 7 = some (.getfield 15, 3, (4, 3, 0, 259)) := by decide +kernel
theorem sm_a76_10 : sm_at 76 10 = some (.iconst 1, 1, (0, 0, 0, 0)) := by decide +kernel
theorem sm_a76_11 : sm_at 76 11 = some (.if_icmp .eq 8, 3, (0, 0, 0, 0)) := by decide +kernel
theorem sm_a76_14 : sm_at 76 14 = some (.iload_n 2, 1, (0, 0, 0, 0)) := by decide +kernel
theorem sm_a76_15 : sm_at 76 15 = some (.iconst 1, 1, (0, 0, 0, 0)) := by decide +kernel
theorem sm_a76_16 : sm_at 76 16 = some (.if_icmp .le 5, 3, (0, 0, 0, 0)) := by decide +kernel
theorem sm_a76_19 : sm_at 76 19 = some (.iconst 0, 1, (0, 0, 0, 0)) := by decide +kernel
theorem sm_a76_20 : sm_at 76 20 = some (.ireturn, 1, (0, 0, 0, 0)) := by decide +kernel
theorem sm_a76_21 : sm_at 76 21 = some (.aload_n 0, 1, (0, 0, 0, 0)) := by decide +kernel
theorem sm_a76_22 : sm_at 76 22 = some (.iload_n 2, 1, (0, 0, 0, 0)) := by decide +kernel
theorem sm_a76_23 : sm_at 76 23 = some (.iconst 1, 1, (0, 0, 0, 0)) := by decide +kernel
theorem sm_a76_24 : sm_at 76 24 = some (.if_icmp .ne 7, 3, (0, 0, 0, 0)) := by decide +kernel
theorem sm_a76_27 : sm_at 76 27 = some (.iconst 3, 1, (0, 0, 0, 0)) := by decide +kernel
theorem sm_a76_28 : sm_at 76 28 = some (.goto 4, 3, (0, 0, 0, 0)) := by decide +kernel
theorem sm_a76_31 : sm_at 76 31 = some (.iconst 2, 1, (0, 0, 0, 0)) := by decide +kernel
theorem sm_a76_32 : sm_at 76 32 = some (.putfield 15, 3, (4, 3, 0, 259)) := by decide +kernel
theorem sm_a76_35 : sm_at 76 35 = some (.iconst 0, 1, (0, 0, 0, 0)) := by decide +kernel
theorem sm_a76_36 : sm_at 76 36 = some (.istore 4, 2, (0, 0, 0, 0)) := by decide +kernel
theorem sm_a76_38 : sm_at 76 38 = some (.iload 4, 2, (0, 0, 0, 0)) := by decide +kernel
theorem sm_a76_40 : sm_at 76 40 = some (.aload_n 0, 1, (0, 0, 0, 0)) := by decide +kernel
theorem sm_a76_41 : sm_at 76 41 = some (.getfield 51, 3, (4, 6, 0, 267)) := by decide +kernel
theorem sm_a76_44 : sm_at 76 44 = some (.if_icmp .ge 19, 3, (0, 0, 0, 0)) := by decide +kernel
theorem sm_a76_47 : sm_at 76 47 = some (.aload_n 0, 1, (0, 0, 0, 0)) := by decide +kernel
theorem sm_a76_48 : sm_at 76 48 = some (.getfield 20, 3, (4, 5, 0, 266)) := by decide +kernel
theorem sm_a76_51 : sm_at 76 51 = some (.iload 4, 2, (0, 0, 0, 0)) := by decide +kernel
theorem sm_a76_53 : sm_at 76 53 = some (.aaload, 1, (0, 0, 0, 0)) := by decide +kernel
theorem sm_a76_54 : sm_at 76 54 = some (.invokevirtual 74, 3, (10, 80, 5, 596)) := by decide +kernel
theorem sm_a76_57 : sm_at 76 57 = some (.iinc 4 1, 3, (0, 0, 0, 0)) := by decide +kernel
theorem sm_a76_60 : sm_at 76 60 = some (.goto (-22), 3, (0, 0, 0, 0)) := by decide +kernel
theorem sm_a76_63 : sm_at 76 63 = some (.iconst 1, 1, (0, 0, 0, 0)) := by decide +kernel
theorem sm_a76_64 : sm_at 76 64 = some (.ireturn, 1, (0, 0, 0, 0)) := by decide +kernel
theorem sm_a76_65 : sm_at 76 65 = some (.aload_n 0, 1, (0, 0, 0, 0)) := by decide +kernel
theorem sm_a76_66 : sm_at 76 66 = some (.iload_n 3, 1, (0, 0, 0, 0)) := by decide +kernel
theorem sm_a76_67 : sm_at 76 67 = some (.invokevirtual 54, 3, (10, 62, 4, 527)) := by decide +kernel
theorem sm_a76_70 : sm_at 76 70 = some (.astore 4, 2, (0, 0, 0, 0)) := by decide +kernel
theorem sm_a76_72 : sm_at 76 72 = some (.aload 4, 2, (0, 0, 0, 0)) := by decide +kernel
theorem sm_a76_74 : sm_at 76 74 = some (.ifnull 15, 3, (0, 0, 0, 0)) := by decide +kernel
theorem sm_a76_77 : sm_at 76 77 = some (.iload_n 2, 1, (0, 0, 0, 0)) := by decide +kernel
theorem sm_a76_78 : sm_at 76 78 = some (.ifCond .ne 11, 3, (0, 0, 0, 0)) := by decide +kernel
theorem sm_a76_81 : sm_at 76 81 = some (.aload_n 0, 1, (0, 0, 0, 0)) := by decide +kernel
theorem sm_a76_82 : sm_at 76 82 = some (.getfield 15, 3, (4, 3, 0, 259)) := by decide +kernel
theorem sm_a76_85 : sm_at 76 85 = some (.iconst 3, 1, (0, 0, 0, 0)) := by decide +kernel
theorem sm_a76_86 : sm_at 76 86 = some (.if_icmp .eq 5, 3, (0, 0, 0, 0)) := by decide +kernel
theorem sm_a76_89 : sm_at 76 89 = some (.iconst 0, 1, (0, 0, 0, 0)) := by decide +kernel
theorem sm_a76_90 : sm_at 76 90 = some (.ireturn, 1, (0, 0, 0, 0)) := by decide +kernel
theorem sm_a76_91 : sm_at 76 91 = some (.iload_n 1, 1, (0, 0, 0, 0)) := by decide +kernel
theorem sm_a76_92 : sm_at 76 92 = some (.sipush 513, 3, (0, 0, 0, 0)) := by decide +kernel
theorem sm_a76_95 : sm_at 76 95 = some (.if_icmp .ne 10, 3, (0, 0, 0, 0)) := by decide +kernel
theorem sm_a76_98 : sm_at 76 98 = some (.aload 4, 2, (0, 0, 0, 0)) := by decide +kernel
theorem sm_a76_100 : sm_at 76 100 = some (.invokevirtual 74, 3, (10, 80, 5, 596)) := by decide +kernel
theorem sm_a76_103 : sm_at 76 103 = some (.iconst 1, 1, (0, 0, 0, 0)) := by decide +kernel
theorem sm_a76_104 : sm_at 76 104 = some (.ireturn, 1, (0, 0, 0, 0)) := by decide +kernel
theorem sm_a76_105 : sm_at 76 105 = some (.iload_n 1, 1, (0, 0, 0, 0)) := by decide +kernel
theorem sm_a76_106 : sm_at 76 106 = some (.sipush 515, 3, (0, 0, 0, 0)) := by decide +kernel
theorem sm_a76_109 : sm_at 76 109 = some (.if_icmp .ne 11, 3, (0, 0, 0, 0)) := by decide +kernel
theorem sm_a76_112 : sm_at 76 112 = some (.aload 4, 2, (0, 0, 0, 0)) := by decide +kernel
theorem sm_a76_114 : sm_at 76 114 = some (.iconst 1, 1, (0, 0, 0, 0)) := by decide +kernel
theorem sm_a76_115 : sm_at 76 115 = some (.putfield 151, 3, (5, 4, 1, 547)) := by decide +kernel
theorem sm_a76_118 : sm_at 76 118 = some (.iconst 1, 1, (0, 0, 0, 0)) := by decide +kernel
theorem sm_a76_119 : sm_at 76 119 = some (.ireturn, 1, (0, 0, 0, 0)) := by decide +kernel
theorem sm_a76_120 : sm_at 76 120 = some (.iconst 0, 1, (0, 0, 0, 0)) := by decide +kernel
theorem sm_a76_121 : sm_at 76 121 = some (.ireturn, 1, (0, 0, 0, 0)) := by decide +kernel
theorem bb_76_0 {d : Nat} {M : sm_M} {Q : Option sm_V → sm_M → Prop} {a0 : Nat} {x1 : Int32} {x2 : Int32} {x3 : Int32} {z4 : Option sm_V}
    (h : ((¬ x1 = 9 → sm_K M a0 = 15 ∧ sm_Run d 62 0 (sm_ent 62 [.inr (some a0), .inl x3]) [] M (fun v M1 => sm_Run (d + 1) 76 70 [some (.inr (some a0)), some (.inl x1), some (.inl x2), some (.inl x3), z4] (v.toList ++ []) M1 Q)) ∧ (¬ (¬ x1 = 9) → sm_K M a0 = 15 ∧ (((sm_I M a0 3) = 1 → Q (some (.inl 0)) M) ∧ (¬ ((sm_I M a0 3) = 1) → ((x2 ≤ 1 → ((¬ x2 = 1 → sm_Run (d + 1) 76 38 [some (.inr (some a0)), some (.inl x1), some (.inl x2), some (.inl x3), some (.inl 0)] [] (sm_putI M a0 3 2) Q) ∧ (¬ (¬ x2 = 1) → sm_Run (d + 1) 76 38 [some (.inr (some a0)), some (.inl x1), some (.inl x2), some (.inl x3), some (.inl 0)] [] (sm_putI M a0 3 3) Q))) ∧ (¬ (x2 ≤ 1) → Q (some (.inl 0)) M))))))) :
    sm_Run (d + 1) 76 0 [some (.inr (some a0)), some (.inl x1), some (.inl x2), some (.inl x3), z4] [] M Q := by
  refine ru_go (t := (1, [some (.inr (some a0)), some (.inl x1), some (.inl x2), some (.inl x3), z4], [.inl x1], M)) sm_a76_0 rfl rfl rfl ?_
  refine ru_go (t := (3, [some (.inr (some a0)), some (.inl x1), some (.inl x2), some (.inl x3), z4], [.inl 9, .inl x1], M)) sm_a76_1 rfl rfl (st_bipush (by decide)) ?_
  refine ru_icmp (pc := 3) (p := 65) (p2 := 6) sm_a76_3 (by decide) rfl ⟨fun hc_1 => ?_, fun hc_1 => ?_⟩
  · have h := h.1 hc_1
    refine ru_go (t := (66, [some (.inr (some a0)), some (.inl x1), some (.inl x2), some (.inl x3), z4], [.inr (some a0)], M)) sm_a76_65 rfl rfl rfl ?_
    refine ru_go (t := (67, [some (.inr (some a0)), some (.inl x1), some (.inl x2), some (.inl x3), z4], [.inl x3, .inr (some a0)], M)) sm_a76_66 rfl rfl rfl ?_
    obtain ⟨h_2, h⟩ := h
    exact ru_call (p := 70) sm_a76_67 rfl (sc_virt (Or.inl rfl) rfl rfl h_2 (Nat.le_of_ble_eq_true rfl)) rfl h
  · have h := h.2 hc_1
    refine ru_go (t := (7, [some (.inr (some a0)), some (.inl x1), some (.inl x2), some (.inl x3), z4], [.inr (some a0)], M)) sm_a76_6 rfl rfl rfl ?_
    obtain ⟨h_3, h⟩ := h
    refine ru_go (t := (10, [some (.inr (some a0)), some (.inl x1), some (.inl x2), some (.inl x3), z4], [.inl (sm_I M a0 3)], M)) sm_a76_7 rfl rfl (st_getI h_3 rfl) ?_
    refine ru_go (t := (11, [some (.inr (some a0)), some (.inl x1), some (.inl x2), some (.inl x3), z4], [.inl 1, .inl (sm_I M a0 3)], M)) sm_a76_10 rfl rfl (st_iconst (by decide)) ?_
    refine ru_icmp (pc := 11) (p := 19) (p2 := 14) sm_a76_11 (by decide) rfl ⟨fun hc_4 => ?_, fun hc_4 => ?_⟩
    · have h := h.1 hc_4
      refine ru_go (t := (20, [some (.inr (some a0)), some (.inl x1), some (.inl x2), some (.inl x3), z4], [.inl 0], M)) sm_a76_19 rfl rfl (st_iconst (by decide)) ?_
      exact ru_ret sm_a76_20 (sm_rvz rfl (by decide)) h
    · have h := h.2 hc_4
      refine ru_go (t := (15, [some (.inr (some a0)), some (.inl x1), some (.inl x2), some (.inl x3), z4], [.inl x2], M)) sm_a76_14 rfl rfl rfl ?_
      refine ru_go (t := (16, [some (.inr (some a0)), some (.inl x1), some (.inl x2), some (.inl x3), z4], [.inl 1, .inl x2], M)) sm_a76_15 rfl rfl (st_iconst (by decide)) ?_
      refine ru_icmp (pc := 16) (p := 21) (p2 := 19) sm_a76_16 (by decide) rfl ⟨fun hc_5 => ?_, fun hc_5 => ?_⟩
      · have h := h.1 hc_5
        refine ru_go (t := (22, [some (.inr (some a0)), some (.inl x1), some (.inl x2), some (.inl x3), z4], [.inr (some a0)], M)) sm_a76_21 rfl rfl rfl ?_
        refine ru_go (t := (23, [some (.inr (some a0)), some (.inl x1), some (.inl x2), some (.inl x3), z4], [.inl x2, .inr (some a0)], M)) sm_a76_22 rfl rfl rfl ?_
        refine ru_go (t := (24, [some (.inr (some a0)), some (.inl x1), some (.inl x2), some (.inl x3), z4], [.inl 1, .inl x2, .inr (some a0)], M)) sm_a76_23 rfl rfl (st_iconst (by decide)) ?_
        refine ru_icmp (pc := 24) (p := 31) (p2 := 27) sm_a76_24 (by decide) rfl ⟨fun hc_6 => ?_, fun hc_6 => ?_⟩
        · have h := h.1 hc_6
          refine ru_go (t := (32, [some (.inr (some a0)), some (.inl x1), some (.inl x2), some (.inl x3), z4], [.inl 2, .inr (some a0)], M)) sm_a76_31 rfl rfl (st_iconst (by decide)) ?_
          refine ru_go (t := (35, [some (.inr (some a0)), some (.inl x1), some (.inl x2), some (.inl x3), z4], [], sm_putI M a0 3 2)) sm_a76_32 rfl rfl (st_putI h_3 rfl) ?_
          refine ru_go (t := (36, [some (.inr (some a0)), some (.inl x1), some (.inl x2), some (.inl x3), z4], [.inl 0], sm_putI M a0 3 2)) sm_a76_35 rfl rfl (st_iconst (by decide)) ?_
          refine ru_go (t := (38, [some (.inr (some a0)), some (.inl x1), some (.inl x2), some (.inl x3), some (.inl 0)], [], sm_putI M a0 3 2)) sm_a76_36 rfl rfl rfl ?_
          exact h
        · have h := h.2 hc_6
          refine ru_go (t := (28, [some (.inr (some a0)), some (.inl x1), some (.inl x2), some (.inl x3), z4], [.inl 3, .inr (some a0)], M)) sm_a76_27 rfl rfl (st_iconst (by decide)) ?_
          refine ru_go (t := (32, [some (.inr (some a0)), some (.inl x1), some (.inl x2), some (.inl x3), z4], [.inl 3, .inr (some a0)], M)) sm_a76_28 rfl rfl (st_goto (pc := 28) (by decide)) ?_
          refine ru_go (t := (35, [some (.inr (some a0)), some (.inl x1), some (.inl x2), some (.inl x3), z4], [], sm_putI M a0 3 3)) sm_a76_32 rfl rfl (st_putI h_3 rfl) ?_
          refine ru_go (t := (36, [some (.inr (some a0)), some (.inl x1), some (.inl x2), some (.inl x3), z4], [.inl 0], sm_putI M a0 3 3)) sm_a76_35 rfl rfl (st_iconst (by decide)) ?_
          refine ru_go (t := (38, [some (.inr (some a0)), some (.inl x1), some (.inl x2), some (.inl x3), some (.inl 0)], [], sm_putI M a0 3 3)) sm_a76_36 rfl rfl rfl ?_
          exact h
      · have h := h.2 hc_5
        refine ru_go (t := (20, [some (.inr (some a0)), some (.inl x1), some (.inl x2), some (.inl x3), z4], [.inl 0], M)) sm_a76_19 rfl rfl (st_iconst (by decide)) ?_
        exact ru_ret sm_a76_20 (sm_rvz rfl (by decide)) h
theorem bb_76_38 {d : Nat} {M : sm_M} {Q : Option sm_V → sm_M → Prop} {a0 : Nat} {x1 : Int32} {x2 : Int32} {x3 : Int32} {x4 : Int32}
    (h : sm_K M a0 = 15 ∧ (((sm_I M a0 6) ≤ x4 → Q (some (.inl 1)) M) ∧ (¬ ((sm_I M a0 6) ≤ x4) → ∃ b_3, sm_R M a0 5 = some b_3 ∧ (∃ ci, sm_K M b_3 = 4 + 3 * ci) ∧ sm_in_ M b_3 x4 ∧ ∃ b_7, sm_R M b_3 (x4).toNatClampNeg = some b_7 ∧ sm_K M b_7 = 18 ∧ sm_Run d 80 0 (sm_ent 80 [.inr (some b_7)]) [] M (fun v M1 => sm_Run (d + 1) 76 57 [some (.inr (some a0)), some (.inl x1), some (.inl x2), some (.inl x3), some (.inl x4)] (v.toList ++ []) M1 Q)))) :
    sm_Run (d + 1) 76 38 [some (.inr (some a0)), some (.inl x1), some (.inl x2), some (.inl x3), some (.inl x4)] [] M Q := by
  refine ru_go (t := (40, [some (.inr (some a0)), some (.inl x1), some (.inl x2), some (.inl x3), some (.inl x4)], [.inl x4], M)) sm_a76_38 rfl rfl rfl ?_
  refine ru_go (t := (41, [some (.inr (some a0)), some (.inl x1), some (.inl x2), some (.inl x3), some (.inl x4)], [.inr (some a0), .inl x4], M)) sm_a76_40 rfl rfl rfl ?_
  obtain ⟨h_1, h⟩ := h
  refine ru_go (t := (44, [some (.inr (some a0)), some (.inl x1), some (.inl x2), some (.inl x3), some (.inl x4)], [.inl (sm_I M a0 6), .inl x4], M)) sm_a76_41 rfl rfl (st_getI h_1 rfl) ?_
  refine ru_icmp (pc := 44) (p := 63) (p2 := 47) sm_a76_44 (by decide) rfl ⟨fun hc_2 => ?_, fun hc_2 => ?_⟩
  · have h := h.1 hc_2
    refine ru_go (t := (64, [some (.inr (some a0)), some (.inl x1), some (.inl x2), some (.inl x3), some (.inl x4)], [.inl 1], M)) sm_a76_63 rfl rfl (st_iconst (by decide)) ?_
    exact ru_ret sm_a76_64 (sm_rvz rfl (by decide)) h
  · have h := h.2 hc_2
    refine ru_go (t := (48, [some (.inr (some a0)), some (.inl x1), some (.inl x2), some (.inl x3), some (.inl x4)], [.inr (some a0)], M)) sm_a76_47 rfl rfl rfl ?_
    refine ru_go (t := (51, [some (.inr (some a0)), some (.inl x1), some (.inl x2), some (.inl x3), some (.inl x4)], [.inr (sm_R M a0 5)], M)) sm_a76_48 rfl rfl (st_getR h_1 rfl rfl) ?_
    refine ru_go (t := (53, [some (.inr (some a0)), some (.inl x1), some (.inl x2), some (.inl x3), some (.inl x4)], [.inl x4, .inr (sm_R M a0 5)], M)) sm_a76_51 rfl rfl rfl ?_
    obtain ⟨b_3, hb_4, h⟩ := h
    rw [hb_4]
    obtain ⟨h_5, h⟩ := h
    obtain ⟨h_6, h⟩ := h
    refine ru_go (t := (54, [some (.inr (some a0)), some (.inl x1), some (.inl x2), some (.inl x3), some (.inl x4)], [.inr (sm_R M b_3 (x4).toNatClampNeg)], M)) sm_a76_53 rfl rfl (st_aald h_5.choose_spec h_6 rfl) ?_
    obtain ⟨b_7, hb_8, h⟩ := h
    rw [hb_8]
    obtain ⟨h_9, h⟩ := h
    exact ru_call (p := 57) sm_a76_54 rfl (sc_virt (Or.inl rfl) rfl rfl h_9 (Nat.le_of_ble_eq_true rfl)) rfl h
theorem bb_76_57 {d : Nat} {M : sm_M} {Q : Option sm_V → sm_M → Prop} {a0 : Nat} {x1 : Int32} {x2 : Int32} {x3 : Int32} {x4 : Int32}
    (h : sm_Run (d + 1) 76 38 [some (.inr (some a0)), some (.inl x1), some (.inl x2), some (.inl x3), some (.inl (x4 + 1))] [] M Q) :
    sm_Run (d + 1) 76 57 [some (.inr (some a0)), some (.inl x1), some (.inl x2), some (.inl x3), some (.inl x4)] [] M Q := by
  refine ru_go (t := (60, [some (.inr (some a0)), some (.inl x1), some (.inl x2), some (.inl x3), some (.inl (x4 + 1))], [], M)) sm_a76_57 rfl rfl (st_iinc rfl (by decide)) ?_
  refine ru_go (t := (38, [some (.inr (some a0)), some (.inl x1), some (.inl x2), some (.inl x3), some (.inl (x4 + 1))], [], M)) sm_a76_60 rfl rfl (st_goto (pc := 60) (by decide)) ?_
  exact h
theorem bb_76_70 {d : Nat} {M : sm_M} {Q : Option sm_V → sm_M → Prop} {a0 : Nat} {x1 : Int32} {x2 : Int32} {x3 : Int32} {z4 : Option sm_V} {t0 : Option Nat}
    (h : ((t0 = none → Q (some (.inl 0)) M) ∧ (∀ b_1, t0 = some b_1 → ((¬ x2 = 0 → Q (some (.inl 0)) M) ∧ (¬ (¬ x2 = 0) → sm_K M a0 = 15 ∧ (((sm_I M a0 3) = 3 → ((¬ x1 = 513 → ((¬ x1 = 515 → Q (some (.inl 0)) M) ∧ (¬ (¬ x1 = 515) → sm_K M b_1 = 18 ∧ Q (some (.inl 1)) (sm_putI M b_1 4 1)))) ∧ (¬ (¬ x1 = 513) → sm_K M b_1 = 18 ∧ sm_Run d 80 0 (sm_ent 80 [.inr (some b_1)]) [] M (fun v M1 => sm_Run (d + 1) 76 103 [some (.inr (some a0)), some (.inl x1), some (.inl x2), some (.inl x3), some (.inr (some b_1))] (v.toList ++ []) M1 Q)))) ∧ (¬ ((sm_I M a0 3) = 3) → Q (some (.inl 0)) M))))))) :
    sm_Run (d + 1) 76 70 [some (.inr (some a0)), some (.inl x1), some (.inl x2), some (.inl x3), z4] [.inr t0] M Q := by
  refine ru_go (t := (72, [some (.inr (some a0)), some (.inl x1), some (.inl x2), some (.inl x3), some (.inr t0)], [], M)) sm_a76_70 rfl rfl rfl ?_
  refine ru_go (t := (74, [some (.inr (some a0)), some (.inl x1), some (.inl x2), some (.inl x3), some (.inr t0)], [.inr t0], M)) sm_a76_72 rfl rfl rfl ?_
  refine ru_ifnull (pc := 74) (p := 89) (p2 := 77) sm_a76_74 (by decide) rfl ⟨fun hc => ?_, fun b_1 hc => ?_⟩
  · have h := h.1 hc
    try rw [hc]
    refine ru_go (t := (90, [some (.inr (some a0)), some (.inl x1), some (.inl x2), some (.inl x3), some (.inr none)], [.inl 0], M)) sm_a76_89 rfl rfl (st_iconst (by decide)) ?_
    exact ru_ret sm_a76_90 (sm_rvz rfl (by decide)) h
  · have h := h.2 b_1 hc
    try rw [hc]
    refine ru_go (t := (78, [some (.inr (some a0)), some (.inl x1), some (.inl x2), some (.inl x3), some (.inr (some b_1))], [.inl x2], M)) sm_a76_77 rfl rfl rfl ?_
    refine ru_if (pc := 78) (p := 89) (p2 := 81) sm_a76_78 (by decide) rfl ⟨fun hc_3 => ?_, fun hc_3 => ?_⟩
    · have h := h.1 hc_3
      refine ru_go (t := (90, [some (.inr (some a0)), some (.inl x1), some (.inl x2), some (.inl x3), some (.inr (some b_1))], [.inl 0], M)) sm_a76_89 rfl rfl (st_iconst (by decide)) ?_
      exact ru_ret sm_a76_90 (sm_rvz rfl (by decide)) h
    · have h := h.2 hc_3
      refine ru_go (t := (82, [some (.inr (some a0)), some (.inl x1), some (.inl x2), some (.inl x3), some (.inr (some b_1))], [.inr (some a0)], M)) sm_a76_81 rfl rfl rfl ?_
      obtain ⟨h_4, h⟩ := h
      refine ru_go (t := (85, [some (.inr (some a0)), some (.inl x1), some (.inl x2), some (.inl x3), some (.inr (some b_1))], [.inl (sm_I M a0 3)], M)) sm_a76_82 rfl rfl (st_getI h_4 rfl) ?_
      refine ru_go (t := (86, [some (.inr (some a0)), some (.inl x1), some (.inl x2), some (.inl x3), some (.inr (some b_1))], [.inl 3, .inl (sm_I M a0 3)], M)) sm_a76_85 rfl rfl (st_iconst (by decide)) ?_
      refine ru_icmp (pc := 86) (p := 91) (p2 := 89) sm_a76_86 (by decide) rfl ⟨fun hc_5 => ?_, fun hc_5 => ?_⟩
      · have h := h.1 hc_5
        refine ru_go (t := (92, [some (.inr (some a0)), some (.inl x1), some (.inl x2), some (.inl x3), some (.inr (some b_1))], [.inl x1], M)) sm_a76_91 rfl rfl rfl ?_
        refine ru_go (t := (95, [some (.inr (some a0)), some (.inl x1), some (.inl x2), some (.inl x3), some (.inr (some b_1))], [.inl 513, .inl x1], M)) sm_a76_92 rfl rfl (st_sipush (by decide)) ?_
        refine ru_icmp (pc := 95) (p := 105) (p2 := 98) sm_a76_95 (by decide) rfl ⟨fun hc_6 => ?_, fun hc_6 => ?_⟩
        · have h := h.1 hc_6
          refine ru_go (t := (106, [some (.inr (some a0)), some (.inl x1), some (.inl x2), some (.inl x3), some (.inr (some b_1))], [.inl x1], M)) sm_a76_105 rfl rfl rfl ?_
          refine ru_go (t := (109, [some (.inr (some a0)), some (.inl x1), some (.inl x2), some (.inl x3), some (.inr (some b_1))], [.inl 515, .inl x1], M)) sm_a76_106 rfl rfl (st_sipush (by decide)) ?_
          refine ru_icmp (pc := 109) (p := 120) (p2 := 112) sm_a76_109 (by decide) rfl ⟨fun hc_7 => ?_, fun hc_7 => ?_⟩
          · have h := h.1 hc_7
            refine ru_go (t := (121, [some (.inr (some a0)), some (.inl x1), some (.inl x2), some (.inl x3), some (.inr (some b_1))], [.inl 0], M)) sm_a76_120 rfl rfl (st_iconst (by decide)) ?_
            exact ru_ret sm_a76_121 (sm_rvz rfl (by decide)) h
          · have h := h.2 hc_7
            refine ru_go (t := (114, [some (.inr (some a0)), some (.inl x1), some (.inl x2), some (.inl x3), some (.inr (some b_1))], [.inr (some b_1)], M)) sm_a76_112 rfl rfl rfl ?_
            refine ru_go (t := (115, [some (.inr (some a0)), some (.inl x1), some (.inl x2), some (.inl x3), some (.inr (some b_1))], [.inl 1, .inr (some b_1)], M)) sm_a76_114 rfl rfl (st_iconst (by decide)) ?_
            obtain ⟨h_8, h⟩ := h
            refine ru_go (t := (118, [some (.inr (some a0)), some (.inl x1), some (.inl x2), some (.inl x3), some (.inr (some b_1))], [], sm_putI M b_1 4 1)) sm_a76_115 rfl rfl (st_putI h_8 (by decide)) ?_
            refine ru_go (t := (119, [some (.inr (some a0)), some (.inl x1), some (.inl x2), some (.inl x3), some (.inr (some b_1))], [.inl 1], sm_putI M b_1 4 1)) sm_a76_118 rfl rfl (st_iconst (by decide)) ?_
            exact ru_ret sm_a76_119 (sm_rvz rfl (by decide)) h
        · have h := h.2 hc_6
          refine ru_go (t := (100, [some (.inr (some a0)), some (.inl x1), some (.inl x2), some (.inl x3), some (.inr (some b_1))], [.inr (some b_1)], M)) sm_a76_98 rfl rfl rfl ?_
          obtain ⟨h_9, h⟩ := h
          exact ru_call (p := 103) sm_a76_100 rfl (sc_virt (Or.inl rfl) rfl rfl h_9 (Nat.le_of_ble_eq_true rfl)) rfl h
      · have h := h.2 hc_5
        refine ru_go (t := (90, [some (.inr (some a0)), some (.inl x1), some (.inl x2), some (.inl x3), some (.inr (some b_1))], [.inl 0], M)) sm_a76_89 rfl rfl (st_iconst (by decide)) ?_
        exact ru_ret sm_a76_90 (sm_rvz rfl (by decide)) h
theorem bb_76_103 {d : Nat} {M : sm_M} {Q : Option sm_V → sm_M → Prop} {a0 : Nat} {x1 : Int32} {x2 : Int32} {x3 : Int32} {r4 : Option Nat}
    (h : Q (some (.inl 1)) M) :
    sm_Run (d + 1) 76 103 [some (.inr (some a0)), some (.inl x1), some (.inl x2), some (.inl x3), some (.inr r4)] [] M Q := by
  refine ru_go (t := (104, [some (.inr (some a0)), some (.inl x1), some (.inl x2), some (.inl x3), some (.inr r4)], [.inl 1], M)) sm_a76_103 rfl rfl (st_iconst (by decide)) ?_
  exact ru_ret sm_a76_104 (sm_rvz rfl (by decide)) h

/-! WireBus$Device.keep:([III)V -/
theorem sm_a77_0 : sm_at 77 0 = some (.iconst 0, 1, (0, 0, 0, 0)) := by decide +kernel
theorem sm_a77_1 : sm_at 77 1 = some (.istore 4, 2, (0, 0, 0, 0)) := by decide +kernel
theorem sm_a77_3 : sm_at 77 3 = some (.iload 4, 2, (0, 0, 0, 0)) := by decide +kernel
theorem sm_a77_5 : sm_at 77 5 = some (.iload_n 3, 1, (0, 0, 0, 0)) := by decide +kernel
theorem sm_a77_6 : sm_at 77 6 = some (.if_icmp .ge 41, 3, (0, 0, 0, 0)) := by decide +kernel
theorem sm_a77_9 : sm_at 77 9 = some (.iload 4, 2, (0, 0, 0, 0)) := by decide +kernel
theorem sm_a77_11 : sm_at 77 11 = some (.aload_n 1, 1, (0, 0, 0, 0)) := by decide +kernel
theorem sm_a77_12 : sm_at 77 12 = some (.arraylength, 1, (0, 0, 0, 0)) := by decide +kernel
theorem sm_a77_13 : sm_at 77 13 = some (.if_icmp .ge 34, 3, (0, 0, 0, 0)) := by decide +kernel
theorem sm_a77_16 : sm_at 77 16 = some (.iload_n 2, 1, (0, 0, 0, 0)) := by decide +kernel
theorem sm_a77_17 : sm_at 77 17 = some (.iload 4, 2, (0, 0, 0, 0)) := by decide +kernel
theorem sm_a77_19 : sm_at 77 19 = some (.iadd, 1, (0, 0, 0, 0)) := by decide +kernel
theorem sm_a77_20 : sm_at 77 20 = some (.aload_n 0, 1, (0, 0, 0, 0)) := by decide +kernel
theorem sm_a77_21 : sm_at 77 21 = some (.getfield 24, 3, (4, 7, 0, 268)) := by decide +kernel
theorem sm_a77_24 : sm_at 77 24 = some (.arraylength, 1, (0, 0, 0, 0)) := by decide +kernel
theorem sm_a77_25 : sm_at 77 25 = some (.if_icmp .ge 22, 3, (0, 0, 0, 0)) := by decide +kernel
theorem sm_a77_28 : sm_at 77 28 = some (.aload_n 0, 1, (0, 0, 0, 0)) := by decide +kernel
theorem sm_a77_29 : sm_at 77 29 = some (.getfield 24, 3, (4, 7, 0, 268)) := by decide +kernel
theorem sm_a77_32 : sm_at 77 32 = some (.iload_n 2, 1, (0, 0, 0, 0)) := by decide +kernel
theorem sm_a77_33 : sm_at 77 33 = some (.iload 4, 2, (0, 0, 0, 0)) := by decide +kernel
theorem sm_a77_35 : sm_at 77 35 = some (.iadd, 1, (0, 0, 0, 0)) := by decide +kernel
theorem sm_a77_36 : sm_at 77 36 = some (.aload_n 1, 1, (0, 0, 0, 0)) := by decide +kernel
theorem sm_a77_37 : sm_at 77 37 = some (.iload 4, 2, (0, 0, 0, 0)) := by decide +kernel
theorem sm_a77_39 : sm_at 77 39 = some (.iaload, 1, (0, 0, 0, 0)) := by decide +kernel
theorem sm_a77_40 : sm_at 77 40 = some (.iastore, 1, (0, 0, 0, 0)) := by decide +kernel
theorem sm_a77_41 : sm_at 77 41 = some (.iinc 4 1, 3, (0, 0, 0, 0)) := by decide +kernel
theorem sm_a77_44 : sm_at 77 44 = some (.goto (-41), 3, (0, 0, 0, 0)) := by decide +kernel
theorem sm_a77_47 : sm_at 77 47 = some (.return_, 1, (0, 0, 0, 0)) := by decide +kernel
theorem bb_77_0 {d : Nat} {M : sm_M} {Q : Option sm_V → sm_M → Prop} {a0 : Nat} {r1 : Option Nat} {x2 : Int32} {x3 : Int32} {z4 : Option sm_V}
    (h : sm_Run d 77 3 [some (.inr (some a0)), some (.inr r1), some (.inl x2), some (.inl x3), some (.inl 0)] [] M Q) :
    sm_Run d 77 0 [some (.inr (some a0)), some (.inr r1), some (.inl x2), some (.inl x3), z4] [] M Q := by
  refine ru_go (t := (1, [some (.inr (some a0)), some (.inr r1), some (.inl x2), some (.inl x3), z4], [.inl 0], M)) sm_a77_0 rfl rfl (st_iconst (by decide)) ?_
  refine ru_go (t := (3, [some (.inr (some a0)), some (.inr r1), some (.inl x2), some (.inl x3), some (.inl 0)], [], M)) sm_a77_1 rfl rfl rfl ?_
  exact h
theorem bb_77_3 {d : Nat} {M : sm_M} {Q : Option sm_V → sm_M → Prop} {a0 : Nat} {r1 : Option Nat} {x2 : Int32} {x3 : Int32} {x4 : Int32}
    (h : ((x3 ≤ x4 → Q none M) ∧ (¬ (x3 ≤ x4) → ∃ b_2, r1 = some b_2 ∧ (1 ≤ sm_K M b_2 ∧ sm_K M b_2 % 3 ≠ 0) ∧ (((Int32.ofNat (sm_L M b_2)) ≤ x4 → Q none M) ∧ (¬ ((Int32.ofNat (sm_L M b_2)) ≤ x4) → sm_K M a0 = 15 ∧ ∃ b_7, sm_R M a0 7 = some b_7 ∧ (1 ≤ sm_K M b_7 ∧ sm_K M b_7 % 3 ≠ 0) ∧ (((Int32.ofNat (sm_L M b_7)) ≤ (x2 + x4) → Q none M) ∧ (¬ ((Int32.ofNat (sm_L M b_7)) ≤ (x2 + x4)) → sm_iA M b_2 ∧ sm_in_ M b_2 x4 ∧ ∃ b_13, sm_R M a0 7 = some b_13 ∧ sm_wA 0 M b_13 ∧ sm_in_ M b_13 (x2 + x4) ∧ sm_Run d 77 3 [some (.inr (some a0)), some (.inr (some b_2)), some (.inl x2), some (.inl x3), some (.inl (x4 + 1))] [] (sm_putI M b_13 (x2 + x4).toNatClampNeg (sm_I M b_2 (x4).toNatClampNeg)) Q))))))) :
    sm_Run d 77 3 [some (.inr (some a0)), some (.inr r1), some (.inl x2), some (.inl x3), some (.inl x4)] [] M Q := by
  refine ru_go (t := (5, [some (.inr (some a0)), some (.inr r1), some (.inl x2), some (.inl x3), some (.inl x4)], [.inl x4], M)) sm_a77_3 rfl rfl rfl ?_
  refine ru_go (t := (6, [some (.inr (some a0)), some (.inr r1), some (.inl x2), some (.inl x3), some (.inl x4)], [.inl x3, .inl x4], M)) sm_a77_5 rfl rfl rfl ?_
  refine ru_icmp (pc := 6) (p := 47) (p2 := 9) sm_a77_6 (by decide) rfl ⟨fun hc_1 => ?_, fun hc_1 => ?_⟩
  · have h := h.1 hc_1
    exact ru_ret sm_a77_47 (sm_rvv rfl) h
  · have h := h.2 hc_1
    refine ru_go (t := (11, [some (.inr (some a0)), some (.inr r1), some (.inl x2), some (.inl x3), some (.inl x4)], [.inl x4], M)) sm_a77_9 rfl rfl rfl ?_
    refine ru_go (t := (12, [some (.inr (some a0)), some (.inr r1), some (.inl x2), some (.inl x3), some (.inl x4)], [.inr r1, .inl x4], M)) sm_a77_11 rfl rfl rfl ?_
    obtain ⟨b_2, hb_3, h⟩ := h
    rw [hb_3]
    obtain ⟨h_4, h⟩ := h
    refine ru_go (t := (13, [some (.inr (some a0)), some (.inr (some b_2)), some (.inl x2), some (.inl x3), some (.inl x4)], [.inl (Int32.ofNat (sm_L M b_2)), .inl x4], M)) sm_a77_12 rfl rfl (st_alen h_4) ?_
    refine ru_icmp (pc := 13) (p := 47) (p2 := 16) sm_a77_13 (by decide) rfl ⟨fun hc_5 => ?_, fun hc_5 => ?_⟩
    · have h := h.1 hc_5
      exact ru_ret sm_a77_47 (sm_rvv rfl) h
    · have h := h.2 hc_5
      refine ru_go (t := (17, [some (.inr (some a0)), some (.inr (some b_2)), some (.inl x2), some (.inl x3), some (.inl x4)], [.inl x2], M)) sm_a77_16 rfl rfl rfl ?_
      refine ru_go (t := (19, [some (.inr (some a0)), some (.inr (some b_2)), some (.inl x2), some (.inl x3), some (.inl x4)], [.inl x4, .inl x2], M)) sm_a77_17 rfl rfl rfl ?_
      refine ru_go (t := (20, [some (.inr (some a0)), some (.inr (some b_2)), some (.inl x2), some (.inl x3), some (.inl x4)], [.inl (x2 + x4)], M)) sm_a77_19 rfl rfl rfl ?_
      refine ru_go (t := (21, [some (.inr (some a0)), some (.inr (some b_2)), some (.inl x2), some (.inl x3), some (.inl x4)], [.inr (some a0), .inl (x2 + x4)], M)) sm_a77_20 rfl rfl rfl ?_
      obtain ⟨h_6, h⟩ := h
      refine ru_go (t := (24, [some (.inr (some a0)), some (.inr (some b_2)), some (.inl x2), some (.inl x3), some (.inl x4)], [.inr (sm_R M a0 7), .inl (x2 + x4)], M)) sm_a77_21 rfl rfl (st_getR h_6 rfl rfl) ?_
      obtain ⟨b_7, hb_8, h⟩ := h
      rw [hb_8]
      obtain ⟨h_9, h⟩ := h
      refine ru_go (t := (25, [some (.inr (some a0)), some (.inr (some b_2)), some (.inl x2), some (.inl x3), some (.inl x4)], [.inl (Int32.ofNat (sm_L M b_7)), .inl (x2 + x4)], M)) sm_a77_24 rfl rfl (st_alen h_9) ?_
      refine ru_icmp (pc := 25) (p := 47) (p2 := 28) sm_a77_25 (by decide) rfl ⟨fun hc_10 => ?_, fun hc_10 => ?_⟩
      · have h := h.1 hc_10
        exact ru_ret sm_a77_47 (sm_rvv rfl) h
      · have h := h.2 hc_10
        refine ru_go (t := (29, [some (.inr (some a0)), some (.inr (some b_2)), some (.inl x2), some (.inl x3), some (.inl x4)], [.inr (some a0)], M)) sm_a77_28 rfl rfl rfl ?_
        refine ru_go (t := (32, [some (.inr (some a0)), some (.inr (some b_2)), some (.inl x2), some (.inl x3), some (.inl x4)], [.inr (sm_R M a0 7)], M)) sm_a77_29 rfl rfl (st_getR h_6 rfl rfl) ?_
        refine ru_go (t := (33, [some (.inr (some a0)), some (.inr (some b_2)), some (.inl x2), some (.inl x3), some (.inl x4)], [.inl x2, .inr (sm_R M a0 7)], M)) sm_a77_32 rfl rfl rfl ?_
        refine ru_go (t := (35, [some (.inr (some a0)), some (.inr (some b_2)), some (.inl x2), some (.inl x3), some (.inl x4)], [.inl x4, .inl x2, .inr (sm_R M a0 7)], M)) sm_a77_33 rfl rfl rfl ?_
        refine ru_go (t := (36, [some (.inr (some a0)), some (.inr (some b_2)), some (.inl x2), some (.inl x3), some (.inl x4)], [.inl (x2 + x4), .inr (sm_R M a0 7)], M)) sm_a77_35 rfl rfl rfl ?_
        refine ru_go (t := (37, [some (.inr (some a0)), some (.inr (some b_2)), some (.inl x2), some (.inl x3), some (.inl x4)], [.inr (some b_2), .inl (x2 + x4), .inr (sm_R M a0 7)], M)) sm_a77_36 rfl rfl rfl ?_
        refine ru_go (t := (39, [some (.inr (some a0)), some (.inr (some b_2)), some (.inl x2), some (.inl x3), some (.inl x4)], [.inl x4, .inr (some b_2), .inl (x2 + x4), .inr (sm_R M a0 7)], M)) sm_a77_37 rfl rfl rfl ?_
        obtain ⟨h_11, h⟩ := h
        obtain ⟨h_12, h⟩ := h
        refine ru_go (t := (40, [some (.inr (some a0)), some (.inr (some b_2)), some (.inl x2), some (.inl x3), some (.inl x4)], [.inl (sm_I M b_2 (x4).toNatClampNeg), .inl (x2 + x4), .inr (sm_R M a0 7)], M)) sm_a77_39 rfl rfl (st_iald h_11 h_12) ?_
        obtain ⟨b_13, hb_14, h⟩ := h
        rw [hb_14]
        obtain ⟨h_15, h⟩ := h
        obtain ⟨h_16, h⟩ := h
        refine ru_go (t := (41, [some (.inr (some a0)), some (.inr (some b_2)), some (.inl x2), some (.inl x3), some (.inl x4)], [], sm_putI M b_13 (x2 + x4).toNatClampNeg (sm_I M b_2 (x4).toNatClampNeg))) sm_a77_40 rfl rfl (st_iast h_15 h_16) ?_
        refine ru_go (t := (44, [some (.inr (some a0)), some (.inr (some b_2)), some (.inl x2), some (.inl x3), some (.inl (x4 + 1))], [], sm_putI M b_13 (x2 + x4).toNatClampNeg (sm_I M b_2 (x4).toNatClampNeg))) sm_a77_41 rfl rfl (st_iinc rfl (by decide)) ?_
        refine ru_go (t := (3, [some (.inr (some a0)), some (.inr (some b_2)), some (.inl x2), some (.inl x3), some (.inl (x4 + 1))], [], sm_putI M b_13 (x2 + x4).toNatClampNeg (sm_I M b_2 (x4).toNatClampNeg))) sm_a77_44 rfl rfl (st_goto (pc := 44) (by decide)) ?_
        exact h
