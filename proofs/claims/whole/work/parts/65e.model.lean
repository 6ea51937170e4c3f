/-! WireBusModel.askIn:(II)V -/
theorem sm_a180_0 : sm_at 180 0 = some (.aload_n 0, 1, (0, 0, 0, 0)) := by decide +kernel
theorem sm_a180_1 : sm_at 180 1 = some (.bipush 9, 2, (0, 0, 0, 0)) := by decide +kernel
theorem sm_a180_3 : sm_at 180 3 = some (.iload_n 1, 1, (0, 0, 0, 0)) := by decide +kernel
theorem sm_a180_4 : sm_at 180 4 = some (.iload_n 2, 1, (0, 0, 0, 0)) := by decide +kernel
theorem sm_a180_5 : sm_at 180 5 = some (.iconst 0, 1, (0, 0, 0, 0)) := by decide +kernel
theorem sm_a180_6 : sm_at 180 6 = some (.invokevirtual 349, 3, (10, 178, 12, 1523)) := by decide +kernel
theorem sm_a180_9 : sm_at 180 9 = some (.aload_n 0, 1, (0, 0, 0, 0)) := by decide +kernel
theorem sm_a180_10 : sm_at 180 10 = some (.invokevirtual 352, 3, (10, 179, 12, 1620)) := by decide +kernel
theorem sm_a180_13 : sm_at 180 13 = some (.return_, 1, (0, 0, 0, 0)) := by decide +kernel
theorem bb_180_0 {d : Nat} {M : sm_M} {Q : Option sm_V → sm_M → Prop} {a0 : Nat} {x1 : Int32} {x2 : Int32}
    (h : sm_K M a0 = 39 ∧ sm_Run d 178 0 (sm_ent 178 [.inr (some a0), .inl 9, .inl x1, .inl x2, .inl 0]) [] M (fun v M1 => sm_Run (d + 1) 180 9 [some (.inr (some a0)), some (.inl x1), some (.inl x2)] (v.toList ++ []) M1 Q)) :
    sm_Run (d + 1) 180 0 [some (.inr (some a0)), some (.inl x1), some (.inl x2)] [] M Q := by
  refine ru_go (t := (1, [some (.inr (some a0)), some (.inl x1), some (.inl x2)], [.inr (some a0)], M)) sm_a180_0 rfl rfl rfl ?_
  refine ru_go (t := (3, [some (.inr (some a0)), some (.inl x1), some (.inl x2)], [.inl 9, .inr (some a0)], M)) sm_a180_1 rfl rfl (st_bipush (by decide)) ?_
  refine ru_go (t := (4, [some (.inr (some a0)), some (.inl x1), some (.inl x2)], [.inl x1, .inl 9, .inr (some a0)], M)) sm_a180_3 rfl rfl rfl ?_
  refine ru_go (t := (5, [some (.inr (some a0)), some (.inl x1), some (.inl x2)], [.inl x2, .inl x1, .inl 9, .inr (some a0)], M)) sm_a180_4 rfl rfl rfl ?_
  refine ru_go (t := (6, [some (.inr (some a0)), some (.inl x1), some (.inl x2)], [.inl 0, .inl x2, .inl x1, .inl 9, .inr (some a0)], M)) sm_a180_5 rfl rfl (st_iconst (by decide)) ?_
  obtain ⟨h_1, h⟩ := h
  exact ru_call (p := 9) sm_a180_6 rfl (sc_virt (Or.inl rfl) rfl rfl h_1 (Nat.le_of_ble_eq_true rfl)) rfl h
theorem bb_180_9 {d : Nat} {M : sm_M} {Q : Option sm_V → sm_M → Prop} {a0 : Nat} {x1 : Int32} {x2 : Int32}
    (h : sm_K M a0 = 39 ∧ sm_Run d 179 0 (sm_ent 179 [.inr (some a0)]) [] M (fun v M1 => sm_Run (d + 1) 180 13 [some (.inr (some a0)), some (.inl x1), some (.inl x2)] (v.toList ++ []) M1 Q)) :
    sm_Run (d + 1) 180 9 [some (.inr (some a0)), some (.inl x1), some (.inl x2)] [] M Q := by
  refine ru_go (t := (10, [some (.inr (some a0)), some (.inl x1), some (.inl x2)], [.inr (some a0)], M)) sm_a180_9 rfl rfl rfl ?_
  obtain ⟨h_1, h⟩ := h
  exact ru_call (p := 13) sm_a180_10 rfl (sc_virt (Or.inl rfl) rfl rfl h_1 (Nat.le_of_ble_eq_true rfl)) rfl h
theorem bb_180_13 {d : Nat} {M : sm_M} {Q : Option sm_V → sm_M → Prop} {a0 : Nat} {x1 : Int32} {x2 : Int32}
    (h : Q none M) :
    sm_Run (d + 1) 180 13 [some (.inr (some a0)), some (.inl x1), some (.inl x2)] [] M Q := by
  exact ru_ret sm_a180_13 (sm_rvv rfl) h

/-! WireBusModel.giveOut:(IIIII)V -/
theorem sm_a181_0 : sm_at 181 0 = some (.aload_n 0, 1, (0, 0, 0, 0)) := by decide +kernel
theorem sm_a181_1 : sm_at 181 1 = some (.iload_n 1, 1, (0, 0, 0, 0)) := by decide +kernel
theorem sm_a181_2 : sm_at 181 2 = some (.iload_n 2, 1, (0, 0, 0, 0)) := by decide +kernel
theorem sm_a181_3 : sm_at 181 3 = some (.iload_n 3, 1, (0, 0, 0, 0)) := by decide +kernel
theorem sm_a181_4 : sm_at 181 4 = some (.iconst 0, 1, (0, 0, 0, 0)) := by decide +kernel
theorem sm_a181_5 : sm_at 181 5 = some (.invokevirtual 349, 3, (10, 178, 12, 1523)) := by decide +kernel
theorem sm_a181_8 : sm_at 181 8 = some (.iconst 0, 1, (0, 0, 0, 0)) := by decide +kernel
theorem sm_a181_9 : sm_at 181 9 = some (.istore 6, 2, (0, 0, 0, 0)) := by decide +kernel
theorem sm_a181_11 : sm_at 181 11 = some (.iload 6, 2, (0, 0, 0, 0)) := by decide +kernel
theorem sm_a181_13 : sm_at 181 13 = some (.iload 5, 2, (0, 0, 0, 0)) := by decide +kernel
theorem sm_a181_15 : sm_at 181 15 = some (.if_icmp .ge 23, 3, (0, 0, 0, 0)) := by decide +kernel
theorem sm_a181_18 : sm_at 181 18 = some (.aload_n 0, 1, (0, 0, 0, 0)) := by decide +kernel
theorem sm_a181_19 : sm_at 181 19 = some (.getfield 143, 3, (12, 52, 0, 1235)) := by decide +kernel
theorem sm_a181_22 : sm_at 181 22 = some (.iload 6, 2, (0, 0, 0, 0)) := by decide +kernel
theorem sm_a181_24 : sm_at 181 24 = some (.aload_n 0, 1, (0, 0, 0, 0)) := by decide +kernel
theorem sm_a181_25 : sm_at 181 25 = some (.getfield 219, 3, (12, 83, 0, 1266)) := by decide +kernel
theorem sm_a181_28 : sm_at 181 28 = some (.iload 6, 2, (0, 0, 0, 0)) := by decide +kernel
theorem sm_a181_30 : sm_at 181 30 = some (.iaload, 1, (0, 0, 0, 0)) := by decide +kernel
theorem sm_a181_31 : sm_at 181 31 = some (.iastore, 1, (1, 0, 0, 0)) := by decide +kernel
theorem sm_a181_32 : sm_at 181 32 = some (.iinc 6 1, 3, (0, 0, 0, 0)) := by decide +kernel
theorem sm_a181_35 : sm_at 181 35 = some (.goto (-24), 3, (0, 0, 0, 0)) := by decide +kernel
theorem sm_a181_38 : sm_at 181 38 = some (.aload_n 0, 1, (0, 0, 0, 0)) := by decide +kernel
theorem sm_a181_39 : sm_at 181 39 = some (.iload 4, 2, (0, 0, 0, 0)) := by decide +kernel
theorem sm_a181_41 : sm_at 181 41 = some (.iconst 0, 1, (0, 0, 0, 0)) := by decide +kernel
theorem sm_a181_42 : sm_at 181 42 = some (.iconst 0, 1, (0, 0, 0, 0)) := by decide +kernel
theorem sm_a181_43 : sm_at 181 43 = some (.iload 5, 2, (0, 0, 0, 0)) := by decide +kernel
theorem sm_a181_45 : sm_at 181 45 = some (.invokevirtual 349, 3, (10, 178, 12, 1523)) := by decide +kernel
theorem sm_a181_48 : sm_at 181 48 = some (.aload_n 0, 1, (0, 0, 0, 0)) := by decide +kernel
theorem sm_a181_49 : sm_at 181 49 = some (.invokevirtual 352, 3, (10, 179, 12, 1620)) := by decide +kernel
theorem sm_a181_52 : sm_at 181 52 = some (.return_, 1, (0, 0, 0, 0)) := by decide +kernel
theorem bb_181_0 {d : Nat} {M : sm_M} {Q : Option sm_V → sm_M → Prop} {a0 : Nat} {x1 : Int32} {x2 : Int32} {x3 : Int32} {x4 : Int32} {x5 : Int32} {z6 : Option sm_V}
    (h : sm_K M a0 = 39 ∧ sm_Run d 178 0 (sm_ent 178 [.inr (some a0), .inl x1, .inl x2, .inl x3, .inl 0]) [] M (fun v M1 => sm_Run (d + 1) 181 8 [some (.inr (some a0)), some (.inl x1), some (.inl x2), some (.inl x3), some (.inl x4), some (.inl x5), z6] (v.toList ++ []) M1 Q)) :
    sm_Run (d + 1) 181 0 [some (.inr (some a0)), some (.inl x1), some (.inl x2), some (.inl x3), some (.inl x4), some (.inl x5), z6] [] M Q := by
  refine ru_go (t := (1, [some (.inr (some a0)), some (.inl x1), some (.inl x2), some (.inl x3), some (.inl x4), some (.inl x5), z6], [.inr (some a0)], M)) sm_a181_0 rfl rfl rfl ?_
  refine ru_go (t := (2, [some (.inr (some a0)), some (.inl x1), some (.inl x2), some (.inl x3), some (.inl x4), some (.inl x5), z6], [.inl x1, .inr (some a0)], M)) sm_a181_1 rfl rfl rfl ?_
  refine ru_go (t := (3, [some (.inr (some a0)), some (.inl x1), some (.inl x2), some (.inl x3), some (.inl x4), some (.inl x5), z6], [.inl x2, .inl x1, .inr (some a0)], M)) sm_a181_2 rfl rfl rfl ?_
  refine ru_go (t := (4, [some (.inr (some a0)), some (.inl x1), some (.inl x2), some (.inl x3), some (.inl x4), some (.inl x5), z6], [.inl x3, .inl x2, .inl x1, .inr (some a0)], M)) sm_a181_3 rfl rfl rfl ?_
  refine ru_go (t := (5, [some (.inr (some a0)), some (.inl x1), some (.inl x2), some (.inl x3), some (.inl x4), some (.inl x5), z6], [.inl 0, .inl x3, .inl x2, .inl x1, .inr (some a0)], M)) sm_a181_4 rfl rfl (st_iconst (by decide)) ?_
  obtain ⟨h_1, h⟩ := h
  exact ru_call (p := 8) sm_a181_5 rfl (sc_virt (Or.inl rfl) rfl rfl h_1 (Nat.le_of_ble_eq_true rfl)) rfl h
theorem bb_181_8 {d : Nat} {M : sm_M} {Q : Option sm_V → sm_M → Prop} {a0 : Nat} {x1 : Int32} {x2 : Int32} {x3 : Int32} {x4 : Int32} {x5 : Int32} {z6 : Option sm_V}
    (h : sm_Run (d + 1) 181 11 [some (.inr (some a0)), some (.inl x1), some (.inl x2), some (.inl x3), some (.inl x4), some (.inl x5), some (.inl 0)] [] M Q) :
    sm_Run (d + 1) 181 8 [some (.inr (some a0)), some (.inl x1), some (.inl x2), some (.inl x3), some (.inl x4), some (.inl x5), z6] [] M Q := by
  refine ru_go (t := (9, [some (.inr (some a0)), some (.inl x1), some (.inl x2), some (.inl x3), some (.inl x4), some (.inl x5), z6], [.inl 0], M)) sm_a181_8 rfl rfl (st_iconst (by decide)) ?_
  refine ru_go (t := (11, [some (.inr (some a0)), some (.inl x1), some (.inl x2), some (.inl x3), some (.inl x4), some (.inl x5), some (.inl 0)], [], M)) sm_a181_9 rfl rfl rfl ?_
  exact h
theorem bb_181_11 {d : Nat} {M : sm_M} {Q : Option sm_V → sm_M → Prop} {a0 : Nat} {x1 : Int32} {x2 : Int32} {x3 : Int32} {x4 : Int32} {x5 : Int32} {x6 : Int32}
    (h : ((x5 ≤ x6 → sm_K M a0 = 39 ∧ sm_Run d 178 0 (sm_ent 178 [.inr (some a0), .inl x4, .inl 0, .inl 0, .inl x5]) [] M (fun v M1 => sm_Run (d + 1) 181 48 [some (.inr (some a0)), some (.inl x1), some (.inl x2), some (.inl x3), some (.inl x4), some (.inl x5), some (.inl x6)] (v.toList ++ []) M1 Q)) ∧ (¬ (x5 ≤ x6) → sm_K M a0 = 39 ∧ ∃ b_4, sm_R M a0 83 = some b_4 ∧ sm_iA M b_4 ∧ sm_in_ M b_4 x6 ∧ ∃ b_8, sm_R M a0 52 = some b_8 ∧ sm_wA 1 M b_8 ∧ sm_in_ M b_8 x6 ∧ sm_Run (d + 1) 181 11 [some (.inr (some a0)), some (.inl x1), some (.inl x2), some (.inl x3), some (.inl x4), some (.inl x5), some (.inl (x6 + 1))] [] (sm_putI M b_8 (x6).toNatClampNeg (sm_I M b_4 (x6).toNatClampNeg)) Q))) :
    sm_Run (d + 1) 181 11 [some (.inr (some a0)), some (.inl x1), some (.inl x2), some (.inl x3), some (.inl x4), some (.inl x5), some (.inl x6)] [] M Q := by
  refine ru_go (t := (13, [some (.inr (some a0)), some (.inl x1), some (.inl x2), some (.inl x3), some (.inl x4), some (.inl x5), some (.inl x6)], [.inl x6], M)) sm_a181_11 rfl rfl rfl ?_
  refine ru_go (t := (15, [some (.inr (some a0)), some (.inl x1), some (.inl x2), some (.inl x3), some (.inl x4), some (.inl x5), some (.inl x6)], [.inl x5, .inl x6], M)) sm_a181_13 rfl rfl rfl ?_
  refine ru_icmp (pc := 15) (p := 38) (p2 := 18) sm_a181_15 (by decide) rfl ⟨fun hc_1 => ?_, fun hc_1 => ?_⟩
  · have h := h.1 hc_1
    refine ru_go (t := (39, [some (.inr (some a0)), some (.inl x1), some (.inl x2), some (.inl x3), some (.inl x4), some (.inl x5), some (.inl x6)], [.inr (some a0)], M)) sm_a181_38 rfl rfl rfl ?_
    refine ru_go (t := (41, [some (.inr (some a0)), some (.inl x1), some (.inl x2), some (.inl x3), some (.inl x4), some (.inl x5), some (.inl x6)], [.inl x4, .inr (some a0)], M)) sm_a181_39 rfl rfl rfl ?_
    refine ru_go (t := (42, [some (.inr (some a0)), some (.inl x1), some (.inl x2), some (.inl x3), some (.inl x4), some (.inl x5), some (.inl x6)], [.inl 0, .inl x4, .inr (some a0)], M)) sm_a181_41 rfl rfl (st_iconst (by decide)) ?_
    refine ru_go (t := (43, [some (.inr (some a0)), some (.inl x1), some (.inl x2), some (.inl x3), some (.inl x4), some (.inl x5), some (.inl x6)], [.inl 0, .inl 0, .inl x4, .inr (some a0)], M)) sm_a181_42 rfl rfl (st_iconst (by decide)) ?_
    refine ru_go (t := (45, [some (.inr (some a0)), some (.inl x1), some (.inl x2), some (.inl x3), some (.inl x4), some (.inl x5), some (.inl x6)], [.inl x5, .inl 0, .inl 0, .inl x4, .inr (some a0)], M)) sm_a181_43 rfl rfl rfl ?_
    obtain ⟨h_2, h⟩ := h
    exact ru_call (p := 48) sm_a181_45 rfl (sc_virt (Or.inl rfl) rfl rfl h_2 (Nat.le_of_ble_eq_true rfl)) rfl h
  · have h := h.2 hc_1
    refine ru_go (t := (19, [some (.inr (some a0)), some (.inl x1), some (.inl x2), some (.inl x3), some (.inl x4), some (.inl x5), some (.inl x6)], [.inr (some a0)], M)) sm_a181_18 rfl rfl rfl ?_
    obtain ⟨h_3, h⟩ := h
    refine ru_go (t := (22, [some (.inr (some a0)), some (.inl x1), some (.inl x2), some (.inl x3), some (.inl x4), some (.inl x5), some (.inl x6)], [.inr (sm_R M a0 52)], M)) sm_a181_19 rfl rfl (st_getR h_3 rfl rfl) ?_
    refine ru_go (t := (24, [some (.inr (some a0)), some (.inl x1), some (.inl x2), some (.inl x3), some (.inl x4), some (.inl x5), some (.inl x6)], [.inl x6, .inr (sm_R M a0 52)], M)) sm_a181_22 rfl rfl rfl ?_
    refine ru_go (t := (25, [some (.inr (some a0)), some (.inl x1), some (.inl x2), some (.inl x3), some (.inl x4), some (.inl x5), some (.inl x6)], [.inr (some a0), .inl x6, .inr (sm_R M a0 52)], M)) sm_a181_24 rfl rfl rfl ?_
    refine ru_go (t := (28, [some (.inr (some a0)), some (.inl x1), some (.inl x2), some (.inl x3), some (.inl x4), some (.inl x5), some (.inl x6)], [.inr (sm_R M a0 83), .inl x6, .inr (sm_R M a0 52)], M)) sm_a181_25 rfl rfl (st_getR h_3 rfl rfl) ?_
    refine ru_go (t := (30, [some (.inr (some a0)), some (.inl x1), some (.inl x2), some (.inl x3), some (.inl x4), some (.inl x5), some (.inl x6)], [.inl x6, .inr (sm_R M a0 83), .inl x6, .inr (sm_R M a0 52)], M)) sm_a181_28 rfl rfl rfl ?_
    obtain ⟨b_4, hb_5, h⟩ := h
    rw [hb_5]
    obtain ⟨h_6, h⟩ := h
    obtain ⟨h_7, h⟩ := h
    refine ru_go (t := (31, [some (.inr (some a0)), some (.inl x1), some (.inl x2), some (.inl x3), some (.inl x4), some (.inl x5), some (.inl x6)], [.inl (sm_I M b_4 (x6).toNatClampNeg), .inl x6, .inr (sm_R M a0 52)], M)) sm_a181_30 rfl rfl (st_iald h_6 h_7) ?_
    obtain ⟨b_8, hb_9, h⟩ := h
    rw [hb_9]
    obtain ⟨h_10, h⟩ := h
    obtain ⟨h_11, h⟩ := h
    refine ru_go (t := (32, [some (.inr (some a0)), some (.inl x1), some (.inl x2), some (.inl x3), some (.inl x4), some (.inl x5), some (.inl x6)], [], sm_putI M b_8 (x6).toNatClampNeg (sm_I M b_4 (x6).toNatClampNeg))) sm_a181_31 rfl rfl (st_iast h_10 h_11) ?_
    refine ru_go (t := (35, [some (.inr (some a0)), some (.inl x1), some (.inl x2), some (.inl x3), some (.inl x4), some (.inl x5), some (.inl (x6 + 1))], [], sm_putI M b_8 (x6).toNatClampNeg (sm_I M b_4 (x6).toNatClampNeg))) sm_a181_32 rfl rfl (st_iinc rfl (by decide)) ?_
    refine ru_go (t := (11, [some (.inr (some a0)), some (.inl x1), some (.inl x2), some (.inl x3), some (.inl x4), some (.inl x5), some (.inl (x6 + 1))], [], sm_putI M b_8 (x6).toNatClampNeg (sm_I M b_4 (x6).toNatClampNeg))) sm_a181_35 rfl rfl (st_goto (pc := 35) (by decide)) ?_
    exact h
theorem bb_181_48 {d : Nat} {M : sm_M} {Q : Option sm_V → sm_M → Prop} {a0 : Nat} {x1 : Int32} {x2 : Int32} {x3 : Int32} {x4 : Int32} {x5 : Int32} {x6 : Int32}
    (h : sm_K M a0 = 39 ∧ sm_Run d 179 0 (sm_ent 179 [.inr (some a0)]) [] M (fun v M1 => sm_Run (d + 1) 181 52 [some (.inr (some a0)), some (.inl x1), some (.inl x2), some (.inl x3), some (.inl x4), some (.inl x5), some (.inl x6)] (v.toList ++ []) M1 Q)) :
    sm_Run (d + 1) 181 48 [some (.inr (some a0)), some (.inl x1), some (.inl x2), some (.inl x3), some (.inl x4), some (.inl x5), some (.inl x6)] [] M Q := by
  refine ru_go (t := (49, [some (.inr (some a0)), some (.inl x1), some (.inl x2), some (.inl x3), some (.inl x4), some (.inl x5), some (.inl x6)], [.inr (some a0)], M)) sm_a181_48 rfl rfl rfl ?_
  obtain ⟨h_1, h⟩ := h
  exact ru_call (p := 52) sm_a181_49 rfl (sc_virt (Or.inl rfl) rfl rfl h_1 (Nat.le_of_ble_eq_true rfl)) rfl h
theorem bb_181_52 {d : Nat} {M : sm_M} {Q : Option sm_V → sm_M → Prop} {a0 : Nat} {x1 : Int32} {x2 : Int32} {x3 : Int32} {x4 : Int32} {x5 : Int32} {x6 : Int32}
    (h : Q none M) :
    sm_Run (d + 1) 181 52 [some (.inr (some a0)), some (.inl x1), some (.inl x2), some (.inl x3), some (.inl x4), some (.inl x5), some (.inl x6)] [] M Q := by
  exact ru_ret sm_a181_52 (sm_rvv rfl) h

/-! WireBusModel.failed:(I)V -/
theorem sm_a182_0 : sm_at 182 0 = some (.aload_n 0, 1, (0, 0, 0, 0)) := by decide +kernel
theorem sm_a182_1 : sm_at 182 1 = some (.getfield 200, 3, (12, 76, 0, 1259)) := by decide +kernel
theorem sm_a182_4 : sm_at 182 4 = some (.iload_n 1, 1, (0, 0, 0, 0)) := by decide +kernel
theorem sm_a182_5 : sm_at 182 5 = some (.dup2, 1, (0, 0, 0, 0)) := by decide +kernel
theorem sm_a182_6 : sm_at 182 6 = some (.iaload, 1, (0, 0, 0, 0)) := by decide +kernel
theorem sm_a182_7 : sm_at 182 7 = some (.iconst 1, 1, (0, 0, 0, 0)) := by decide +kernel
theorem sm_a182_8 : sm_at 182 8 = some (.iadd, 1, (0, 0, 0, 0)) := by decide +kernel
theorem sm_a182_9 : sm_at 182 9 = some (.iastore, 1, (1, 0, 0, 0)) := by decide +kernel
theorem sm_a182_10 : sm_at 182 10 = some (.aload_n 0, 1, (0, 0, 0, 0)) := by decide +kernel
theorem sm_a182_11 : sm_at 182 11 = some (.getfield 200, 3, (12, 76, 0, 1259)) := by decide +kernel
theorem sm_a182_14 : sm_at 182 14 = some (.iload_n 1, 1, (0, 0, 0, 0)) := by decide +kernel
theorem sm_a182_15 : sm_at 182 15 = some (.iaload, 1, (0, 0, 0, 0)) := by decide +kernel
theorem sm_a182_16 : sm_at 182 16 = some (.iconst 3, 1, (0, 0, 0, 0)) := by decide +kernel
theorem sm_a182_17 : sm_at 182 17 = some (.if_icmp .ne 10, 3, (0, 0, 0, 0)) := by decide +kernel
theorem sm_a182_20 : sm_at 182 20 = some (.aload_n 0, 1, (0, 0, 0, 0)) := by decide +kernel
theorem sm_a182_21 : sm_at 182 21 = some (.getfield 191, 3, (12, 73, 0, 1256)) := by decide +kernel
theorem sm_a182_24 : sm_at 182 24 = some (.iload_n 1, 1, (0, 0, 0, 0)) := by decide +kernel
theorem sm_a182_25 : sm_at 182 25 = some (.iconst 3, 1, (0, 0, 0, 0)) := by decide +kernel
theorem sm_a182_26 : sm_at 182 26 = some (.iastore, 1, (1, 0, 0, 0)) := by decide +kernel
theorem sm_a182_27 : sm_at 182 27 = some (.return_, 1, (0, 0, 0, 0)) := by decide +kernel
theorem bb_182_0 {d : Nat} {M : sm_M} {Q : Option sm_V → sm_M → Prop} {a0 : Nat} {x1 : Int32}
    (h : sm_K M a0 = 39 ∧ ∃ b_2, sm_R M a0 76 = some b_2 ∧ sm_iA M b_2 ∧ sm_in_ M b_2 x1 ∧ sm_wA 1 M b_2 ∧ ∃ b_7, sm_R (sm_putI M b_2 (x1).toNatClampNeg ((sm_I M b_2 (x1).toNatClampNeg) + 1)) a0 76 = some b_7 ∧ sm_iA M b_7 ∧ sm_in_ M b_7 x1 ∧ ((¬ (sm_I (sm_putI M b_2 (x1).toNatClampNeg ((sm_I M b_2 (x1).toNatClampNeg) + 1)) b_7 (x1).toNatClampNeg) = 3 → Q none (sm_putI M b_2 (x1).toNatClampNeg ((sm_I M b_2 (x1).toNatClampNeg) + 1))) ∧ (¬ (¬ (sm_I (sm_putI M b_2 (x1).toNatClampNeg ((sm_I M b_2 (x1).toNatClampNeg) + 1)) b_7 (x1).toNatClampNeg) = 3) → ∃ b_12, sm_R (sm_putI M b_2 (x1).toNatClampNeg ((sm_I M b_2 (x1).toNatClampNeg) + 1)) a0 73 = some b_12 ∧ sm_wA 1 M b_12 ∧ sm_in_ M b_12 x1 ∧ Q none (sm_putI (sm_putI M b_2 (x1).toNatClampNeg ((sm_I M b_2 (x1).toNatClampNeg) + 1)) b_12 (x1).toNatClampNeg 3)))) :
    sm_Run d 182 0 [some (.inr (some a0)), some (.inl x1)] [] M Q := by
  refine ru_go (t := (1, [some (.inr (some a0)), some (.inl x1)], [.inr (some a0)], M)) sm_a182_0 rfl rfl rfl ?_
  obtain ⟨h_1, h⟩ := h
  refine ru_go (t := (4, [some (.inr (some a0)), some (.inl x1)], [.inr (sm_R M a0 76)], M)) sm_a182_1 rfl rfl (st_getR h_1 rfl rfl) ?_
  refine ru_go (t := (5, [some (.inr (some a0)), some (.inl x1)], [.inl x1, .inr (sm_R M a0 76)], M)) sm_a182_4 rfl rfl rfl ?_
  refine ru_go (t := (6, [some (.inr (some a0)), some (.inl x1)], [.inl x1, .inr (sm_R M a0 76), .inl x1, .inr (sm_R M a0 76)], M)) sm_a182_5 rfl rfl rfl ?_
  obtain ⟨b_2, hb_3, h⟩ := h
  rw [hb_3]
  obtain ⟨h_4, h⟩ := h
  obtain ⟨h_5, h⟩ := h
  refine ru_go (t := (7, [some (.inr (some a0)), some (.inl x1)], [.inl (sm_I M b_2 (x1).toNatClampNeg), .inl x1, .inr (some b_2)], M)) sm_a182_6 rfl rfl (st_iald h_4 h_5) ?_
  refine ru_go (t := (8, [some (.inr (some a0)), some (.inl x1)], [.inl 1, .inl (sm_I M b_2 (x1).toNatClampNeg), .inl x1, .inr (some b_2)], M)) sm_a182_7 rfl rfl (st_iconst (by decide)) ?_
  refine ru_go (t := (9, [some (.inr (some a0)), some (.inl x1)], [.inl ((sm_I M b_2 (x1).toNatClampNeg) + 1), .inl x1, .inr (some b_2)], M)) sm_a182_8 rfl rfl rfl ?_
  obtain ⟨h_6, h⟩ := h
  refine ru_go (t := (10, [some (.inr (some a0)), some (.inl x1)], [], sm_putI M b_2 (x1).toNatClampNeg ((sm_I M b_2 (x1).toNatClampNeg) + 1))) sm_a182_9 rfl rfl (st_iast h_6 h_5) ?_
  refine ru_go (t := (11, [some (.inr (some a0)), some (.inl x1)], [.inr (some a0)], sm_putI M b_2 (x1).toNatClampNeg ((sm_I M b_2 (x1).toNatClampNeg) + 1))) sm_a182_10 rfl rfl rfl ?_
  refine ru_go (t := (14, [some (.inr (some a0)), some (.inl x1)], [.inr (sm_R (sm_putI M b_2 (x1).toNatClampNeg ((sm_I M b_2 (x1).toNatClampNeg) + 1)) a0 76)], sm_putI M b_2 (x1).toNatClampNeg ((sm_I M b_2 (x1).toNatClampNeg) + 1))) sm_a182_11 rfl rfl (st_getR h_1 rfl rfl) ?_
  refine ru_go (t := (15, [some (.inr (some a0)), some (.inl x1)], [.inl x1, .inr (sm_R (sm_putI M b_2 (x1).toNatClampNeg ((sm_I M b_2 (x1).toNatClampNeg) + 1)) a0 76)], sm_putI M b_2 (x1).toNatClampNeg ((sm_I M b_2 (x1).toNatClampNeg) + 1))) sm_a182_14 rfl rfl rfl ?_
  obtain ⟨b_7, hb_8, h⟩ := h
  rw [hb_8]
  obtain ⟨h_9, h⟩ := h
  obtain ⟨h_10, h⟩ := h
  refine ru_go (t := (16, [some (.inr (some a0)), some (.inl x1)], [.inl (sm_I (sm_putI M b_2 (x1).toNatClampNeg ((sm_I M b_2 (x1).toNatClampNeg) + 1)) b_7 (x1).toNatClampNeg)], sm_putI M b_2 (x1).toNatClampNeg ((sm_I M b_2 (x1).toNatClampNeg) + 1))) sm_a182_15 rfl rfl (st_iald h_9 h_10) ?_
  refine ru_go (t := (17, [some (.inr (some a0)), some (.inl x1)], [.inl 3, .inl (sm_I (sm_putI M b_2 (x1).toNatClampNeg ((sm_I M b_2 (x1).toNatClampNeg) + 1)) b_7 (x1).toNatClampNeg)], sm_putI M b_2 (x1).toNatClampNeg ((sm_I M b_2 (x1).toNatClampNeg) + 1))) sm_a182_16 rfl rfl (st_iconst (by decide)) ?_
  refine ru_icmp (pc := 17) (p := 27) (p2 := 20) sm_a182_17 (by decide) rfl ⟨fun hc_11 => ?_, fun hc_11 => ?_⟩
  · have h := h.1 hc_11
    exact ru_ret sm_a182_27 (sm_rvv rfl) h
  · have h := h.2 hc_11
    refine ru_go (t := (21, [some (.inr (some a0)), some (.inl x1)], [.inr (some a0)], sm_putI M b_2 (x1).toNatClampNeg ((sm_I M b_2 (x1).toNatClampNeg) + 1))) sm_a182_20 rfl rfl rfl ?_
    refine ru_go (t := (24, [some (.inr (some a0)), some (.inl x1)], [.inr (sm_R (sm_putI M b_2 (x1).toNatClampNeg ((sm_I M b_2 (x1).toNatClampNeg) + 1)) a0 73)], sm_putI M b_2 (x1).toNatClampNeg ((sm_I M b_2 (x1).toNatClampNeg) + 1))) sm_a182_21 rfl rfl (st_getR h_1 rfl rfl) ?_
    refine ru_go (t := (25, [some (.inr (some a0)), some (.inl x1)], [.inl x1, .inr (sm_R (sm_putI M b_2 (x1).toNatClampNeg ((sm_I M b_2 (x1).toNatClampNeg) + 1)) a0 73)], sm_putI M b_2 (x1).toNatClampNeg ((sm_I M b_2 (x1).toNatClampNeg) + 1))) sm_a182_24 rfl rfl rfl ?_
    refine ru_go (t := (26, [some (.inr (some a0)), some (.inl x1)], [.inl 3, .inl x1, .inr (sm_R (sm_putI M b_2 (x1).toNatClampNeg ((sm_I M b_2 (x1).toNatClampNeg) + 1)) a0 73)], sm_putI M b_2 (x1).toNatClampNeg ((sm_I M b_2 (x1).toNatClampNeg) + 1))) sm_a182_25 rfl rfl (st_iconst (by decide)) ?_
    obtain ⟨b_12, hb_13, h⟩ := h
    rw [hb_13]
    obtain ⟨h_14, h⟩ := h
    obtain ⟨h_15, h⟩ := h
    refine ru_go (t := (27, [some (.inr (some a0)), some (.inl x1)], [], sm_putI (sm_putI M b_2 (x1).toNatClampNeg ((sm_I M b_2 (x1).toNatClampNeg) + 1)) b_12 (x1).toNatClampNeg 3)) sm_a182_26 rfl rfl (st_iast h_14 h_15) ?_
    exact ru_ret sm_a182_27 (sm_rvv rfl) h

/-! WireBusModel.takes:(III)Z -/
theorem sm_a183_0 : sm_at 183 0 = some (.aload_n 0, 1, (0, 0, 0, 0)) := by decide +kernel
theorem sm_a183_1 : sm_at 183 1 = some (.getfield 266, 3, (12, 50, 0, 1233)) := by decide +kernel
theorem sm_a183_4 : sm_at 183 4 = some (.istore 4, 2, (0, 0, 0, 0)) := by decide +kernel
theorem sm_a183_6 : sm_at 183 6 = some (.aload_n 0, 1, (0, 0, 0, 0)) := by decide +kernel
theorem sm_a183_7 : sm_at 183 7 = some (.getfield 122, 3, (12, 41, 0, 1224)) := by decide +kernel
theorem sm_a183_10 : sm_at 183 10 = some (.iload 4, 2, (0, 0, 0, 0)) := by decide +kernel
theorem sm_a183_12 : sm_at 183 12 = some (.iaload, 1, (0, 0, 0, 0)) := by decide +kernel
theorem sm_a183_13 : sm_at 183 13 = some (.istore 5, 2, (0, 0, 0, 0)) := by decide +kernel
theorem sm_a183_15 : sm_at 183 15 = some (.aload_n 0, 1, (0, 0, 0, 0)) := by decide +kernel
theorem sm_a183_16 : sm_at 183 16 = some (.getfield 346, 3, (12, 82, 0, 1265)) := by decide +kernel
theorem sm_a183_19 : sm_at 183 19 = some (.bipush 11, 2, (0, 0, 0, 0)) := by decide +kernel
theorem sm_a183_21 : sm_at 183 21 = some (.if_icmp .ne 7, 3, (0, 0, 0, 0)) := by decide +kernel
theorem sm_a183_24 : sm_at 183 24 = some (.iconst 1, 1, (0, 0, 0, 0)) := by decide +kernel
theorem sm_a183_25 : sm_at 183 25 = some (.goto 4, 3, (0, 0, 0, 0)) := by decide +kernel
theorem sm_a183_28 : sm_at 183 28 = some (.iconst 0, 1, (0, 0, 0, 0)) := by decide +kernel
theorem sm_a183_29 : sm_at 183 29 = some (.iload_n 2, 1, (0, 0, 0, 0)) := by decide +kernel
theorem sm_a183_30 : sm_at 183 30 = some (.if_icmp .ne 7, 3, (0, 0, 0, 0)) := by decide +kernel
theorem sm_a183_33 : sm_at 183 33 = some (.iconst 1, 1, (0, 0, 0, 0)) := by decide +kernel
theorem sm_a183_34 : sm_at 183 34 = some (.goto 4, 3, (0, 0, 0, 0)) := by decide +kernel
theorem sm_a183_37 : sm_at 183 37 = some (.iconst 0, 1, (0, 0, 0, 0)) := by decide +kernel
theorem sm_a183_38 : sm_at 183 38 = some (.istore 6, 2, (0, 0, 0, 0)) := by decide +kernel
theorem sm_a183_40 : sm_at 183 40 = some (.iconst 0, 1, (0, 0, 0, 0)) := by decide +kernel
theorem sm_a183_41 : sm_at 183 41 = some (.istore 7, 2, (0, 0, 0, 0)) := by decide +kernel
theorem sm_a183_43 : sm_at 183 43 = some (.iload 6, 2, (0, 0, 0, 0)) := by decide +kernel
theorem sm_a183_45 : sm_at 183 45 = some (.ifCond .eq 142, 3, (0, 0, 0, 0)) := by decide +kernel
theorem sm_a183_48 : sm_at 183 48 = some (.aload_n 0, 1, (0, 0, 0, 0)) := by decide +kernel
theorem sm_a183_49 : sm_at 183 49 = some (.getfield 197, 3, (12, 75, 0, 1258)) := by decide +kernel
theorem sm_a183_52 : sm_at 183 52 = some (.iload_n 1, 1, (0, 0, 0, 0)) := by decide +kernel
theorem sm_a183_53 : sm_at 183 53 = some (.iaload, 1, (0, 0, 0, 0)) := by decide +kernel
theorem sm_a183_54 : sm_at 183 54 = some (.aload_n 0, 1, (0, 0, 0, 0)) := by decide +kernel
theorem sm_a183_55 : sm_at 183 55 = some (.getfield 194, 3, (12, 74, 0, 1257)) := by decide +kernel
theorem sm_a183_58 : sm_at 183 58 = some (.iload_n 1, 1, (0, 0, 0, 0)) := by decide +kernel
theorem sm_a183_59 : sm_at 183 59 = some (.iaload, 1, (0, 0, 0, 0)) := by decide +kernel
theorem sm_a183_60 : sm_at 183 60 = some (.isub, 1, (0, 0, 0, 0)) := by decide +kernel
theorem sm_a183_61 : sm_at 183 61 = some (.istore 8, 2, (0, 0, 0, 0)) := by decide +kernel
theorem sm_a183_63 : sm_at 183 63 = some (.iload 5, 2, (0, 0, 0, 0)) := by decide +kernel
theorem sm_a183_65 : sm_at 183 65 = some (.iload 8, 2, (0, 0, 0, 0)) := by decide +kernel
theorem sm_a183_67 : sm_at 183 67 = some (.if_icmp .ge 8, 3, (0, 0, 0, 0)) := by decide +kernel
theorem sm_a183_70 : sm_at 183 70 = some (.iload 5, 2, (0, 0, 0, 0)) := by decide +kernel
theorem sm_a183_72 : sm_at 183 72 = some (.goto 5, 3, (0, 0, 0, 0)) := by decide +kernel
theorem sm_a183_75 : sm_at 183 75 = some (.iload 8, 2, (0, 0, 0, 0)) := by decide +kernel
theorem sm_a183_77 : sm_at 183 77 = some (.istore 9, 2, (0, 0, 0, 0)) := by decide +kernel
theorem sm_a183_79 : sm_at 183 79 = some (.iconst 0, 1, (0, 0, 0, 0)) := by decide +kernel
theorem sm_a183_80 : sm_at 183 80 = some (.istore 10, 2, (0, 0, 0, 0)) := by decide +kernel
theorem sm_a183_82 : sm_at 183 82 = some (.iload 10, 2, (0, 0, 0, 0)) := by decide +kernel
theorem sm_a183_84 : sm_at 183 84 = some (.iload 9, 2, (0, 0, 0, 0)) := by decide +kernel
theorem sm_a183_86 : sm_at 183 86 = some (.if_icmp .ge 41, 3, (0, 0, 0, 0)) := by decide +kernel
theorem sm_a183_89 : sm_at 183 89 = some (.aload_n 0, 1, (0, 0, 0, 0)) := by decide +kernel
theorem sm_a183_90 : sm_at 183 90 = some (.getfield 216, 3, (12, 81, 0, 1264)) := by decide +kernel
theorem sm_a183_93 : sm_at 183 93 = some (.bipush 100, 2, (0, 0, 0, 0)) := by decide +kernel
theorem sm_a183_95 : sm_at 183 95 = some (.iload_n 1, 1, (0, 0, 0, 0)) := by decide +kernel
theorem sm_a183_96 : sm_at 183 96 = some (.imul, 1, (0, 0, 0, 0)) := by decide +kernel
theorem sm_a183_97 : sm_at 183 97 = some (.aload_n 0, 1, (0, 0, 0, 0)) := by decide +kernel
theorem sm_a183_98 : sm_at 183 98 = some (.getfield 194, 3, (12, 74, 0, 1257)) := by decide +kernel
theorem sm_a183_101 : sm_at 183 101 = some (.iload_n 1, 1, (0, 0, 0, 0)) := by decide +kernel
theorem sm_a183_102 : sm_at 183 102 = some (.iaload, 1, (0, 0, 0, 0)) := by decide +kernel
theorem sm_a183_103 : sm_at 183 103 = some (.iadd, 1, (0, 0, 0, 0)) := by decide +kernel
theorem sm_a183_104 : sm_at 183 104 = some (.iload 10, 2, (0, 0, 0, 0)) := by decide +kernel
theorem sm_a183_106 : sm_at 183 106 = some (.iadd, 1, (0, 0, 0, 0)) := by decide +kernel
theorem sm_a183_107 : sm_at 183 107 = some (.aload_n 0, 1, (0, 0, 0, 0)) := by decide +kernel
theorem sm_a183_108 : sm_at 183 108 = some (.getfield 125, 3, (12, 42, 0, 1225)) := by decide +kernel
theorem sm_a183_111 : sm_at 183 111 = some (.bipush 100, 2, (0, 0, 0, 0)) := by decide +kernel
theorem sm_a183_113 : sm_at 183 113 = some (.iload 4, 2, (0, 0, 0, 0)) := by decide +kernel
theorem sm_a183_115 : sm_at 183 115 = some (.imul, 1, (0, 0, 0, 0)) := by decide +kernel
theorem sm_a183_116 : sm_at 183 116 = some (.iload 10, 2, (0, 0, 0, 0)) := by decide +kernel
theorem sm_a183_118 : sm_at 183 118 = some (.iadd, 1, (0, 0, 0, 0)) := by decide +kernel
theorem sm_a183_119 : sm_at 183 119 = some (.iaload, 1, (0, 0, 0, 0)) := by decide +kernel
theorem sm_a183_120 : sm_at 183 120 = some (.iastore, 1, (1, 0, 0, 0)) := by decide +kernel
theorem sm_a183_121 : sm_at 183 121 = some (.iinc 10 1, 3, (0, 0, 0, 0)) := by decide +kernel
theorem sm_a183_124 : sm_at 183 124 = some (.goto (-42), 3, (0, 0, 0, 0)) := by decide +kernel
theorem sm_a183_127 : sm_at 183 127 = some (.aload_n 0, 1, (0, 0, 0, 0)) := by decide +kernel
theorem sm_a183_128 : sm_at 183 128 = some (.getfield 194, 3, (12, 74, 0, 1257)) := by decide +kernel
theorem sm_a183_131 : sm_at 183 131 = some (.iload_n 1, 1, (0, 0, 0, 0)) := by decide +kernel
theorem sm_a183_132 : sm_at 183 132 = some (.dup2, 1, (0, 0, 0, 0)) := by decide +kernel
theorem sm_a183_133 : sm_at 183 133 = some (.iaload, 1, (0, 0, 0, 0)) := by decide +kernel
theorem sm_a183_134 : sm_at 183 134 = some (.iload 9, 2, (0, 0, 0, 0)) := by decide +kernel
theorem sm_a183_136 : sm_at 183 136 = some (.iadd, 1, (0, 0, 0, 0)) := by decide +kernel
theorem sm_a183_137 : sm_at 183 137 = some (.iastore, 1, (1, 0, 0, 0)) := by decide +kernel
theorem sm_a183_138 : sm_at 183 138 = some (.iload 5, 2, (0, 0, 0, 0)) := by decide +kernel
theorem sm_a183_140 : sm_at 183 140 = some (.iload 8, 2, (0, 0, 0, 0)) := by decide +kernel
theorem sm_a183_142 : sm_at 183 142 = some (.if_icmp .le 10, 3, (0, 0, 0, 0)) := by decide +kernel
theorem sm_a183_145 : sm_at 183 145 = some (.aload_n 0, 1, (0, 0, 0, 0)) := by decide +kernel
theorem sm_a183_146 : sm_at 183 146 = some (.getfield 191, 3, (12, 73, 0, 1256)) := by decide +kernel
theorem sm_a183_149 : sm_at 183 149 = some (.iload_n 1, 1, (0, 0, 0, 0)) := by decide +kernel
theorem sm_a183_150 : sm_at 183 150 = some (.iconst 3, 1, (0, 0, 0, 0)) := by decide +kernel
theorem sm_a183_151 : sm_at 183 151 = some (.iastore, 1, (1, 0, 0, 0)) := by decide +kernel
theorem sm_a183_152 : sm_at 183 152 = some (.iload 5, 2, (0, 0, 0, 0)) := by decide +kernel
theorem sm_a183_154 : sm_at 183 154 = some (.iload 8, 2, (0, 0, 0, 0)) := by decide +kernel
theorem sm_a183_156 : sm_at 183 156 = some (.if_icmp .gt 28, 3, (0, 0, 0, 0)) := by decide +kernel
theorem sm_a183_159 : sm_at 183 159 = some (.aload_n 0, 1, (0, 0, 0, 0)) := by decide +kernel
theorem sm_a183_160 : sm_at 183 160 = some (.getfield 194, 3, (12, 74, 0, 1257)) := by decide +kernel
theorem sm_a183_163 : sm_at 183 163 = some (.iload_n 1, 1, (0, 0, 0, 0)) := by decide +kernel
theorem sm_a183_164 : sm_at 183 164 = some (.iaload, 1, (0, 0, 0, 0)) := by decide +kernel
theorem sm_a183_165 : sm_at 183 165 = some (.aload_n 0, 1, (0, 0, 0, 0)) := by decide +kernel
theorem sm_a183_166 : sm_at 183 166 = some (.getfield 197, 3, (12, 75, 0, 1258)) := by decide +kernel
theorem sm_a183_169 : sm_at 183 169 = some (.iload_n 1, 1, (0, 0, 0, 0)) := by decide +kernel
theorem sm_a183_170 : sm_at 183 170 = some (.iaload, 1, (0, 0, 0, 0)) := by decide +kernel
theorem sm_a183_171 : sm_at 183 171 = some (.if_icmp .eq 9, 3, (0, 0, 0, 0)) := by decide +kernel
theorem sm_a183_174 : sm_at 183 174 = some (.iload 5, 2, (0, 0, 0, 0)) := by decide +kernel
theorem sm_a183_176 : sm_at 183 176 = some (.iload_n 3, 1, (0, 0, 0, 0)) := by decide +kernel
theorem sm_a183_177 : sm_at 183 177 = some (.if_icmp .ge 7, 3, (0, 0, 0, 0)) := by decide +kernel
theorem sm_a183_180 : sm_at 183 180 = some (.iconst 1, 1, (0, 0, 0, 0)) := by decide +kernel
theorem sm_a183_181 : sm_at 183 181 = some (.goto 4, 3, (0, 0, 0, 0)) := by decide +kernel
theorem sm_a183_184 : sm_at 183 184 = some (.iconst 0, 1, (0, 0, 0, 0)) := by decide +kernel
theorem sm_a183_185 : sm_at 183 185 = some (.istore 7, 2, (0, 0, 0, 0)) := by decide +kernel
theorem sm_a183_187 : sm_at 183 187 = some (.aload_n 0, 1, (0, 0, 0, 0)) := by decide +kernel
theorem sm_a183_188 : sm_at 183 188 = some (.iconst 2, 1, (0, 0, 0, 0)) := by decide +kernel
theorem sm_a183_189 : sm_at 183 189 = some (.iconst 0, 1, (0, 0, 0, 0)) := by decide +kernel
theorem sm_a183_190 : sm_at 183 190 = some (.iconst 0, 1, (0, 0, 0, 0)) := by decide +kernel
theorem sm_a183_191 : sm_at 183 191 = some (.iconst 0, 1, (0, 0, 0, 0)) := by decide +kernel
theorem sm_a183_192 : sm_at 183 192 = some (.invokevirtual 349, 3, (10, 178, 12, 1523)) := by decide +kernel
theorem sm_a183_195 : sm_at 183 195 = some (.aload_n 0, 1, (0, 0, 0, 0)) := by decide +kernel
theorem sm_a183_196 : sm_at 183 196 = some (.iload 6, 2, (0, 0, 0, 0)) := by decide +kernel
theorem sm_a183_198 : sm_at 183 198 = some (.putfield 355, 3, (12, 84, 0, 1267)) := by decide +kernel
theorem sm_a183_201 : sm_at 183 201 = some (.iload 7, 2, (0, 0, 0, 0)) := by decide +kernel
theorem sm_a183_203 : sm_at 183 203 = some (.ireturn, 1, (0, 0, 0, 0)) := by decide +kernel
theorem bb_183_0 {d : Nat} {M : sm_M} {Q : Option sm_V → sm_M → Prop} {a0 : Nat} {x1 : Int32} {x2 : Int32} {x3 : Int32} {z4 : Option sm_V} {z5 : Option sm_V} {z6 : Option sm_V} {z7 : Option sm_V} {z8 : Option sm_V} {z9 : Option sm_V} {z10 : Option sm_V}
    (h : sm_K M a0 = 39 ∧ ∃ b_2, sm_R M a0 41 = some b_2 ∧ sm_iA M b_2 ∧ sm_in_ M b_2 (sm_I M a0 50) ∧ ((¬ (sm_I M a0 82) = 11 → ((¬ 0 = x2 → sm_Run d 178 0 (sm_ent 178 [.inr (some a0), .inl 2, .inl 0, .inl 0, .inl 0]) [] M (fun v M1 => sm_Run (d + 1) 183 195 [some (.inr (some a0)), some (.inl x1), some (.inl x2), some (.inl x3), some (.inl (sm_I M a0 50)), some (.inl (sm_I M b_2 (sm_I M a0 50).toNatClampNeg)), some (.inl 0), some (.inl 0), z8, z9, z10] (v.toList ++ []) M1 Q)) ∧ (¬ (¬ 0 = x2) → ∃ b_8, sm_R M a0 75 = some b_8 ∧ sm_iA M b_8 ∧ sm_in_ M b_8 x1 ∧ ∃ b_12, sm_R M a0 74 = some b_12 ∧ sm_iA M b_12 ∧ sm_in_ M b_12 x1 ∧ ((((sm_I M b_8 (x1).toNatClampNeg) - (sm_I M b_12 (x1).toNatClampNeg)) ≤ (sm_I M b_2 (sm_I M a0 50).toNatClampNeg) → sm_Run (d + 1) 183 82 [some (.inr (some a0)), some (.inl x1), some (.inl x2), some (.inl x3), some (.inl (sm_I M a0 50)), some (.inl (sm_I M b_2 (sm_I M a0 50).toNatClampNeg)), some (.inl 1), some (.inl 0), some (.inl ((sm_I M b_8 (x1).toNatClampNeg) - (sm_I M b_12 (x1).toNatClampNeg))), some (.inl ((sm_I M b_8 (x1).toNatClampNeg) - (sm_I M b_12 (x1).toNatClampNeg))), some (.inl 0)] [] M Q) ∧ (¬ (((sm_I M b_8 (x1).toNatClampNeg) - (sm_I M b_12 (x1).toNatClampNeg)) ≤ (sm_I M b_2 (sm_I M a0 50).toNatClampNeg)) → sm_Run (d + 1) 183 82 [some (.inr (some a0)), some (.inl x1), some (.inl x2), some (.inl x3), some (.inl (sm_I M a0 50)), some (.inl (sm_I M b_2 (sm_I M a0 50).toNatClampNeg)), some (.inl 1), some (.inl 0), some (.inl ((sm_I M b_8 (x1).toNatClampNeg) - (sm_I M b_12 (x1).toNatClampNeg))), some (.inl (sm_I M b_2 (sm_I M a0 50).toNatClampNeg)), some (.inl 0)] [] M Q))))) ∧ (¬ (¬ (sm_I M a0 82) = 11) → ((¬ 1 = x2 → sm_Run d 178 0 (sm_ent 178 [.inr (some a0), .inl 2, .inl 0, .inl 0, .inl 0]) [] M (fun v M1 => sm_Run (d + 1) 183 195 [some (.inr (some a0)), some (.inl x1), some (.inl x2), some (.inl x3), some (.inl (sm_I M a0 50)), some (.inl (sm_I M b_2 (sm_I M a0 50).toNatClampNeg)), some (.inl 0), some (.inl 0), z8, z9, z10] (v.toList ++ []) M1 Q)) ∧ (¬ (¬ 1 = x2) → ∃ b_18, sm_R M a0 75 = some b_18 ∧ sm_iA M b_18 ∧ sm_in_ M b_18 x1 ∧ ∃ b_22, sm_R M a0 74 = some b_22 ∧ sm_iA M b_22 ∧ sm_in_ M b_22 x1 ∧ ((((sm_I M b_18 (x1).toNatClampNeg) - (sm_I M b_22 (x1).toNatClampNeg)) ≤ (sm_I M b_2 (sm_I M a0 50).toNatClampNeg) → sm_Run (d + 1) 183 82 [some (.inr (some a0)), some (.inl x1), some (.inl x2), some (.inl x3), some (.inl (sm_I M a0 50)), some (.inl (sm_I M b_2 (sm_I M a0 50).toNatClampNeg)), some (.inl 1), some (.inl 0), some (.inl ((sm_I M b_18 (x1).toNatClampNeg) - (sm_I M b_22 (x1).toNatClampNeg))), some (.inl ((sm_I M b_18 (x1).toNatClampNeg) - (sm_I M b_22 (x1).toNatClampNeg))), some (.inl 0)] [] M Q) ∧ (¬ (((sm_I M b_18 (x1).toNatClampNeg) - (sm_I M b_22 (x1).toNatClampNeg)) ≤ (sm_I M b_2 (sm_I M a0 50).toNatClampNeg)) → sm_Run (d + 1) 183 82 [some (.inr (some a0)), some (.inl x1), some (.inl x2), some (.inl x3), some (.inl (sm_I M a0 50)), some (.inl (sm_I M b_2 (sm_I M a0 50).toNatClampNeg)), some (.inl 1), some (.inl 0), some (.inl ((sm_I M b_18 (x1).toNatClampNeg) - (sm_I M b_22 (x1).toNatClampNeg))), some (.inl (sm_I M b_2 (sm_I M a0 50).toNatClampNeg)), some (.inl 0)] [] M Q))))))) :
    sm_Run (d + 1) 183 0 [some (.inr (some a0)), some (.inl x1), some (.inl x2), some (.inl x3), z4, z5, z6, z7, z8, z9, z10] [] M Q := by
  refine ru_go (t := (1, [some (.inr (some a0)), some (.inl x1), some (.inl x2), some (.inl x3), z4, z5, z6, z7, z8, z9, z10], [.inr (some a0)], M)) sm_a183_0 rfl rfl rfl ?_
  obtain ⟨h_1, h⟩ := h
  refine ru_go (t := (4, [some (.inr (some a0)), some (.inl x1), some (.inl x2), some (.inl x3), z4, z5, z6, z7, z8, z9, z10], [.inl (sm_I M a0 50)], M)) sm_a183_1 rfl rfl (st_getI h_1 rfl) ?_
  refine ru_go (t := (6, [some (.inr (some a0)), some (.inl x1), some (.inl x2), some (.inl x3), some (.inl (sm_I M a0 50)), z5, z6, z7, z8, z9, z10], [], M)) sm_a183_4 rfl rfl rfl ?_
  refine ru_go (t := (7, [some (.inr (some a0)), some (.inl x1), some (.inl x2), some (.inl x3), some (.inl (sm_I M a0 50)), z5, z6, z7, z8, z9, z10], [.inr (some a0)], M)) sm_a183_6 rfl rfl rfl ?_
  refine ru_go (t := (10, [some (.inr (some a0)), some (.inl x1), some (.inl x2), some (.inl x3), some (.inl (sm_I M a0 50)), z5, z6, z7, z8, z9, z10], [.inr (sm_R M a0 41)], M)) sm_a183_7 rfl rfl (st_getR h_1 rfl rfl) ?_
  refine ru_go (t := (12, [some (.inr (some a0)), some (.inl x1), some (.inl x2), some (.inl x3), some (.inl (sm_I M a0 50)), z5, z6, z7, z8, z9, z10], [.inl (sm_I M a0 50), .inr (sm_R M a0 41)], M)) sm_a183_10 rfl rfl rfl ?_
  obtain ⟨b_2, hb_3, h⟩ := h
  rw [hb_3]
  obtain ⟨h_4, h⟩ := h
  obtain ⟨h_5, h⟩ := h
  refine ru_go (t := (13, [some (.inr (some a0)), some (.inl x1), some (.inl x2), some (.inl x3), some (.inl (sm_I M a0 50)), z5, z6, z7, z8, z9, z10], [.inl (sm_I M b_2 (sm_I M a0 50).toNatClampNeg)], M)) sm_a183_12 rfl rfl (st_iald h_4 h_5) ?_
  refine ru_go (t := (15, [some (.inr (some a0)), some (.inl x1), some (.inl x2), some (.inl x3), some (.inl (sm_I M a0 50)), some (.inl (sm_I M b_2 (sm_I M a0 50).toNatClampNeg)), z6, z7, z8, z9, z10], [], M)) sm_a183_13 rfl rfl rfl ?_
  refine ru_go (t := (16, [some (.inr (some a0)), some (.inl x1), some (.inl x2), some (.inl x3), some (.inl (sm_I M a0 50)), some (.inl (sm_I M b_2 (sm_I M a0 50).toNatClampNeg)), z6, z7, z8, z9, z10], [.inr (some a0)], M)) sm_a183_15 rfl rfl rfl ?_
  refine ru_go (t := (19, [some (.inr (some a0)), some (.inl x1), some (.inl x2), some (.inl x3), some (.inl (sm_I M a0 50)), some (.inl (sm_I M b_2 (sm_I M a0 50).toNatClampNeg)), z6, z7, z8, z9, z10], [.inl (sm_I M a0 82)], M)) sm_a183_16 rfl rfl (st_getI h_1 rfl) ?_
  refine ru_go (t := (21, [some (.inr (some a0)), some (.inl x1), some (.inl x2), some (.inl x3), some (.inl (sm_I M a0 50)), some (.inl (sm_I M b_2 (sm_I M a0 50).toNatClampNeg)), z6, z7, z8, z9, z10], [.inl 11, .inl (sm_I M a0 82)], M)) sm_a183_19 rfl rfl (st_bipush (by decide)) ?_
  refine ru_icmp (pc := 21) (p := 28) (p2 := 24) sm_a183_21 (by decide) rfl ⟨fun hc_6 => ?_, fun hc_6 => ?_⟩
  · have h := h.1 hc_6
    refine ru_go (t := (29, [some (.inr (some a0)), some (.inl x1), some (.inl x2), some (.inl x3), some (.inl (sm_I M a0 50)), some (.inl (sm_I M b_2 (sm_I M a0 50).toNatClampNeg)), z6, z7, z8, z9, z10], [.inl 0], M)) sm_a183_28 rfl rfl (st_iconst (by decide)) ?_
    refine ru_go (t := (30, [some (.inr (some a0)), some (.inl x1), some (.inl x2), some (.inl x3), some (.inl (sm_I M a0 50)), some (.inl (sm_I M b_2 (sm_I M a0 50).toNatClampNeg)), z6, z7, z8, z9, z10], [.inl x2, .inl 0], M)) sm_a183_29 rfl rfl rfl ?_
    refine ru_icmp (pc := 30) (p := 37) (p2 := 33) sm_a183_30 (by decide) rfl ⟨fun hc_7 => ?_, fun hc_7 => ?_⟩
    · have h := h.1 hc_7
      refine ru_go (t := (38, [some (.inr (some a0)), some (.inl x1), some (.inl x2), some (.inl x3), some (.inl (sm_I M a0 50)), some (.inl (sm_I M b_2 (sm_I M a0 50).toNatClampNeg)), z6, z7, z8, z9, z10], [.inl 0], M)) sm_a183_37 rfl rfl (st_iconst (by decide)) ?_
      refine ru_go (t := (40, [some (.inr (some a0)), some (.inl x1), some (.inl x2), some (.inl x3), some (.inl (sm_I M a0 50)), some (.inl (sm_I M b_2 (sm_I M a0 50).toNatClampNeg)), some (.inl 0), z7, z8, z9, z10], [], M)) sm_a183_38 rfl rfl rfl ?_
      refine ru_go (t := (41, [some (.inr (some a0)), some (.inl x1), some (.inl x2), some (.inl x3), some (.inl (sm_I M a0 50)), some (.inl (sm_I M b_2 (sm_I M a0 50).toNatClampNeg)), some (.inl 0), z7, z8, z9, z10], [.inl 0], M)) sm_a183_40 rfl rfl (st_iconst (by decide)) ?_
      refine ru_go (t := (43, [some (.inr (some a0)), some (.inl x1), some (.inl x2), some (.inl x3), some (.inl (sm_I M a0 50)), some (.inl (sm_I M b_2 (sm_I M a0 50).toNatClampNeg)), some (.inl 0), some (.inl 0), z8, z9, z10], [], M)) sm_a183_41 rfl rfl rfl ?_
      refine ru_go (t := (45, [some (.inr (some a0)), some (.inl x1), some (.inl x2), some (.inl x3), some (.inl (sm_I M a0 50)), some (.inl (sm_I M b_2 (sm_I M a0 50).toNatClampNeg)), some (.inl 0), some (.inl 0), z8, z9, z10], [.inl 0], M)) sm_a183_43 rfl rfl rfl ?_
      refine ru_if (pc := 45) (p := 187) (p2 := 48) sm_a183_45 (by decide) rfl ⟨fun _ => ?_, fun hc => absurd (show sm_cP .eq 0 0 from (by show (0 : Int32) = 0; decide)) hc⟩
      refine ru_go (t := (188, [some (.inr (some a0)), some (.inl x1), some (.inl x2), some (.inl x3), some (.inl (sm_I M a0 50)), some (.inl (sm_I M b_2 (sm_I M a0 50).toNatClampNeg)), some (.inl 0), some (.inl 0), z8, z9, z10], [.inr (some a0)], M)) sm_a183_187 rfl rfl rfl ?_
      refine ru_go (t := (189, [some (.inr (some a0)), some (.inl x1), some (.inl x2), some (.inl x3), some (.inl (sm_I M a0 50)), some (.inl (sm_I M b_2 (sm_I M a0 50).toNatClampNeg)), some (.inl 0), some (.inl 0), z8, z9, z10], [.inl 2, .inr (some a0)], M)) sm_a183_188 rfl rfl (st_iconst (by decide)) ?_
      refine ru_go (t := (190, [some (.inr (some a0)), some (.inl x1), some (.inl x2), some (.inl x3), some (.inl (sm_I M a0 50)), some (.inl (sm_I M b_2 (sm_I M a0 50).toNatClampNeg)), some (.inl 0), some (.inl 0), z8, z9, z10], [.inl 0, .inl 2, .inr (some a0)], M)) sm_a183_189 rfl rfl (st_iconst (by decide)) ?_
      refine ru_go (t := (191, [some (.inr (some a0)), some (.inl x1), some (.inl x2), some (.inl x3), some (.inl (sm_I M a0 50)), some (.inl (sm_I M b_2 (sm_I M a0 50).toNatClampNeg)), some (.inl 0), some (.inl 0), z8, z9, z10], [.inl 0, .inl 0, .inl 2, .inr (some a0)], M)) sm_a183_190 rfl rfl (st_iconst (by decide)) ?_
      refine ru_go (t := (192, [some (.inr (some a0)), some (.inl x1), some (.inl x2), some (.inl x3), some (.inl (sm_I M a0 50)), some (.inl (sm_I M b_2 (sm_I M a0 50).toNatClampNeg)), some (.inl 0), some (.inl 0), z8, z9, z10], [.inl 0, .inl 0, .inl 0, .inl 2, .inr (some a0)], M)) sm_a183_191 rfl rfl (st_iconst (by decide)) ?_
      exact ru_call (p := 195) sm_a183_192 rfl (sc_virt (Or.inl rfl) rfl rfl h_1 (Nat.le_of_ble_eq_true rfl)) rfl h
    · have h := h.2 hc_7
      refine ru_go (t := (34, [some (.inr (some a0)), some (.inl x1), some (.inl x2), some (.inl x3), some (.inl (sm_I M a0 50)), some (.inl (sm_I M b_2 (sm_I M a0 50).toNatClampNeg)), z6, z7, z8, z9, z10], [.inl 1], M)) sm_a183_33 rfl rfl (st_iconst (by decide)) ?_
      refine ru_go (t := (38, [some (.inr (some a0)), some (.inl x1), some (.inl x2), some (.inl x3), some (.inl (sm_I M a0 50)), some (.inl (sm_I M b_2 (sm_I M a0 50).toNatClampNeg)), z6, z7, z8, z9, z10], [.inl 1], M)) sm_a183_34 rfl rfl (st_goto (pc := 34) (by decide)) ?_
      refine ru_go (t := (40, [some (.inr (some a0)), some (.inl x1), some (.inl x2), some (.inl x3), some (.inl (sm_I M a0 50)), some (.inl (sm_I M b_2 (sm_I M a0 50).toNatClampNeg)), some (.inl 1), z7, z8, z9, z10], [], M)) sm_a183_38 rfl rfl rfl ?_
      refine ru_go (t := (41, [some (.inr (some a0)), some (.inl x1), some (.inl x2), some (.inl x3), some (.inl (sm_I M a0 50)), some (.inl (sm_I M b_2 (sm_I M a0 50).toNatClampNeg)), some (.inl 1), z7, z8, z9, z10], [.inl 0], M)) sm_a183_40 rfl rfl (st_iconst (by decide)) ?_
      refine ru_go (t := (43, [some (.inr (some a0)), some (.inl x1), some (.inl x2), some (.inl x3), some (.inl (sm_I M a0 50)), some (.inl (sm_I M b_2 (sm_I M a0 50).toNatClampNeg)), some (.inl 1), some (.inl 0), z8, z9, z10], [], M)) sm_a183_41 rfl rfl rfl ?_
      refine ru_go (t := (45, [some (.inr (some a0)), some (.inl x1), some (.inl x2), some (.inl x3), some (.inl (sm_I M a0 50)), some (.inl (sm_I M b_2 (sm_I M a0 50).toNatClampNeg)), some (.inl 1), some (.inl 0), z8, z9, z10], [.inl 1], M)) sm_a183_43 rfl rfl rfl ?_
      refine ru_if (pc := 45) (p := 187) (p2 := 48) sm_a183_45 (by decide) rfl ⟨fun hc => absurd (show (1 : Int32) = 0 from hc) (by decide), fun _ => ?_⟩
      refine ru_go (t := (49, [some (.inr (some a0)), some (.inl x1), some (.inl x2), some (.inl x3), some (.inl (sm_I M a0 50)), some (.inl (sm_I M b_2 (sm_I M a0 50).toNatClampNeg)), some (.inl 1), some (.inl 0), z8, z9, z10], [.inr (some a0)], M)) sm_a183_48 rfl rfl rfl ?_
      refine ru_go (t := (52, [some (.inr (some a0)), some (.inl x1), some (.inl x2), some (.inl x3), some (.inl (sm_I M a0 50)), some (.inl (sm_I M b_2 (sm_I M a0 50).toNatClampNeg)), some (.inl 1), some (.inl 0), z8, z9, z10], [.inr (sm_R M a0 75)], M)) sm_a183_49 rfl rfl (st_getR h_1 rfl rfl) ?_
      refine ru_go (t := (53, [some (.inr (some a0)), some (.inl x1), some (.inl x2), some (.inl x3), some (.inl (sm_I M a0 50)), some (.inl (sm_I M b_2 (sm_I M a0 50).toNatClampNeg)), some (.inl 1), some (.inl 0), z8, z9, z10], [.inl x1, .inr (sm_R M a0 75)], M)) sm_a183_52 rfl rfl rfl ?_
      obtain ⟨b_8, hb_9, h⟩ := h
      rw [hb_9]
      obtain ⟨h_10, h⟩ := h
      obtain ⟨h_11, h⟩ := h
      refine ru_go (t := (54, [some (.inr (some a0)), some (.inl x1), some (.inl x2), some (.inl x3), some (.inl (sm_I M a0 50)), some (.inl (sm_I M b_2 (sm_I M a0 50).toNatClampNeg)), some (.inl 1), some (.inl 0), z8, z9, z10], [.inl (sm_I M b_8 (x1).toNatClampNeg)], M)) sm_a183_53 rfl rfl (st_iald h_10 h_11) ?_
      refine ru_go (t := (55, [some (.inr (some a0)), some (.inl x1), some (.inl x2), some (.inl x3), some (.inl (sm_I M a0 50)), some (.inl (sm_I M b_2 (sm_I M a0 50).toNatClampNeg)), some (.inl 1), some (.inl 0), z8, z9, z10], [.inr (some a0), .inl (sm_I M b_8 (x1).toNatClampNeg)], M)) sm_a183_54 rfl rfl rfl ?_
      refine ru_go (t := (58, [some (.inr (some a0)), some (.inl x1), some (.inl x2), some (.inl x3), some (.inl (sm_I M a0 50)), some (.inl (sm_I M b_2 (sm_I M a0 50).toNatClampNeg)), some (.inl 1), some (.inl 0), z8, z9, z10], [.inr (sm_R M a0 74), .inl (sm_I M b_8 (x1).toNatClampNeg)], M)) sm_a183_55 rfl rfl (st_getR h_1 rfl rfl) ?_
      refine ru_go (t := (59, [some (.inr (some a0)), some (.inl x1), some (.inl x2), some (.inl x3), some (.inl (sm_I M a0 50)), some (.inl (sm_I M b_2 (sm_I M a0 50).toNatClampNeg)), some (.inl 1), some (.inl 0), z8, z9, z10], [.inl x1, .inr (sm_R M a0 74), .inl (sm_I M b_8 (x1).toNatClampNeg)], M)) sm_a183_58 rfl rfl rfl ?_
      obtain ⟨b_12, hb_13, h⟩ := h
      rw [hb_13]
      obtain ⟨h_14, h⟩ := h
      obtain ⟨h_15, h⟩ := h
      refine ru_go (t := (60, [some (.inr (some a0)), some (.inl x1), some (.inl x2), some (.inl x3), some (.inl (sm_I M a0 50)), some (.inl (sm_I M b_2 (sm_I M a0 50).toNatClampNeg)), some (.inl 1), some (.inl 0), z8, z9, z10], [.inl (sm_I M b_12 (x1).toNatClampNeg), .inl (sm_I M b_8 (x1).toNatClampNeg)], M)) sm_a183_59 rfl rfl (st_iald h_14 h_15) ?_
      refine ru_go (t := (61, [some (.inr (some a0)), some (.inl x1), some (.inl x2), some (.inl x3), some (.inl (sm_I M a0 50)), some (.inl (sm_I M b_2 (sm_I M a0 50).toNatClampNeg)), some (.inl 1), some (.inl 0), z8, z9, z10], [.inl ((sm_I M b_8 (x1).toNatClampNeg) - (sm_I M b_12 (x1).toNatClampNeg))], M)) sm_a183_60 rfl rfl rfl ?_
      refine ru_go (t := (63, [some (.inr (some a0)), some (.inl x1), some (.inl x2), some (.inl x3), some (.inl (sm_I M a0 50)), some (.inl (sm_I M b_2 (sm_I M a0 50).toNatClampNeg)), some (.inl 1), some (.inl 0), some (.inl ((sm_I M b_8 (x1).toNatClampNeg) - (sm_I M b_12 (x1).toNatClampNeg))), z9, z10], [], M)) sm_a183_61 rfl rfl rfl ?_
      refine ru_go (t := (65, [some (.inr (some a0)), some (.inl x1), some (.inl x2), some (.inl x3), some (.inl (sm_I M a0 50)), some (.inl (sm_I M b_2 (sm_I M a0 50).toNatClampNeg)), some (.inl 1), some (.inl 0), some (.inl ((sm_I M b_8 (x1).toNatClampNeg) - (sm_I M b_12 (x1).toNatClampNeg))), z9, z10], [.inl (sm_I M b_2 (sm_I M a0 50).toNatClampNeg)], M)) sm_a183_63 rfl rfl rfl ?_
      refine ru_go (t := (67, [some (.inr (some a0)), some (.inl x1), some (.inl x2), some (.inl x3), some (.inl (sm_I M a0 50)), some (.inl (sm_I M b_2 (sm_I M a0 50).toNatClampNeg)), some (.inl 1), some (.inl 0), some (.inl ((sm_I M b_8 (x1).toNatClampNeg) - (sm_I M b_12 (x1).toNatClampNeg))), z9, z10], [.inl ((sm_I M b_8 (x1).toNatClampNeg) - (sm_I M b_12 (x1).toNatClampNeg)), .inl (sm_I M b_2 (sm_I M a0 50).toNatClampNeg)], M)) sm_a183_65 rfl rfl rfl ?_
      refine ru_icmp (pc := 67) (p := 75) (p2 := 70) sm_a183_67 (by decide) rfl ⟨fun hc_16 => ?_, fun hc_16 => ?_⟩
      · have h := h.1 hc_16
        refine ru_go (t := (77, [some (.inr (some a0)), some (.inl x1), some (.inl x2), some (.inl x3), some (.inl (sm_I M a0 50)), some (.inl (sm_I M b_2 (sm_I M a0 50).toNatClampNeg)), some (.inl 1), some (.inl 0), some (.inl ((sm_I M b_8 (x1).toNatClampNeg) - (sm_I M b_12 (x1).toNatClampNeg))), z9, z10], [.inl ((sm_I M b_8 (x1).toNatClampNeg) - (sm_I M b_12 (x1).toNatClampNeg))], M)) sm_a183_75 rfl rfl rfl ?_
        refine ru_go (t := (79, [some (.inr (some a0)), some (.inl x1), some (.inl x2), some (.inl x3), some (.inl (sm_I M a0 50)), some (.inl (sm_I M b_2 (sm_I M a0 50).toNatClampNeg)), some (.inl 1), some (.inl 0), some (.inl ((sm_I M b_8 (x1).toNatClampNeg) - (sm_I M b_12 (x1).toNatClampNeg))), some (.inl ((sm_I M b_8 (x1).toNatClampNeg) - (sm_I M b_12 (x1).toNatClampNeg))), z10], [], M)) sm_a183_77 rfl rfl rfl ?_
        refine ru_go (t := (80, [some (.inr (some a0)), some (.inl x1), some (.inl x2), some (.inl x3), some (.inl (sm_I M a0 50)), some (.inl (sm_I M b_2 (sm_I M a0 50).toNatClampNeg)), some (.inl 1), some (.inl 0), some (.inl ((sm_I M b_8 (x1).toNatClampNeg) - (sm_I M b_12 (x1).toNatClampNeg))), some (.inl ((sm_I M b_8 (x1).toNatClampNeg) - (sm_I M b_12 (x1).toNatClampNeg))), z10], [.inl 0], M)) sm_a183_79 rfl rfl (st_iconst (by decide)) ?_
        refine ru_go (t := (82, [some (.inr (some a0)), some (.inl x1), some (.inl x2), some (.inl x3), some (.inl (sm_I M a0 50)), some (.inl (sm_I M b_2 (sm_I M a0 50).toNatClampNeg)), some (.inl 1), some (.inl 0), some (.inl ((sm_I M b_8 (x1).toNatClampNeg) - (sm_I M b_12 (x1).toNatClampNeg))), some (.inl ((sm_I M b_8 (x1).toNatClampNeg) - (sm_I M b_12 (x1).toNatClampNeg))), some (.inl 0)], [], M)) sm_a183_80 rfl rfl rfl ?_
        exact h
      · have h := h.2 hc_16
        refine ru_go (t := (72, [some (.inr (some a0)), some (.inl x1), some (.inl x2), some (.inl x3), some (.inl (sm_I M a0 50)), some (.inl (sm_I M b_2 (sm_I M a0 50).toNatClampNeg)), some (.inl 1), some (.inl 0), some (.inl ((sm_I M b_8 (x1).toNatClampNeg) - (sm_I M b_12 (x1).toNatClampNeg))), z9, z10], [.inl (sm_I M b_2 (sm_I M a0 50).toNatClampNeg)], M)) sm_a183_70 rfl rfl rfl ?_
        refine ru_go (t := (77, [some (.inr (some a0)), some (.inl x1), some (.inl x2), some (.inl x3), some (.inl (sm_I M a0 50)), some (.inl (sm_I M b_2 (sm_I M a0 50).toNatClampNeg)), some (.inl 1), some (.inl 0), some (.inl ((sm_I M b_8 (x1).toNatClampNeg) - (sm_I M b_12 (x1).toNatClampNeg))), z9, z10], [.inl (sm_I M b_2 (sm_I M a0 50).toNatClampNeg)], M)) sm_a183_72 rfl rfl (st_goto (pc := 72) (by decide)) ?_
        refine ru_go (t := (79, [some (.inr (some a0)), some (.inl x1), some (.inl x2), some (.inl x3), some (.inl (sm_I M a0 50)), some (.inl (sm_I M b_2 (sm_I M a0 50).toNatClampNeg)), some (.inl 1), some (.inl 0), some (.inl ((sm_I M b_8 (x1).toNatClampNeg) - (sm_I M b_12 (x1).toNatClampNeg))), some (.inl (sm_I M b_2 (sm_I M a0 50).toNatClampNeg)), z10], [], M)) sm_a183_77 rfl rfl rfl ?_
        refine ru_go (t := (80, [some (.inr (some a0)), some (.inl x1), some (.inl x2), some (.inl x3), some (.inl (sm_I M a0 50)), some (.inl (sm_I M b_2 (sm_I M a0 50).toNatClampNeg)), some (.inl 1), some (.inl 0), some (.inl ((sm_I M b_8 (x1).toNatClampNeg) - (sm_I M b_12 (x1).toNatClampNeg))), some (.inl (sm_I M b_2 (sm_I M a0 50).toNatClampNeg)), z10], [.inl 0], M)) sm_a183_79 rfl rfl (st_iconst (by decide)) ?_
        refine ru_go (t := (82, [some (.inr (some a0)), some (.inl x1), some (.inl x2), some (.inl x3), some (.inl (sm_I M a0 50)), some (.inl (sm_I M b_2 (sm_I M a0 50).toNatClampNeg)), some (.inl 1), some (.inl 0), some (.inl ((sm_I M b_8 (x1).toNatClampNeg) - (sm_I M b_12 (x1).toNatClampNeg))), some (.inl (sm_I M b_2 (sm_I M a0 50).toNatClampNeg)), some (.inl 0)], [], M)) sm_a183_80 rfl rfl rfl ?_
        exact h
  · have h := h.2 hc_6
    refine ru_go (t := (25, [some (.inr (some a0)), some (.inl x1), some (.inl x2), some (.inl x3), some (.inl (sm_I M a0 50)), some (.inl (sm_I M b_2 (sm_I M a0 50).toNatClampNeg)), z6, z7, z8, z9, z10], [.inl 1], M)) sm_a183_24 rfl rfl (st_iconst (by decide)) ?_
    refine ru_go (t := (29, [some (.inr (some a0)), some (.inl x1), some (.inl x2), some (.inl x3), some (.inl (sm_I M a0 50)), some (.inl (sm_I M b_2 (sm_I M a0 50).toNatClampNeg)), z6, z7, z8, z9, z10], [.inl 1], M)) sm_a183_25 rfl rfl (st_goto (pc := 25) (by decide)) ?_
    refine ru_go (t := (30, [some (.inr (some a0)), some (.inl x1), some (.inl x2), some (.inl x3), some (.inl (sm_I M a0 50)), some (.inl (sm_I M b_2 (sm_I M a0 50).toNatClampNeg)), z6, z7, z8, z9, z10], [.inl x2, .inl 1], M)) sm_a183_29 rfl rfl rfl ?_
    refine ru_icmp (pc := 30) (p := 37) (p2 := 33) sm_a183_30 (by decide) rfl ⟨fun hc_17 => ?_, fun hc_17 => ?_⟩
    · have h := h.1 hc_17
      refine ru_go (t := (38, [some (.inr (some a0)), some (.inl x1), some (.inl x2), some (.inl x3), some (.inl (sm_I M a0 50)), some (.inl (sm_I M b_2 (sm_I M a0 50).toNatClampNeg)), z6, z7, z8, z9, z10], [.inl 0], M)) sm_a183_37 rfl rfl (st_iconst (by decide)) ?_
      refine ru_go (t := (40, [some (.inr (some a0)), some (.inl x1), some (.inl x2), some (.inl x3), some (.inl (sm_I M a0 50)), some (.inl (sm_I M b_2 (sm_I M a0 50).toNatClampNeg)), some (.inl 0), z7, z8, z9, z10], [], M)) sm_a183_38 rfl rfl rfl ?_
      refine ru_go (t := (41, [some (.inr (some a0)), some (.inl x1), some (.inl x2), some (.inl x3), some (.inl (sm_I M a0 50)), some (.inl (sm_I M b_2 (sm_I M a0 50).toNatClampNeg)), some (.inl 0), z7, z8, z9, z10], [.inl 0], M)) sm_a183_40 rfl rfl (st_iconst (by decide)) ?_
      refine ru_go (t := (43, [some (.inr (some a0)), some (.inl x1), some (.inl x2), some (.inl x3), some (.inl (sm_I M a0 50)), some (.inl (sm_I M b_2 (sm_I M a0 50).toNatClampNeg)), some (.inl 0), some (.inl 0), z8, z9, z10], [], M)) sm_a183_41 rfl rfl rfl ?_
      refine ru_go (t := (45, [some (.inr (some a0)), some (.inl x1), some (.inl x2), some (.inl x3), some (.inl (sm_I M a0 50)), some (.inl (sm_I M b_2 (sm_I M a0 50).toNatClampNeg)), some (.inl 0), some (.inl 0), z8, z9, z10], [.inl 0], M)) sm_a183_43 rfl rfl rfl ?_
      refine ru_if (pc := 45) (p := 187) (p2 := 48) sm_a183_45 (by decide) rfl ⟨fun _ => ?_, fun hc => absurd (show sm_cP .eq 0 0 from (by show (0 : Int32) = 0; decide)) hc⟩
      refine ru_go (t := (188, [some (.inr (some a0)), some (.inl x1), some (.inl x2), some (.inl x3), some (.inl (sm_I M a0 50)), some (.inl (sm_I M b_2 (sm_I M a0 50).toNatClampNeg)), some (.inl 0), some (.inl 0), z8, z9, z10], [.inr (some a0)], M)) sm_a183_187 rfl rfl rfl ?_
      refine ru_go (t := (189, [some (.inr (some a0)), some (.inl x1), some (.inl x2), some (.inl x3), some (.inl (sm_I M a0 50)), some (.inl (sm_I M b_2 (sm_I M a0 50).toNatClampNeg)), some (.inl 0), some (.inl 0), z8, z9, z10], [.inl 2, .inr (some a0)], M)) sm_a183_188 rfl rfl (st_iconst (by decide)) ?_
      refine ru_go (t := (190, [some (.inr (some a0)), some (.inl x1), some (.inl x2), some (.inl x3), some (.inl (sm_I M a0 50)), some (.inl (sm_I M b_2 (sm_I M a0 50).toNatClampNeg)), some (.inl 0), some (.inl 0), z8, z9, z10], [.inl 0, .inl 2, .inr (some a0)], M)) sm_a183_189 rfl rfl (st_iconst (by decide)) ?_
      refine ru_go (t := (191, [some (.inr (some a0)), some (.inl x1), some (.inl x2), some (.inl x3), some (.inl (sm_I M a0 50)), some (.inl (sm_I M b_2 (sm_I M a0 50).toNatClampNeg)), some (.inl 0), some (.inl 0), z8, z9, z10], [.inl 0, .inl 0, .inl 2, .inr (some a0)], M)) sm_a183_190 rfl rfl (st_iconst (by decide)) ?_
      refine ru_go (t := (192, [some (.inr (some a0)), some (.inl x1), some (.inl x2), some (.inl x3), some (.inl (sm_I M a0 50)), some (.inl (sm_I M b_2 (sm_I M a0 50).toNatClampNeg)), some (.inl 0), some (.inl 0), z8, z9, z10], [.inl 0, .inl 0, .inl 0, .inl 2, .inr (some a0)], M)) sm_a183_191 rfl rfl (st_iconst (by decide)) ?_
      exact ru_call (p := 195) sm_a183_192 rfl (sc_virt (Or.inl rfl) rfl rfl h_1 (Nat.le_of_ble_eq_true rfl)) rfl h
    · have h := h.2 hc_17
      refine ru_go (t := (34, [some (.inr (some a0)), some (.inl x1), some (.inl x2), some (.inl x3), some (.inl (sm_I M a0 50)), some (.inl (sm_I M b_2 (sm_I M a0 50).toNatClampNeg)), z6, z7, z8, z9, z10], [.inl 1], M)) sm_a183_33 rfl rfl (st_iconst (by decide)) ?_
      refine ru_go (t := (38, [some (.inr (some a0)), some (.inl x1), some (.inl x2), some (.inl x3), some (.inl (sm_I M a0 50)), some (.inl (sm_I M b_2 (sm_I M a0 50).toNatClampNeg)), z6, z7, z8, z9, z10], [.inl 1], M)) sm_a183_34 rfl rfl (st_goto (pc := 34) (by decide)) ?_
      refine ru_go (t := (40, [some (.inr (some a0)), some (.inl x1), some (.inl x2), some (.inl x3), some (.inl (sm_I M a0 50)), some (.inl (sm_I M b_2 (sm_I M a0 50).toNatClampNeg)), some (.inl 1), z7, z8, z9, z10], [], M)) sm_a183_38 rfl rfl rfl ?_
      refine ru_go (t := (41, [some (.inr (some a0)), some (.inl x1), some (.inl x2), some (.inl x3), some (.inl (sm_I M a0 50)), some (.inl (sm_I M b_2 (sm_I M a0 50).toNatClampNeg)), some (.inl 1), z7, z8, z9, z10], [.inl 0], M)) sm_a183_40 rfl rfl (st_iconst (by decide)) ?_
      refine ru_go (t := (43, [some (.inr (some a0)), some (.inl x1), some (.inl x2), some (.inl x3), some (.inl (sm_I M a0 50)), some (.inl (sm_I M b_2 (sm_I M a0 50).toNatClampNeg)), some (.inl 1), some (.inl 0), z8, z9, z10], [], M)) sm_a183_41 rfl rfl rfl ?_
      refine ru_go (t := (45, [some (.inr (some a0)), some (.inl x1), some (.inl x2), some (.inl x3), some (.inl (sm_I M a0 50)), some (.inl (sm_I M b_2 (sm_I M a0 50).toNatClampNeg)), some (.inl 1), some (.inl 0), z8, z9, z10], [.inl 1], M)) sm_a183_43 rfl rfl rfl ?_
      refine ru_if (pc := 45) (p := 187) (p2 := 48) sm_a183_45 (by decide) rfl ⟨fun hc => absurd (show (1 : Int32) = 0 from hc) (by decide), fun _ => ?_⟩
      refine ru_go (t := (49, [some (.inr (some a0)), some (.inl x1), some (.inl x2), some (.inl x3), some (.inl (sm_I M a0 50)), some (.inl (sm_I M b_2 (sm_I M a0 50).toNatClampNeg)), some (.inl 1), some (.inl 0), z8, z9, z10], [.inr (some a0)], M)) sm_a183_48 rfl rfl rfl ?_
      refine ru_go (t := (52, [some (.inr (some a0)), some (.inl x1), some (.inl x2), some (.inl x3), some (.inl (sm_I M a0 50)), some (.inl (sm_I M b_2 (sm_I M a0 50).toNatClampNeg)), some (.inl 1), some (.inl 0), z8, z9, z10], [.inr (sm_R M a0 75)], M)) sm_a183_49 rfl rfl (st_getR h_1 rfl rfl) ?_
      refine ru_go (t := (53, [some (.inr (some a0)), some (.inl x1), some (.inl x2), some (.inl x3), some (.inl (sm_I M a0 50)), some (.inl (sm_I M b_2 (sm_I M a0 50).toNatClampNeg)), some (.inl 1), some (.inl 0), z8, z9, z10], [.inl x1, .inr (sm_R M a0 75)], M)) sm_a183_52 rfl rfl rfl ?_
      obtain ⟨b_18, hb_19, h⟩ := h
      rw [hb_19]
      obtain ⟨h_20, h⟩ := h
      obtain ⟨h_21, h⟩ := h
      refine ru_go (t := (54, [some (.inr (some a0)), some (.inl x1), some (.inl x2), some (.inl x3), some (.inl (sm_I M a0 50)), some (.inl (sm_I M b_2 (sm_I M a0 50).toNatClampNeg)), some (.inl 1), some (.inl 0), z8, z9, z10], [.inl (sm_I M b_18 (x1).toNatClampNeg)], M)) sm_a183_53 rfl rfl (st_iald h_20 h_21) ?_
      refine ru_go (t := (55, [some (.inr (some a0)), some (.inl x1), some (.inl x2), some (.inl x3), some (.inl (sm_I M a0 50)), some (.inl (sm_I M b_2 (sm_I M a0 50).toNatClampNeg)), some (.inl 1), some (.inl 0), z8, z9, z10], [.inr (some a0), .inl (sm_I M b_18 (x1).toNatClampNeg)], M)) sm_a183_54 rfl rfl rfl ?_
      refine ru_go (t := (58, [some (.inr (some a0)), some (.inl x1), some (.inl x2), some (.inl x3), some (.inl (sm_I M a0 50)), some (.inl (sm_I M b_2 (sm_I M a0 50).toNatClampNeg)), some (.inl 1), some (.inl 0), z8, z9, z10], [.inr (sm_R M a0 74), .inl (sm_I M b_18 (x1).toNatClampNeg)], M)) sm_a183_55 rfl rfl (st_getR h_1 rfl rfl) ?_
      refine ru_go (t := (59, [some (.inr (some a0)), some (.inl x1), some (.inl x2), some (.inl x3), some (.inl (sm_I M a0 50)), some (.inl (sm_I M b_2 (sm_I M a0 50).toNatClampNeg)), some (.inl 1), some (.inl 0), z8, z9, z10], [.inl x1, .inr (sm_R M a0 74), .inl (sm_I M b_18 (x1).toNatClampNeg)], M)) sm_a183_58 rfl rfl rfl ?_
      obtain ⟨b_22, hb_23, h⟩ := h
      rw [hb_23]
      obtain ⟨h_24, h⟩ := h
      obtain ⟨h_25, h⟩ := h
      refine ru_go (t := (60, [some (.inr (some a0)), some (.inl x1), some (.inl x2), some (.inl x3), some (.inl (sm_I M a0 50)), some (.inl (sm_I M b_2 (sm_I M a0 50).toNatClampNeg)), some (.inl 1), some (.inl 0), z8, z9, z10], [.inl (sm_I M b_22 (x1).toNatClampNeg), .inl (sm_I M b_18 (x1).toNatClampNeg)], M)) sm_a183_59 rfl rfl (st_iald h_24 h_25) ?_
      refine ru_go (t := (61, [some (.inr (some a0)), some (.inl x1), some (.inl x2), some (.inl x3), some (.inl (sm_I M a0 50)), some (.inl (sm_I M b_2 (sm_I M a0 50).toNatClampNeg)), some (.inl 1), some (.inl 0), z8, z9, z10], [.inl ((sm_I M b_18 (x1).toNatClampNeg) - (sm_I M b_22 (x1).toNatClampNeg))], M)) sm_a183_60 rfl rfl rfl ?_
      refine ru_go (t := (63, [some (.inr (some a0)), some (.inl x1), some (.inl x2), some (.inl x3), some (.inl (sm_I M a0 50)), some (.inl (sm_I M b_2 (sm_I M a0 50).toNatClampNeg)), some (.inl 1), some (.inl 0), some (.inl ((sm_I M b_18 (x1).toNatClampNeg) - (sm_I M b_22 (x1).toNatClampNeg))), z9, z10], [], M)) sm_a183_61 rfl rfl rfl ?_
      refine ru_go (t := (65, [some (.inr (some a0)), some (.inl x1), some (.inl x2), some (.inl x3), some (.inl (sm_I M a0 50)), some (.inl (sm_I M b_2 (sm_I M a0 50).toNatClampNeg)), some (.inl 1), some (.inl 0), some (.inl ((sm_I M b_18 (x1).toNatClampNeg) - (sm_I M b_22 (x1).toNatClampNeg))), z9, z10], [.inl (sm_I M b_2 (sm_I M a0 50).toNatClampNeg)], M)) sm_a183_63 rfl rfl rfl ?_
      refine ru_go (t := (67, [some (.inr (some a0)), some (.inl x1), some (.inl x2), some (.inl x3), some (.inl (sm_I M a0 50)), some (.inl (sm_I M b_2 (sm_I M a0 50).toNatClampNeg)), some (.inl 1), some (.inl 0), some (.inl ((sm_I M b_18 (x1).toNatClampNeg) - (sm_I M b_22 (x1).toNatClampNeg))), z9, z10], [.inl ((sm_I M b_18 (x1).toNatClampNeg) - (sm_I M b_22 (x1).toNatClampNeg)), .inl (sm_I M b_2 (sm_I M a0 50).toNatClampNeg)], M)) sm_a183_65 rfl rfl rfl ?_
      refine ru_icmp (pc := 67) (p := 75) (p2 := 70) sm_a183_67 (by decide) rfl ⟨fun hc_26 => ?_, fun hc_26 => ?_⟩
      · have h := h.1 hc_26
        refine ru_go (t := (77, [some (.inr (some a0)), some (.inl x1), some (.inl x2), some (.inl x3), some (.inl (sm_I M a0 50)), some (.inl (sm_I M b_2 (sm_I M a0 50).toNatClampNeg)), some (.inl 1), some (.inl 0), some (.inl ((sm_I M b_18 (x1).toNatClampNeg) - (sm_I M b_22 (x1).toNatClampNeg))), z9, z10], [.inl ((sm_I M b_18 (x1).toNatClampNeg) - (sm_I M b_22 (x1).toNatClampNeg))], M)) sm_a183_75 rfl rfl rfl ?_
        refine ru_go (t := (79, [some (.inr (some a0)), some (.inl x1), some (.inl x2), some (.inl x3), some (.inl (sm_I M a0 50)), some (.inl (sm_I M b_2 (sm_I M a0 50).toNatClampNeg)), some (.inl 1), some (.inl 0), some (.inl ((sm_I M b_18 (x1).toNatClampNeg) - (sm_I M b_22 (x1).toNatClampNeg))), some (.inl ((sm_I M b_18 (x1).toNatClampNeg) - (sm_I M b_22 (x1).toNatClampNeg))), z10], [], M)) sm_a183_77 rfl rfl rfl ?_
        refine ru_go (t := (80, [some (.inr (some a0)), some (.inl x1), some (.inl x2), some (.inl x3), some (.inl (sm_I M a0 50)), some (.inl (sm_I M b_2 (sm_I M a0 50).toNatClampNeg)), some (.inl 1), some (.inl 0), some (.inl ((sm_I M b_18 (x1).toNatClampNeg) - (sm_I M b_22 (x1).toNatClampNeg))), some (.inl ((sm_I M b_18 (x1).toNatClampNeg) - (sm_I M b_22 (x1).toNatClampNeg))), z10], [.inl 0], M)) sm_a183_79 rfl rfl (st_iconst (by decide)) ?_
        refine ru_go (t := (82, [some (.inr (some a0)), some (.inl x1), some (.inl x2), some (.inl x3), some (.inl (sm_I M a0 50)), some (.inl (sm_I M b_2 (sm_I M a0 50).toNatClampNeg)), some (.inl 1), some (.inl 0), some (.inl ((sm_I M b_18 (x1).toNatClampNeg) - (sm_I M b_22 (x1).toNatClampNeg))), some (.inl ((sm_I M b_18 (x1).toNatClampNeg) - (sm_I M b_22 (x1).toNatClampNeg))), some (.inl 0)], [], M)) sm_a183_80 rfl rfl rfl ?_
        exact h
      · have h := h.2 hc_26
        refine ru_go (t := (72, [some (.inr (some a0)), some (.inl x1), some (.inl x2), some (.inl x3), some (.inl (sm_I M a0 50)), some (.inl (sm_I M b_2 (sm_I M a0 50).toNatClampNeg)), some (.inl 1), some (.inl 0), some (.inl ((sm_I M b_18 (x1).toNatClampNeg) - (sm_I M b_22 (x1).toNatClampNeg))), z9, z10], [.inl (sm_I M b_2 (sm_I M a0 50).toNatClampNeg)], M)) sm_a183_70 rfl rfl rfl ?_
        refine ru_go (t := (77, [some (.inr (some a0)), some (.inl x1), some (.inl x2), some (.inl x3), some (.inl (sm_I M a0 50)), some (.inl (sm_I M b_2 (sm_I M a0 50).toNatClampNeg)), some (.inl 1), some (.inl 0), some (.inl ((sm_I M b_18 (x1).toNatClampNeg) - (sm_I M b_22 (x1).toNatClampNeg))), z9, z10], [.inl (sm_I M b_2 (sm_I M a0 50).toNatClampNeg)], M)) sm_a183_72 rfl rfl (st_goto (pc := 72) (by decide)) ?_
        refine ru_go (t := (79, [some (.inr (some a0)), some (.inl x1), some (.inl x2), some (.inl x3), some (.inl (sm_I M a0 50)), some (.inl (sm_I M b_2 (sm_I M a0 50).toNatClampNeg)), some (.inl 1), some (.inl 0), some (.inl ((sm_I M b_18 (x1).toNatClampNeg) - (sm_I M b_22 (x1).toNatClampNeg))), some (.inl (sm_I M b_2 (sm_I M a0 50).toNatClampNeg)), z10], [], M)) sm_a183_77 rfl rfl rfl ?_
        refine ru_go (t := (80, [some (.inr (some a0)), some (.inl x1), some (.inl x2), some (.inl x3), some (.inl (sm_I M a0 50)), some (.inl (sm_I M b_2 (sm_I M a0 50).toNatClampNeg)), some (.inl 1), some (.inl 0), some (.inl ((sm_I M b_18 (x1).toNatClampNeg) - (sm_I M b_22 (x1).toNatClampNeg))), some (.inl (sm_I M b_2 (sm_I M a0 50).toNatClampNeg)), z10], [.inl 0], M)) sm_a183_79 rfl rfl (st_iconst (by decide)) ?_
        refine ru_go (t := (82, [some (.inr (some a0)), some (.inl x1), some (.inl x2), some (.inl x3), some (.inl (sm_I M a0 50)), some (.inl (sm_I M b_2 (sm_I M a0 50).toNatClampNeg)), some (.inl 1), some (.inl 0), some (.inl ((sm_I M b_18 (x1).toNatClampNeg) - (sm_I M b_22 (x1).toNatClampNeg))), some (.inl (sm_I M b_2 (sm_I M a0 50).toNatClampNeg)), some (.inl 0)], [], M)) sm_a183_80 rfl rfl rfl ?_
        exact h
theorem bb_183_82 {d : Nat} {M : sm_M} {Q : Option sm_V → sm_M → Prop} {a0 : Nat} {x1 : Int32} {x2 : Int32} {x3 : Int32} {x4 : Int32} {x5 : Int32} {x6 : Int32} {x7 : Int32} {x8 : Int32} {x9 : Int32} {x10 : Int32}
    (h : ((x9 ≤ x10 → sm_K M a0 = 39 ∧ ∃ b_3, sm_R M a0 74 = some b_3 ∧ sm_iA M b_3 ∧ sm_in_ M b_3 x1 ∧ sm_wA 1 M b_3 ∧ ((x5 ≤ x8 → sm_Run (d + 1) 183 152 [some (.inr (some a0)), some (.inl x1), some (.inl x2), some (.inl x3), some (.inl x4), some (.inl x5), some (.inl x6), some (.inl x7), some (.inl x8), some (.inl x9), some (.inl x10)] [] (sm_putI M b_3 (x1).toNatClampNeg ((sm_I M b_3 (x1).toNatClampNeg) + x9)) Q) ∧ (¬ (x5 ≤ x8) → ∃ b_9, sm_R (sm_putI M b_3 (x1).toNatClampNeg ((sm_I M b_3 (x1).toNatClampNeg) + x9)) a0 73 = some b_9 ∧ sm_wA 1 M b_9 ∧ sm_in_ M b_9 x1 ∧ sm_Run (d + 1) 183 152 [some (.inr (some a0)), some (.inl x1), some (.inl x2), some (.inl x3), some (.inl x4), some (.inl x5), some (.inl x6), some (.inl x7), some (.inl x8), some (.inl x9), some (.inl x10)] [] (sm_putI (sm_putI M b_3 (x1).toNatClampNeg ((sm_I M b_3 (x1).toNatClampNeg) + x9)) b_9 (x1).toNatClampNeg 3) Q))) ∧ (¬ (x9 ≤ x10) → sm_K M a0 = 39 ∧ ∃ b_14, sm_R M a0 74 = some b_14 ∧ sm_iA M b_14 ∧ sm_in_ M b_14 x1 ∧ ∃ b_18, sm_R M a0 42 = some b_18 ∧ sm_iA M b_18 ∧ sm_in_ M b_18 ((100 * x4) + x10) ∧ ∃ b_22, sm_R M a0 81 = some b_22 ∧ sm_wA 1 M b_22 ∧ sm_in_ M b_22 (((100 * x1) + (sm_I M b_14 (x1).toNatClampNeg)) + x10) ∧ sm_Run (d + 1) 183 82 [some (.inr (some a0)), some (.inl x1), some (.inl x2), some (.inl x3), some (.inl x4), some (.inl x5), some (.inl x6), some (.inl x7), some (.inl x8), some (.inl x9), some (.inl (x10 + 1))] [] (sm_putI M b_22 (((100 * x1) + (sm_I M b_14 (x1).toNatClampNeg)) + x10).toNatClampNeg (sm_I M b_18 ((100 * x4) + x10).toNatClampNeg)) Q))) :
    sm_Run (d + 1) 183 82 [some (.inr (some a0)), some (.inl x1), some (.inl x2), some (.inl x3), some (.inl x4), some (.inl x5), some (.inl x6), some (.inl x7), some (.inl x8), some (.inl x9), some (.inl x10)] [] M Q := by
  refine ru_go (t := (84, [some (.inr (some a0)), some (.inl x1), some (.inl x2), some (.inl x3), some (.inl x4), some (.inl x5), some (.inl x6), some (.inl x7), some (.inl x8), some (.inl x9), some (.inl x10)], [.inl x10], M)) sm_a183_82 rfl rfl rfl ?_
  refine ru_go (t := (86, [some (.inr (some a0)), some (.inl x1), some (.inl x2), some (.inl x3), some (.inl x4), some (.inl x5), some (.inl x6), some (.inl x7), some (.inl x8), some (.inl x9), some (.inl x10)], [.inl x9, .inl x10], M)) sm_a183_84 rfl rfl rfl ?_
  refine ru_icmp (pc := 86) (p := 127) (p2 := 89) sm_a183_86 (by decide) rfl ⟨fun hc_1 => ?_, fun hc_1 => ?_⟩
  · have h := h.1 hc_1
    refine ru_go (t := (128, [some (.inr (some a0)), some (.inl x1), some (.inl x2), some (.inl x3), some (.inl x4), some (.inl x5), some (.inl x6), some (.inl x7), some (.inl x8), some (.inl x9), some (.inl x10)], [.inr (some a0)], M)) sm_a183_127 rfl rfl rfl ?_
    obtain ⟨h_2, h⟩ := h
    refine ru_go (t := (131, [some (.inr (some a0)), some (.inl x1), some (.inl x2), some (.inl x3), some (.inl x4), some (.inl x5), some (.inl x6), some (.inl x7), some (.inl x8), some (.inl x9), some (.inl x10)], [.inr (sm_R M a0 74)], M)) sm_a183_128 rfl rfl (st_getR h_2 rfl rfl) ?_
    refine ru_go (t := (132, [some (.inr (some a0)), some (.inl x1), some (.inl x2), some (.inl x3), some (.inl x4), some (.inl x5), some (.inl x6), some (.inl x7), some (.inl x8), some (.inl x9), some (.inl x10)], [.inl x1, .inr (sm_R M a0 74)], M)) sm_a183_131 rfl rfl rfl ?_
    refine ru_go (t := (133, [some (.inr (some a0)), some (.inl x1), some (.inl x2), some (.inl x3), some (.inl x4), some (.inl x5), some (.inl x6), some (.inl x7), some (.inl x8), some (.inl x9), some (.inl x10)], [.inl x1, .inr (sm_R M a0 74), .inl x1, .inr (sm_R M a0 74)], M)) sm_a183_132 rfl rfl rfl ?_
    obtain ⟨b_3, hb_4, h⟩ := h
    rw [hb_4]
    obtain ⟨h_5, h⟩ := h
    obtain ⟨h_6, h⟩ := h
    refine ru_go (t := (134, [some (.inr (some a0)), some (.inl x1), some (.inl x2), some (.inl x3), some (.inl x4), some (.inl x5), some (.inl x6), some (.inl x7), some (.inl x8), some (.inl x9), some (.inl x10)], [.inl (sm_I M b_3 (x1).toNatClampNeg), .inl x1, .inr (some b_3)], M)) sm_a183_133 rfl rfl (st_iald h_5 h_6) ?_
    refine ru_go (t := (136, [some (.inr (some a0)), some (.inl x1), some (.inl x2), some (.inl x3), some (.inl x4), some (.inl x5), some (.inl x6), some (.inl x7), some (.inl x8), some (.inl x9), some (.inl x10)], [.inl x9, .inl (sm_I M b_3 (x1).toNatClampNeg), .inl x1, .inr (some b_3)], M)) sm_a183_134 rfl rfl rfl ?_
    refine ru_go (t := (137, [some (.inr (some a0)), some (.inl x1), some (.inl x2), some (.inl x3), some (.inl x4), some (.inl x5), some (.inl x6), some (.inl x7), some (.inl x8), some (.inl x9), some (.inl x10)], [.inl ((sm_I M b_3 (x1).toNatClampNeg) + x9), .inl x1, .inr (some b_3)], M)) sm_a183_136 rfl rfl rfl ?_
    obtain ⟨h_7, h⟩ := h
    refine ru_go (t := (138, [some (.inr (some a0)), some (.inl x1), some (.inl x2), some (.inl x3), some (.inl x4), some (.inl x5), some (.inl x6), some (.inl x7), some (.inl x8), some (.inl x9), some (.inl x10)], [], sm_putI M b_3 (x1).toNatClampNeg ((sm_I M b_3 (x1).toNatClampNeg) + x9))) sm_a183_137 rfl rfl (st_iast h_7 h_6) ?_
    refine ru_go (t := (140, [some (.inr (some a0)), some (.inl x1), some (.inl x2), some (.inl x3), some (.inl x4), some (.inl x5), some (.inl x6), some (.inl x7), some (.inl x8), some (.inl x9), some (.inl x10)], [.inl x5], sm_putI M b_3 (x1).toNatClampNeg ((sm_I M b_3 (x1).toNatClampNeg) + x9))) sm_a183_138 rfl rfl rfl ?_
    refine ru_go (t := (142, [some (.inr (some a0)), some (.inl x1), some (.inl x2), some (.inl x3), some (.inl x4), some (.inl x5), some (.inl x6), some (.inl x7), some (.inl x8), some (.inl x9), some (.inl x10)], [.inl x8, .inl x5], sm_putI M b_3 (x1).toNatClampNeg ((sm_I M b_3 (x1).toNatClampNeg) + x9))) sm_a183_140 rfl rfl rfl ?_
    refine ru_icmp (pc := 142) (p := 152) (p2 := 145) sm_a183_142 (by decide) rfl ⟨fun hc_8 => ?_, fun hc_8 => ?_⟩
    · have h := h.1 hc_8
      exact h
    · have h := h.2 hc_8
      refine ru_go (t := (146, [some (.inr (some a0)), some (.inl x1), some (.inl x2), some (.inl x3), some (.inl x4), some (.inl x5), some (.inl x6), some (.inl x7), some (.inl x8), some (.inl x9), some (.inl x10)], [.inr (some a0)], sm_putI M b_3 (x1).toNatClampNeg ((sm_I M b_3 (x1).toNatClampNeg) + x9))) sm_a183_145 rfl rfl rfl ?_
      refine ru_go (t := (149, [some (.inr (some a0)), some (.inl x1), some (.inl x2), some (.inl x3), some (.inl x4), some (.inl x5), some (.inl x6), some (.inl x7), some (.inl x8), some (.inl x9), some (.inl x10)], [.inr (sm_R (sm_putI M b_3 (x1).toNatClampNeg ((sm_I M b_3 (x1).toNatClampNeg) + x9)) a0 73)], sm_putI M b_3 (x1).toNatClampNeg ((sm_I M b_3 (x1).toNatClampNeg) + x9))) sm_a183_146 rfl rfl (st_getR h_2 rfl rfl) ?_
      refine ru_go (t := (150, [some (.inr (some a0)), some (.inl x1), some (.inl x2), some (.inl x3), some (.inl x4), some (.inl x5), some (.inl x6), some (.inl x7), some (.inl x8), some (.inl x9), some (.inl x10)], [.inl x1, .inr (sm_R (sm_putI M b_3 (x1).toNatClampNeg ((sm_I M b_3 (x1).toNatClampNeg) + x9)) a0 73)], sm_putI M b_3 (x1).toNatClampNeg ((sm_I M b_3 (x1).toNatClampNeg) + x9))) sm_a183_149 rfl rfl rfl ?_
      refine ru_go (t := (151, [some (.inr (some a0)), some (.inl x1), some (.inl x2), some (.inl x3), some (.inl x4), some (.inl x5), some (.inl x6), some (.inl x7), some (.inl x8), some (.inl x9), some (.inl x10)], [.inl 3, .inl x1, .inr (sm_R (sm_putI M b_3 (x1).toNatClampNeg ((sm_I M b_3 (x1).toNatClampNeg) + x9)) a0 73)], sm_putI M b_3 (x1).toNatClampNeg ((sm_I M b_3 (x1).toNatClampNeg) + x9))) sm_a183_150 rfl rfl (st_iconst (by decide)) ?_
      obtain ⟨b_9, hb_10, h⟩ := h
      rw [hb_10]
      obtain ⟨h_11, h⟩ := h
      obtain ⟨h_12, h⟩ := h
      refine ru_go (t := (152, [some (.inr (some a0)), some (.inl x1), some (.inl x2), some (.inl x3), some (.inl x4), some (.inl x5), some (.inl x6), some (.inl x7), some (.inl x8), some (.inl x9), some (.inl x10)], [], sm_putI (sm_putI M b_3 (x1).toNatClampNeg ((sm_I M b_3 (x1).toNatClampNeg) + x9)) b_9 (x1).toNatClampNeg 3)) sm_a183_151 rfl rfl (st_iast h_11 h_12) ?_
      exact h
  · have h := h.2 hc_1
    refine ru_go (t := (90, [some (.inr (some a0)), some (.inl x1), some (.inl x2), some (.inl x3), some (.inl x4), some (.inl x5), some (.inl x6), some (.inl x7), some (.inl x8), some (.inl x9), some (.inl x10)], [.inr (some a0)], M)) sm_a183_89 rfl rfl rfl ?_
    obtain ⟨h_13, h⟩ := h
    refine ru_go (t := (93, [some (.inr (some a0)), some (.inl x1), some (.inl x2), some (.inl x3), some (.inl x4), some (.inl x5), some (.inl x6), some (.inl x7), some (.inl x8), some (.inl x9), some (.inl x10)], [.inr (sm_R M a0 81)], M)) sm_a183_90 rfl rfl (st_getR h_13 rfl rfl) ?_
    refine ru_go (t := (95, [some (.inr (some a0)), some (.inl x1), some (.inl x2), some (.inl x3), some (.inl x4), some (.inl x5), some (.inl x6), some (.inl x7), some (.inl x8), some (.inl x9), some (.inl x10)], [.inl 100, .inr (sm_R M a0 81)], M)) sm_a183_93 rfl rfl (st_bipush (by decide)) ?_
    refine ru_go (t := (96, [some (.inr (some a0)), some (.inl x1), some (.inl x2), some (.inl x3), some (.inl x4), some (.inl x5), some (.inl x6), some (.inl x7), some (.inl x8), some (.inl x9), some (.inl x10)], [.inl x1, .inl 100, .inr (sm_R M a0 81)], M)) sm_a183_95 rfl rfl rfl ?_
    refine ru_go (t := (97, [some (.inr (some a0)), some (.inl x1), some (.inl x2), some (.inl x3), some (.inl x4), some (.inl x5), some (.inl x6), some (.inl x7), some (.inl x8), some (.inl x9), some (.inl x10)], [.inl (100 * x1), .inr (sm_R M a0 81)], M)) sm_a183_96 rfl rfl rfl ?_
    refine ru_go (t := (98, [some (.inr (some a0)), some (.inl x1), some (.inl x2), some (.inl x3), some (.inl x4), some (.inl x5), some (.inl x6), some (.inl x7), some (.inl x8), some (.inl x9), some (.inl x10)], [.inr (some a0), .inl (100 * x1), .inr (sm_R M a0 81)], M)) sm_a183_97 rfl rfl rfl ?_
    refine ru_go (t := (101, [some (.inr (some a0)), some (.inl x1), some (.inl x2), some (.inl x3), some (.inl x4), some (.inl x5), some (.inl x6), some (.inl x7), some (.inl x8), some (.inl x9), some (.inl x10)], [.inr (sm_R M a0 74), .inl (100 * x1), .inr (sm_R M a0 81)], M)) sm_a183_98 rfl rfl (st_getR h_13 rfl rfl) ?_
    refine ru_go (t := (102, [some (.inr (some a0)), some (.inl x1), some (.inl x2), some (.inl x3), some (.inl x4), some (.inl x5), some (.inl x6), some (.inl x7), some (.inl x8), some (.inl x9), some (.inl x10)], [.inl x1, .inr (sm_R M a0 74), .inl (100 * x1), .inr (sm_R M a0 81)], M)) sm_a183_101 rfl rfl rfl ?_
    obtain ⟨b_14, hb_15, h⟩ := h
    rw [hb_15]
    obtain ⟨h_16, h⟩ := h
    obtain ⟨h_17, h⟩ := h
    refine ru_go (t := (103, [some (.inr (some a0)), some (.inl x1), some (.inl x2), some (.inl x3), some (.inl x4), some (.inl x5), some (.inl x6), some (.inl x7), some (.inl x8), some (.inl x9), some (.inl x10)], [.inl (sm_I M b_14 (x1).toNatClampNeg), .inl (100 * x1), .inr (sm_R M a0 81)], M)) sm_a183_102 rfl rfl (st_iald h_16 h_17) ?_
    refine ru_go (t := (104, [some (.inr (some a0)), some (.inl x1), some (.inl x2), some (.inl x3), some (.inl x4), some (.inl x5), some (.inl x6), some (.inl x7), some (.inl x8), some (.inl x9), some (.inl x10)], [.inl ((100 * x1) + (sm_I M b_14 (x1).toNatClampNeg)), .inr (sm_R M a0 81)], M)) sm_a183_103 rfl rfl rfl ?_
    refine ru_go (t := (106, [some (.inr (some a0)), some (.inl x1), some (.inl x2), some (.inl x3), some (.inl x4), some (.inl x5), some (.inl x6), some (.inl x7), some (.inl x8), some (.inl x9), some (.inl x10)], [.inl x10, .inl ((100 * x1) + (sm_I M b_14 (x1).toNatClampNeg)), .inr (sm_R M a0 81)], M)) sm_a183_104 rfl rfl rfl ?_
    refine ru_go (t := (107, [some (.inr (some a0)), some (.inl x1), some (.inl x2), some (.inl x3), some (.inl x4), some (.inl x5), some (.inl x6), some (.inl x7), some (.inl x8), some (.inl x9), some (.inl x10)], [.inl (((100 * x1) + (sm_I M b_14 (x1).toNatClampNeg)) + x10), .inr (sm_R M a0 81)], M)) sm_a183_106 rfl rfl rfl ?_
    refine ru_go (t := (108, [some (.inr (some a0)), some (.inl x1), some (.inl x2), some (.inl x3), some (.inl x4), some (.inl x5), some (.inl x6), some (.inl x7), some (.inl x8), some (.inl x9), some (.inl x10)], [.inr (some a0), .inl (((100 * x1) + (sm_I M b_14 (x1).toNatClampNeg)) + x10), .inr (sm_R M a0 81)], M)) sm_a183_107 rfl rfl rfl ?_
    refine ru_go (t := (111, [some (.inr (some a0)), some (.inl x1), some (.inl x2), some (.inl x3), some (.inl x4), some (.inl x5), some (.inl x6), some (.inl x7), some (.inl x8), some (.inl x9), some (.inl x10)], [.inr (sm_R M a0 42), .inl (((100 * x1) + (sm_I M b_14 (x1).toNatClampNeg)) + x10), .inr (sm_R M a0 81)], M)) sm_a183_108 rfl rfl (st_getR h_13 rfl rfl) ?_
    refine ru_go (t := (113, [some (.inr (some a0)), some (.inl x1), some (.inl x2), some (.inl x3), some (.inl x4), some (.inl x5), some (.inl x6), some (.inl x7), some (.inl x8), some (.inl x9), some (.inl x10)], [.inl 100, .inr (sm_R M a0 42), .inl (((100 * x1) + (sm_I M b_14 (x1).toNatClampNeg)) + x10), .inr (sm_R M a0 81)], M)) sm_a183_111 rfl rfl (st_bipush (by decide)) ?_
    refine ru_go (t := (115, [some (.inr (some a0)), some (.inl x1), some (.inl x2), some (.inl x3), some (.inl x4), some (.inl x5), some (.inl x6), some (.inl x7), some (.inl x8), some (.inl x9), some (.inl x10)], [.inl x4, .inl 100, .inr (sm_R M a0 42), .inl (((100 * x1) + (sm_I M b_14 (x1).toNatClampNeg)) + x10), .inr (sm_R M a0 81)], M)) sm_a183_113 rfl rfl rfl ?_
    refine ru_go (t := (116, [some (.inr (some a0)), some (.inl x1), some (.inl x2), some (.inl x3), some (.inl x4), some (.inl x5), some (.inl x6), some (.inl x7), some (.inl x8), some (.inl x9), some (.inl x10)], [.inl (100 * x4), .inr (sm_R M a0 42), .inl (((100 * x1) + (sm_I M b_14 (x1).toNatClampNeg)) + x10), .inr (sm_R M a0 81)], M)) sm_a183_115 rfl rfl rfl ?_
    refine ru_go (t := (118, [some (.inr (some a0)), some (.inl x1), some (.inl x2), some (.inl x3), some (.inl x4), some (.inl x5), some (.inl x6), some (.inl x7), some (.inl x8), some (.inl x9), some (.inl x10)], [.inl x10, .inl (100 * x4), .inr (sm_R M a0 42), .inl (((100 * x1) + (sm_I M b_14 (x1).toNatClampNeg)) + x10), .inr (sm_R M a0 81)], M)) sm_a183_116 rfl rfl rfl ?_
    refine ru_go (t := (119, [some (.inr (some a0)), some (.inl x1), some (.inl x2), some (.inl x3), some (.inl x4), some (.inl x5), some (.inl x6), some (.inl x7), some (.inl x8), some (.inl x9), some (.inl x10)], [.inl ((100 * x4) + x10), .inr (sm_R M a0 42), .inl (((100 * x1) + (sm_I M b_14 (x1).toNatClampNeg)) + x10), .inr (sm_R M a0 81)], M)) sm_a183_118 rfl rfl rfl ?_
    obtain ⟨b_18, hb_19, h⟩ := h
    rw [hb_19]
    obtain ⟨h_20, h⟩ := h
    obtain ⟨h_21, h⟩ := h
    refine ru_go (t := (120, [some (.inr (some a0)), some (.inl x1), some (.inl x2), some (.inl x3), some (.inl x4), some (.inl x5), some (.inl x6), some (.inl x7), some (.inl x8), some (.inl x9), some (.inl x10)], [.inl (sm_I M b_18 ((100 * x4) + x10).toNatClampNeg), .inl (((100 * x1) + (sm_I M b_14 (x1).toNatClampNeg)) + x10), .inr (sm_R M a0 81)], M)) sm_a183_119 rfl rfl (st_iald h_20 h_21) ?_
    obtain ⟨b_22, hb_23, h⟩ := h
    rw [hb_23]
    obtain ⟨h_24, h⟩ := h
    obtain ⟨h_25, h⟩ := h
    refine ru_go (t := (121, [some (.inr (some a0)), some (.inl x1), some (.inl x2), some (.inl x3), some (.inl x4), some (.inl x5), some (.inl x6), some (.inl x7), some (.inl x8), some (.inl x9), some (.inl x10)], [], sm_putI M b_22 (((100 * x1) + (sm_I M b_14 (x1).toNatClampNeg)) + x10).toNatClampNeg (sm_I M b_18 ((100 * x4) + x10).toNatClampNeg))) sm_a183_120 rfl rfl (st_iast h_24 h_25) ?_
    refine ru_go (t := (124, [some (.inr (some a0)), some (.inl x1), some (.inl x2), some (.inl x3), some (.inl x4), some (.inl x5), some (.inl x6), some (.inl x7), some (.inl x8), some (.inl x9), some (.inl (x10 + 1))], [], sm_putI M b_22 (((100 * x1) + (sm_I M b_14 (x1).toNatClampNeg)) + x10).toNatClampNeg (sm_I M b_18 ((100 * x4) + x10).toNatClampNeg))) sm_a183_121 rfl rfl (st_iinc rfl (by decide)) ?_
    refine ru_go (t := (82, [some (.inr (some a0)), some (.inl x1), some (.inl x2), some (.inl x3), some (.inl x4), some (.inl x5), some (.inl x6), some (.inl x7), some (.inl x8), some (.inl x9), some (.inl (x10 + 1))], [], sm_putI M b_22 (((100 * x1) + (sm_I M b_14 (x1).toNatClampNeg)) + x10).toNatClampNeg (sm_I M b_18 ((100 * x4) + x10).toNatClampNeg))) sm_a183_124 rfl rfl (st_goto (pc := 124) (by decide)) ?_
    exact h
theorem bb_183_152 {d : Nat} {M : sm_M} {Q : Option sm_V → sm_M → Prop} {a0 : Nat} {x1 : Int32} {x2 : Int32} {x3 : Int32} {x4 : Int32} {x5 : Int32} {x6 : Int32} {x7 : Int32} {x8 : Int32} {x9 : Int32} {x10 : Int32}
    (h : ((x8 < x5 → sm_Run (d + 1) 183 184 [some (.inr (some a0)), some (.inl x1), some (.inl x2), some (.inl x3), some (.inl x4), some (.inl x5), some (.inl x6), some (.inl x7), some (.inl x8), some (.inl x9), some (.inl x10)] [] M Q) ∧ (¬ (x8 < x5) → sm_K M a0 = 39 ∧ ∃ b_3, sm_R M a0 74 = some b_3 ∧ sm_iA M b_3 ∧ sm_in_ M b_3 x1 ∧ ∃ b_7, sm_R M a0 75 = some b_7 ∧ sm_iA M b_7 ∧ sm_in_ M b_7 x1 ∧ (((sm_I M b_3 (x1).toNatClampNeg) = (sm_I M b_7 (x1).toNatClampNeg) → sm_Run (d + 1) 183 180 [some (.inr (some a0)), some (.inl x1), some (.inl x2), some (.inl x3), some (.inl x4), some (.inl x5), some (.inl x6), some (.inl x7), some (.inl x8), some (.inl x9), some (.inl x10)] [] M Q) ∧ (¬ ((sm_I M b_3 (x1).toNatClampNeg) = (sm_I M b_7 (x1).toNatClampNeg)) → ((x3 ≤ x5 → sm_Run (d + 1) 183 184 [some (.inr (some a0)), some (.inl x1), some (.inl x2), some (.inl x3), some (.inl x4), some (.inl x5), some (.inl x6), some (.inl x7), some (.inl x8), some (.inl x9), some (.inl x10)] [] M Q) ∧ (¬ (x3 ≤ x5) → sm_Run (d + 1) 183 180 [some (.inr (some a0)), some (.inl x1), some (.inl x2), some (.inl x3), some (.inl x4), some (.inl x5), some (.inl x6), some (.inl x7), some (.inl x8), some (.inl x9), some (.inl x10)] [] M Q))))))) :
    sm_Run (d + 1) 183 152 [some (.inr (some a0)), some (.inl x1), some (.inl x2), some (.inl x3), some (.inl x4), some (.inl x5), some (.inl x6), some (.inl x7), some (.inl x8), some (.inl x9), some (.inl x10)] [] M Q := by
  refine ru_go (t := (154, [some (.inr (some a0)), some (.inl x1), some (.inl x2), some (.inl x3), some (.inl x4), some (.inl x5), some (.inl x6), some (.inl x7), some (.inl x8), some (.inl x9), some (.inl x10)], [.inl x5], M)) sm_a183_152 rfl rfl rfl ?_
  refine ru_go (t := (156, [some (.inr (some a0)), some (.inl x1), some (.inl x2), some (.inl x3), some (.inl x4), some (.inl x5), some (.inl x6), some (.inl x7), some (.inl x8), some (.inl x9), some (.inl x10)], [.inl x8, .inl x5], M)) sm_a183_154 rfl rfl rfl ?_
  refine ru_icmp (pc := 156) (p := 184) (p2 := 159) sm_a183_156 (by decide) rfl ⟨fun hc_1 => ?_, fun hc_1 => ?_⟩
  · have h := h.1 hc_1
    exact h
  · have h := h.2 hc_1
    refine ru_go (t := (160, [some (.inr (some a0)), some (.inl x1), some (.inl x2), some (.inl x3), some (.inl x4), some (.inl x5), some (.inl x6), some (.inl x7), some (.inl x8), some (.inl x9), some (.inl x10)], [.inr (some a0)], M)) sm_a183_159 rfl rfl rfl ?_
    obtain ⟨h_2, h⟩ := h
    refine ru_go (t := (163, [some (.inr (some a0)), some (.inl x1), some (.inl x2), some (.inl x3), some (.inl x4), some (.inl x5), some (.inl x6), some (.inl x7), some (.inl x8), some (.inl x9), some (.inl x10)], [.inr (sm_R M a0 74)], M)) sm_a183_160 rfl rfl (st_getR h_2 rfl rfl) ?_
    refine ru_go (t := (164, [some (.inr (some a0)), some (.inl x1), some (.inl x2), some (.inl x3), some (.inl x4), some (.inl x5), some (.inl x6), some (.inl x7), some (.inl x8), some (.inl x9), some (.inl x10)], [.inl x1, .inr (sm_R M a0 74)], M)) sm_a183_163 rfl rfl rfl ?_
    obtain ⟨b_3, hb_4, h⟩ := h
    rw [hb_4]
    obtain ⟨h_5, h⟩ := h
    obtain ⟨h_6, h⟩ := h
    refine ru_go (t := (165, [some (.inr (some a0)), some (.inl x1), some (.inl x2), some (.inl x3), some (.inl x4), some (.inl x5), some (.inl x6), some (.inl x7), some (.inl x8), some (.inl x9), some (.inl x10)], [.inl (sm_I M b_3 (x1).toNatClampNeg)], M)) sm_a183_164 rfl rfl (st_iald h_5 h_6) ?_
    refine ru_go (t := (166, [some (.inr (some a0)), some (.inl x1), some (.inl x2), some (.inl x3), some (.inl x4), some (.inl x5), some (.inl x6), some (.inl x7), some (.inl x8), some (.inl x9), some (.inl x10)], [.inr (some a0), .inl (sm_I M b_3 (x1).toNatClampNeg)], M)) sm_a183_165 rfl rfl rfl ?_
    refine ru_go (t := (169, [some (.inr (some a0)), some (.inl x1), some (.inl x2), some (.inl x3), some (.inl x4), some (.inl x5), some (.inl x6), some (.inl x7), some (.inl x8), some (.inl x9), some (.inl x10)], [.inr (sm_R M a0 75), .inl (sm_I M b_3 (x1).toNatClampNeg)], M)) sm_a183_166 rfl rfl (st_getR h_2 rfl rfl) ?_
    refine ru_go (t := (170, [some (.inr (some a0)), some (.inl x1), some (.inl x2), some (.inl x3), some (.inl x4), some (.inl x5), some (.inl x6), some (.inl x7), some (.inl x8), some (.inl x9), some (.inl x10)], [.inl x1, .inr (sm_R M a0 75), .inl (sm_I M b_3 (x1).toNatClampNeg)], M)) sm_a183_169 rfl rfl rfl ?_
    obtain ⟨b_7, hb_8, h⟩ := h
    rw [hb_8]
    obtain ⟨h_9, h⟩ := h
    obtain ⟨h_10, h⟩ := h
    refine ru_go (t := (171, [some (.inr (some a0)), some (.inl x1), some (.inl x2), some (.inl x3), some (.inl x4), some (.inl x5), some (.inl x6), some (.inl x7), some (.inl x8), some (.inl x9), some (.inl x10)], [.inl (sm_I M b_7 (x1).toNatClampNeg), .inl (sm_I M b_3 (x1).toNatClampNeg)], M)) sm_a183_170 rfl rfl (st_iald h_9 h_10) ?_
    refine ru_icmp (pc := 171) (p := 180) (p2 := 174) sm_a183_171 (by decide) rfl ⟨fun hc_11 => ?_, fun hc_11 => ?_⟩
    · have h := h.1 hc_11
      exact h
    · have h := h.2 hc_11
      refine ru_go (t := (176, [some (.inr (some a0)), some (.inl x1), some (.inl x2), some (.inl x3), some (.inl x4), some (.inl x5), some (.inl x6), some (.inl x7), some (.inl x8), some (.inl x9), some (.inl x10)], [.inl x5], M)) sm_a183_174 rfl rfl rfl ?_
      refine ru_go (t := (177, [some (.inr (some a0)), some (.inl x1), some (.inl x2), some (.inl x3), some (.inl x4), some (.inl x5), some (.inl x6), some (.inl x7), some (.inl x8), some (.inl x9), some (.inl x10)], [.inl x3, .inl x5], M)) sm_a183_176 rfl rfl rfl ?_
      refine ru_icmp (pc := 177) (p := 184) (p2 := 180) sm_a183_177 (by decide) rfl ⟨fun hc_12 => ?_, fun hc_12 => ?_⟩
      · have h := h.1 hc_12
        exact h
      · have h := h.2 hc_12
        exact h
theorem bb_183_180 {d : Nat} {M : sm_M} {Q : Option sm_V → sm_M → Prop} {a0 : Nat} {x1 : Int32} {x2 : Int32} {x3 : Int32} {x4 : Int32} {x5 : Int32} {x6 : Int32} {x7 : Int32} {x8 : Int32} {x9 : Int32} {x10 : Int32}
    (h : sm_K M a0 = 39 ∧ sm_Run d 178 0 (sm_ent 178 [.inr (some a0), .inl 2, .inl 0, .inl 0, .inl 0]) [] M (fun v M1 => sm_Run (d + 1) 183 195 [some (.inr (some a0)), some (.inl x1), some (.inl x2), some (.inl x3), some (.inl x4), some (.inl x5), some (.inl x6), some (.inl 1), some (.inl x8), some (.inl x9), some (.inl x10)] (v.toList ++ []) M1 Q)) :
    sm_Run (d + 1) 183 180 [some (.inr (some a0)), some (.inl x1), some (.inl x2), some (.inl x3), some (.inl x4), some (.inl x5), some (.inl x6), some (.inl x7), some (.inl x8), some (.inl x9), some (.inl x10)] [] M Q := by
  refine ru_go (t := (181, [some (.inr (some a0)), some (.inl x1), some (.inl x2), some (.inl x3), some (.inl x4), some (.inl x5), some (.inl x6), some (.inl x7), some (.inl x8), some (.inl x9), some (.inl x10)], [.inl 1], M)) sm_a183_180 rfl rfl (st_iconst (by decide)) ?_
  refine ru_go (t := (185, [some (.inr (some a0)), some (.inl x1), some (.inl x2), some (.inl x3), some (.inl x4), some (.inl x5), some (.inl x6), some (.inl x7), some (.inl x8), some (.inl x9), some (.inl x10)], [.inl 1], M)) sm_a183_181 rfl rfl (st_goto (pc := 181) (by decide)) ?_
  refine ru_go (t := (187, [some (.inr (some a0)), some (.inl x1), some (.inl x2), some (.inl x3), some (.inl x4), some (.inl x5), some (.inl x6), some (.inl 1), some (.inl x8), some (.inl x9), some (.inl x10)], [], M)) sm_a183_185 rfl rfl rfl ?_
  refine ru_go (t := (188, [some (.inr (some a0)), some (.inl x1), some (.inl x2), some (.inl x3), some (.inl x4), some (.inl x5), some (.inl x6), some (.inl 1), some (.inl x8), some (.inl x9), some (.inl x10)], [.inr (some a0)], M)) sm_a183_187 rfl rfl rfl ?_
  refine ru_go (t := (189, [some (.inr (some a0)), some (.inl x1), some (.inl x2), some (.inl x3), some (.inl x4), some (.inl x5), some (.inl x6), some (.inl 1), some (.inl x8), some (.inl x9), some (.inl x10)], [.inl 2, .inr (some a0)], M)) sm_a183_188 rfl rfl (st_iconst (by decide)) ?_
  refine ru_go (t := (190, [some (.inr (some a0)), some (.inl x1), some (.inl x2), some (.inl x3), some (.inl x4), some (.inl x5), some (.inl x6), some (.inl 1), some (.inl x8), some (.inl x9), some (.inl x10)], [.inl 0, .inl 2, .inr (some a0)], M)) sm_a183_189 rfl rfl (st_iconst (by decide)) ?_
  refine ru_go (t := (191, [some (.inr (some a0)), some (.inl x1), some (.inl x2), some (.inl x3), some (.inl x4), some (.inl x5), some (.inl x6), some (.inl 1), some (.inl x8), some (.inl x9), some (.inl x10)], [.inl 0, .inl 0, .inl 2, .inr (some a0)], M)) sm_a183_190 rfl rfl (st_iconst (by decide)) ?_
  refine ru_go (t := (192, [some (.inr (some a0)), some (.inl x1), some (.inl x2), some (.inl x3), some (.inl x4), some (.inl x5), some (.inl x6), some (.inl 1), some (.inl x8), some (.inl x9), some (.inl x10)], [.inl 0, .inl 0, .inl 0, .inl 2, .inr (some a0)], M)) sm_a183_191 rfl rfl (st_iconst (by decide)) ?_
  obtain ⟨h_1, h⟩ := h
  exact ru_call (p := 195) sm_a183_192 rfl (sc_virt (Or.inl rfl) rfl rfl h_1 (Nat.le_of_ble_eq_true rfl)) rfl h
theorem bb_183_184 {d : Nat} {M : sm_M} {Q : Option sm_V → sm_M → Prop} {a0 : Nat} {x1 : Int32} {x2 : Int32} {x3 : Int32} {x4 : Int32} {x5 : Int32} {x6 : Int32} {x7 : Int32} {x8 : Int32} {x9 : Int32} {x10 : Int32}
    (h : sm_K M a0 = 39 ∧ sm_Run d 178 0 (sm_ent 178 [.inr (some a0), .inl 2, .inl 0, .inl 0, .inl 0]) [] M (fun v M1 => sm_Run (d + 1) 183 195 [some (.inr (some a0)), some (.inl x1), some (.inl x2), some (.inl x3), some (.inl x4), some (.inl x5), some (.inl x6), some (.inl 0), some (.inl x8), some (.inl x9), some (.inl x10)] (v.toList ++ []) M1 Q)) :
    sm_Run (d + 1) 183 184 [some (.inr (some a0)), some (.inl x1), some (.inl x2), some (.inl x3), some (.inl x4), some (.inl x5), some (.inl x6), some (.inl x7), some (.inl x8), some (.inl x9), some (.inl x10)] [] M Q := by
  refine ru_go (t := (185, [some (.inr (some a0)), some (.inl x1), some (.inl x2), some (.inl x3), some (.inl x4), some (.inl x5), some (.inl x6), some (.inl x7), some (.inl x8), some (.inl x9), some (.inl x10)], [.inl 0], M)) sm_a183_184 rfl rfl (st_iconst (by decide)) ?_
  refine ru_go (t := (187, [some (.inr (some a0)), some (.inl x1), some (.inl x2), some (.inl x3), some (.inl x4), some (.inl x5), some (.inl x6), some (.inl 0), some (.inl x8), some (.inl x9), some (.inl x10)], [], M)) sm_a183_185 rfl rfl rfl ?_
  refine ru_go (t := (188, [some (.inr (some a0)), some (.inl x1), some (.inl x2), some (.inl x3), some (.inl x4), some (.inl x5), some (.inl x6), some (.inl 0), some (.inl x8), some (.inl x9), some (.inl x10)], [.inr (some a0)], M)) sm_a183_187 rfl rfl rfl ?_
  refine ru_go (t := (189, [some (.inr (some a0)), some (.inl x1), some (.inl x2), some (.inl x3), some (.inl x4), some (.inl x5), some (.inl x6), some (.inl 0), some (.inl x8), some (.inl x9), some (.inl x10)], [.inl 2, .inr (some a0)], M)) sm_a183_188 rfl rfl (st_iconst (by decide)) ?_
  refine ru_go (t := (190, [some (.inr (some a0)), some (.inl x1), some (.inl x2), some (.inl x3), some (.inl x4), some (.inl x5), some (.inl x6), some (.inl 0), some (.inl x8), some (.inl x9), some (.inl x10)], [.inl 0, .inl 2, .inr (some a0)], M)) sm_a183_189 rfl rfl (st_iconst (by decide)) ?_
  refine ru_go (t := (191, [some (.inr (some a0)), some (.inl x1), some (.inl x2), some (.inl x3), some (.inl x4), some (.inl x5), some (.inl x6), some (.inl 0), some (.inl x8), some (.inl x9), some (.inl x10)], [.inl 0, .inl 0, .inl 2, .inr (some a0)], M)) sm_a183_190 rfl rfl (st_iconst (by decide)) ?_
  refine ru_go (t := (192, [some (.inr (some a0)), some (.inl x1), some (.inl x2), some (.inl x3), some (.inl x4), some (.inl x5), some (.inl x6), some (.inl 0), some (.inl x8), some (.inl x9), some (.inl x10)], [.inl 0, .inl 0, .inl 0, .inl 2, .inr (some a0)], M)) sm_a183_191 rfl rfl (st_iconst (by decide)) ?_
  obtain ⟨h_1, h⟩ := h
  exact ru_call (p := 195) sm_a183_192 rfl (sc_virt (Or.inl rfl) rfl rfl h_1 (Nat.le_of_ble_eq_true rfl)) rfl h
theorem bb_183_195 {d : Nat} {M : sm_M} {Q : Option sm_V → sm_M → Prop} {a0 : Nat} {x1 : Int32} {x2 : Int32} {x3 : Int32} {x4 : Int32} {x5 : Int32} {x6 : Int32} {x7 : Int32} {z8 : Option sm_V} {z9 : Option sm_V} {z10 : Option sm_V}
    (h : sm_K M a0 = 39 ∧ sm_fit .boolean x6 = true ∧ sm_fit .boolean x7 = true ∧ Q (some (.inl x7)) (sm_putI M a0 84 x6)) :
    sm_Run (d + 1) 183 195 [some (.inr (some a0)), some (.inl x1), some (.inl x2), some (.inl x3), some (.inl x4), some (.inl x5), some (.inl x6), some (.inl x7), z8, z9, z10] [] M Q := by
  refine ru_go (t := (196, [some (.inr (some a0)), some (.inl x1), some (.inl x2), some (.inl x3), some (.inl x4), some (.inl x5), some (.inl x6), some (.inl x7), z8, z9, z10], [.inr (some a0)], M)) sm_a183_195 rfl rfl rfl ?_
  refine ru_go (t := (198, [some (.inr (some a0)), some (.inl x1), some (.inl x2), some (.inl x3), some (.inl x4), some (.inl x5), some (.inl x6), some (.inl x7), z8, z9, z10], [.inl x6, .inr (some a0)], M)) sm_a183_196 rfl rfl rfl ?_
  obtain ⟨h_1, h⟩ := h
  obtain ⟨h_2, h⟩ := h
  refine ru_go (t := (201, [some (.inr (some a0)), some (.inl x1), some (.inl x2), some (.inl x3), some (.inl x4), some (.inl x5), some (.inl x6), some (.inl x7), z8, z9, z10], [], sm_putI M a0 84 x6)) sm_a183_198 rfl rfl (st_putI h_1 h_2) ?_
  refine ru_go (t := (203, [some (.inr (some a0)), some (.inl x1), some (.inl x2), some (.inl x3), some (.inl x4), some (.inl x5), some (.inl x6), some (.inl x7), z8, z9, z10], [.inl x7], sm_putI M a0 84 x6)) sm_a183_201 rfl rfl rfl ?_
  obtain ⟨h_3, h⟩ := h
  exact ru_ret sm_a183_203 (sm_rvz rfl h_3) h

/-! WireBusModel.controls:(I)Z -/
theorem sm_a184_0 : sm_at 184 0 = some (.aload_n 0, 1, (0, 0, 0, 0)) := by decide +kernel
theorem sm_a184_1 : sm_at 184 1 = some (.getfield 185, 3, (12, 71, 0, 1254)) := by decide +kernel
theorem sm_a184_4 : sm_at 184 4 = some (.iload_n 1, 1, (0, 0, 0, 0)) := by decide +kernel
theorem sm_a184_5 : sm_at 184 5 = some (.iaload, 1, (0, 0, 0, 0)) := by decide +kernel
theorem sm_a184_6 : sm_at 184 6 = some (.istore_n 2, 1, (0, 0, 0, 0)) := by decide +kernel
theorem sm_a184_7 : sm_at 184 7 = some (.aload_n 0, 1, (0, 0, 0, 0)) := by decide +kernel
theorem sm_a184_8 : sm_at 184 8 = some (.getfield 155, 3, (12, 59, 0, 1242)) := by decide +kernel
theorem sm_a184_11 : sm_at 184 11 = some (.iload_n 2, 1, (0, 0, 0, 0)) := by decide +kernel
theorem sm_a184_12 : sm_at 184 12 = some (.iaload, 1, (0, 0, 0, 0)) := by decide +kernel
theorem sm_a184_13 : sm_at 184 13 = some (.istore_n 3, 1, (0, 0, 0, 0)) := by decide +kernel
theorem sm_a184_14 : sm_at 184 14 = some (.aload_n 0, 1, (0, 0, 0, 0)) := by decide +kernel
theorem sm_a184_15 : sm_at 184 15 = some (.getfield 212, 3, (12, 80, 0, 1263)) := by decide +kernel
theorem sm_a184_18 : sm_at 184 18 = some (.bipush 8, 2, (0, 0, 0, 0)) := by decide +kernel
theorem sm_a184_20 : sm_at 184 20 = some (.iload_n 1, 1, (0, 0, 0, 0)) := by decide +kernel
theorem sm_a184_21 : sm_at 184 21 = some (.imul, 1, (0, 0, 0, 0)) := by decide +kernel
theorem sm_a184_22 : sm_at 184 22 = some (.iaload, 1, (0, 0, 0, 0)) := by decide +kernel
theorem sm_a184_23 : sm_at 184 23 = some (.sipush 128, 3, (0, 0, 0, 0)) := by decide +kernel
theorem sm_a184_26 : sm_at 184 26 = some (.if_icmp .lt 7, 3, (0, 0, 0, 0)) := by decide +kernel
theorem sm_a184_29 : sm_at 184 29 = some (.iconst 1, 1, (0, 0, 0, 0)) := by decide +kernel
theorem sm_a184_30 : sm_at 184 30 = some (.goto 4, 3, (0, 0, 0, 0)) := by decide +kernel
theorem sm_a184_33 : sm_at 184 33 = some (.iconst 0, 1, (0, 0, 0, 0)) := by decide +kernel
theorem sm_a184_34 : sm_at 184 34 = some (.istore 4, 2, (0, 0, 0, 0)) := by decide +kernel
theorem sm_a184_36 : sm_at 184 36 = some (.aload_n 0, 1, (0, 0, 0, 0)) := by decide +kernel
theorem sm_a184_37 : sm_at 184 37 = some (.getfield 203, 3, (12, 77, 0, 1260)) := by decide +kernel
theorem sm_a184_40 : sm_at 184 40 = some (.iload_n 1, 1, (0, 0, 0, 0)) := by decide +kernel
theorem sm_a184_41 : sm_at 184 41 = some (.iaload, 1, (0, 0, 0, 0)) := by decide +kernel
theorem sm_a184_42 : sm_at 184 42 = some (.ifCond .ne 101, 3, (0, 0, 0, 0)) := by decide +kernel
theorem sm_a184_45 : sm_at 184 45 = some (.iconst 0, 1, (0, 0, 0, 0)) := by decide +kernel
theorem sm_a184_46 : sm_at 184 46 = some (.istore 5, 2, (0, 0, 0, 0)) := by decide +kernel
theorem sm_a184_48 : sm_at 184 48 = some (.iload 5, 2, (0, 0, 0, 0)) := by decide +kernel
theorem sm_a184_50 : sm_at 184 50 = some (.bipush 8, 2, (0, 0, 0, 0)) := by decide +kernel
theorem sm_a184_52 : sm_at 184 52 = some (.if_icmp .ge 28, 3, (0, 0, 0, 0)) := by decide +kernel
theorem sm_a184_55 : sm_at 184 55 = some (.aload_n 0, 1, (0, 0, 0, 0)) := by decide +kernel
theorem sm_a184_56 : sm_at 184 56 = some (.getfield 219, 3, (12, 83, 0, 1266)) := by decide +kernel
theorem sm_a184_59 : sm_at 184 59 = some (.iload 5, 2, (0, 0, 0, 0)) := by decide +kernel
theorem sm_a184_61 : sm_at 184 61 = some (.aload_n 0, 1, (0, 0, 0, 0)) := by decide +kernel
theorem sm_a184_62 : sm_at 184 62 = some (.getfield 212, 3, (12, 80, 0, 1263)) := by decide +kernel
theorem sm_a184_65 : sm_at 184 65 = some (.bipush 8, 2, (0, 0, 0, 0)) := by decide +kernel
theorem sm_a184_67 : sm_at 184 67 = some (.iload_n 1, 1, (0, 0, 0, 0)) := by decide +kernel
theorem sm_a184_68 : sm_at 184 68 = some (.imul, 1, (0, 0, 0, 0)) := by decide +kernel
theorem sm_a184_69 : sm_at 184 69 = some (.iload 5, 2, (0, 0, 0, 0)) := by decide +kernel
theorem sm_a184_71 : sm_at 184 71 = some (.iadd, 1, (0, 0, 0, 0)) := by decide +kernel
theorem sm_a184_72 : sm_at 184 72 = some (.iaload, 1, (0, 0, 0, 0)) := by decide +kernel
theorem sm_a184_73 : sm_at 184 73 = some (.iastore, 1, (1, 0, 0, 0)) := by decide +kernel
theorem sm_a184_74 : sm_at 184 74 = some (.iinc 5 1, 3, (0, 0, 0, 0)) := by decide +kernel
theorem sm_a184_77 : sm_at 184 77 = some (.goto (-29), 3, (0, 0, 0, 0)) := by decide +kernel
theorem sm_a184_80 : sm_at 184 80 = some (.aload_n 0, 1, (0, 0, 0, 0)) := by decide +kernel
theorem sm_a184_81 : sm_at 184 81 = some (.bipush 13, 2, (0, 0, 0, 0)) := by decide +kernel
theorem sm_a184_83 : sm_at 184 83 = some (.iload_n 3, 1, (0, 0, 0, 0)) := by decide +kernel
theorem sm_a184_84 : sm_at 184 84 = some (.iconst 0, 1, (0, 0, 0, 0)) := by decide +kernel
theorem sm_a184_85 : sm_at 184 85 = some (.iconst 3, 1, (0, 0, 0, 0)) := by decide +kernel
theorem sm_a184_86 : sm_at 184 86 = some (.bipush 8, 2, (0, 0, 0, 0)) := by decide +kernel
theorem sm_a184_88 : sm_at 184 88 = some (.invokevirtual 359, 3, (10, 181, 12, 1625)) := by decide +kernel
theorem sm_a184_91 : sm_at 184 91 = some (.aload_n 0, 1, (0, 0, 0, 0)) := by decide +kernel
theorem sm_a184_92 : sm_at 184 92 = some (.getfield 346, 3, (12, 82, 0, 1265)) := by decide +kernel
theorem sm_a184_95 : sm_at 184 95 = some (.iconst 2, 1, (0, 0, 0, 0)) := by decide +kernel
theorem sm_a184_96 : sm_at 184 96 = some (.if_icmp .ne 40, 3, (0, 0, 0, 0)) := by decide +kernel
theorem sm_a184_99 : sm_at 184 99 = some (.aload_n 0, 1, (0, 0, 0, 0)) := by decide +kernel
theorem sm_a184_100 : sm_at 184 100 = some (.getfield 200, 3, (12, 76, 0, 1259)) := by decide +kernel
theorem sm_a184_103 : sm_at 184 103 = some (.iload_n 1, 1, (0, 0, 0, 0)) := by decide +kernel
theorem sm_a184_104 : sm_at 184 104 = some (.iconst 0, 1, (0, 0, 0, 0)) := by decide +kernel
theorem sm_a184_105 : sm_at 184 105 = some (.iastore, 1, (1, 0, 0, 0)) := by decide +kernel
theorem sm_a184_106 : sm_at 184 106 = some (.aload_n 0, 1, (0, 0, 0, 0)) := by decide +kernel
theorem sm_a184_107 : sm_at 184 107 = some (.getfield 206, 3, (12, 78, 0, 1261)) := by decide +kernel
theorem sm_a184_110 : sm_at 184 110 = some (.iload_n 1, 1, (0, 0, 0, 0)) := by decide +kernel
theorem sm_a184_111 : sm_at 184 111 = some (.iconst 1, 1, (0, 0, 0, 0)) := by decide +kernel
theorem sm_a184_112 : sm_at 184 112 = some (.iastore, 1, (1, 0, 0, 0)) := by decide +kernel
theorem sm_a184_113 : sm_at 184 113 = some (.aload_n 0, 1, (0, 0, 0, 0)) := by decide +kernel
theorem sm_a184_114 : sm_at 184 114 = some (.getfield 203, 3, (12, 77, 0, 1260)) := by decide +kernel
theorem sm_a184_117 : sm_at 184 117 = some (.iload_n 1, 1, (0, 0, 0, 0)) := by decide +kernel
theorem sm_a184_118 : sm_at 184 118 = some (.aload_n 0, 1, (0, 0, 0, 0)) := by decide +kernel
theorem sm_a184_119 : sm_at 184 119 = some (.getfield 197, 3, (12, 75, 0, 1258)) := by decide +kernel
theorem sm_a184_122 : sm_at 184 122 = some (.iload_n 1, 1, (0, 0, 0, 0)) := by decide +kernel
theorem sm_a184_123 : sm_at 184 123 = some (.iaload, 1, (0, 0, 0, 0)) := by decide +kernel
theorem sm_a184_124 : sm_at 184 124 = some (.ifCond .le 7, 3, (0, 0, 0, 0)) := by decide +kernel
theorem sm_a184_127 : sm_at 184 127 = some (.iconst 1, 1, (0, 0, 0, 0)) := by decide +kernel
theorem sm_a184_128 : sm_at 184 128 = some (.goto 4, 3, (0, 0, 0, 0)) := by decide +kernel
theorem sm_a184_131 : sm_at 184 131 = some (.iconst 2, 1, (0, 0, 0, 0)) := by decide +kernel
theorem sm_a184_132 : sm_at 184 132 = some (.iastore, 1, (1, 0, 0, 0)) := by decide +kernel
theorem sm_a184_133 : sm_at 184 133 = some (.goto 8, 3, (0, 0, 0, 0)) := by decide +kernel
theorem sm_a184_136 : sm_at 184 136 = some (.aload_n 0, 1, (0, 0, 0, 0)) := by decide +kernel
theorem sm_a184_137 : sm_at 184 137 = some (.iload_n 1, 1, (0, 0, 0, 0)) := by decide +kernel
theorem sm_a184_138 : sm_at 184 138 = some (.invokevirtual 363, 3, (10, 182, 12, 1629)) := by decide +kernel
theorem sm_a184_141 : sm_at 184 141 = some (.iconst 0, 1, (0, 0, 0, 0)) := by decide +kernel
theorem sm_a184_142 : sm_at 184 142 = some (.ireturn, 1, (0, 0, 0, 0)) := by decide +kernel
theorem sm_a184_143 : sm_at 184 143 = some (.aload_n 0, 1, (0, 0, 0, 0)) := by decide +kernel
theorem sm_a184_144 : sm_at 184 144 = some (.getfield 203, 3, (12, 77, 0, 1260)) := by decide +kernel
theorem sm_a184_147 : sm_at 184 147 = some (.iload_n 1, 1, (0, 0, 0, 0)) := by decide +kernel
theorem sm_a184_148 : sm_at 184 148 = some (.iaload, 1, (0, 0, 0, 0)) := by decide +kernel
theorem sm_a184_149 : sm_at 184 149 = some (.iconst 1, 1, (0, 0, 0, 0)) := by decide +kernel
theorem sm_a184_150 : sm_at 184 150 = some (.if_icmp .ne 7, 3, (0, 0, 0, 0)) := by decide +kernel
theorem sm_a184_153 : sm_at 184 153 = some (.iconst 1, 1, (0, 0, 0, 0)) := by decide +kernel
theorem sm_a184_154 : sm_at 184 154 = some (.goto 4, 3, (0, 0, 0, 0)) := by decide +kernel
theorem sm_a184_157 : sm_at 184 157 = some (.iconst 0, 1, (0, 0, 0, 0)) := by decide +kernel
theorem sm_a184_158 : sm_at 184 158 = some (.istore 5, 2, (0, 0, 0, 0)) := by decide +kernel
theorem sm_a184_160 : sm_at 184 160 = some (.iload 5, 2, (0, 0, 0, 0)) := by decide +kernel
theorem sm_a184_162 : sm_at 184 162 = some (.ifCond .eq 8, 3, (0, 0, 0, 0)) := by decide +kernel
theorem sm_a184_165 : sm_at 184 165 = some (.iload 4, 2, (0, 0, 0, 0)) := by decide +kernel
theorem sm_a184_167 : sm_at 184 167 = some (.goto 22, 3, (0, 0, 0, 0)) := by decide +kernel
theorem sm_a184_170 : sm_at 184 170 = some (.iload 4, 2, (0, 0, 0, 0)) := by decide +kernel
theorem sm_a184_172 : sm_at 184 172 = some (.ifCond .eq 12, 3, (0, 0, 0, 0)) := by decide +kernel
theorem sm_a184_175 : sm_at 184 175 = some (.aload_n 0, 1, (0, 0, 0, 0)) := by decide +kernel
theorem sm_a184_176 : sm_at 184 176 = some (.getfield 197, 3, (12, 75, 0, 1258)) := by decide +kernel
theorem sm_a184_179 : sm_at 184 179 = some (.iload_n 1, 1, (0, 0, 0, 0)) := by decide +kernel
theorem sm_a184_180 : sm_at 184 180 = some (.iaload, 1, (0, 0, 0, 0)) := by decide +kernel
theorem sm_a184_181 : sm_at 184 181 = some (.ifCond .gt 7, 3, (0, 0, 0, 0)) := by decide +kernel
theorem sm_a184_184 : sm_at 184 184 = some (.iconst 1, 1, (0, 0, 0, 0)) := by decide +kernel
theorem sm_a184_185 : sm_at 184 185 = some (.goto 4, 3, (0, 0, 0, 0)) := by decide +kernel
theorem sm_a184_188 : sm_at 184 188 = some (.iconst 0, 1, (0, 0, 0, 0)) := by decide +kernel
theorem sm_a184_189 : sm_at 184 189 = some (.istore 6, 2, (0, 0, 0, 0)) := by decide +kernel
theorem sm_a184_191 : sm_at 184 191 = some (.iconst 0, 1, (0, 0, 0, 0)) := by decide +kernel
theorem sm_a184_192 : sm_at 184 192 = some (.istore 7, 2, (0, 0, 0, 0)) := by decide +kernel
theorem sm_a184_194 : sm_at 184 194 = some (.iload 6, 2, (0, 0, 0, 0)) := by decide +kernel
theorem sm_a184_196 : sm_at 184 196 = some (.ifCond .eq 12, 3, (0, 0, 0, 0)) := by decide +kernel
theorem sm_a184_199 : sm_at 184 199 = some (.aload_n 0, 1, (0, 0, 0, 0)) := by decide +kernel
theorem sm_a184_200 : sm_at 184 200 = some (.iload_n 3, 1, (0, 0, 0, 0)) := by decide +kernel
theorem sm_a184_201 : sm_at 184 201 = some (.iconst 0, 1, (0, 0, 0, 0)) := by decide +kernel
theorem sm_a184_202 : sm_at 184 202 = some (.invokevirtual 366, 3, (10, 180, 12, 1616)) := by decide +kernel
theorem sm_a184_205 : sm_at 184 205 = some (.goto 108, 3, (0, 0, 0, 0)) := by decide +kernel
theorem sm_a184_208 : sm_at 184 208 = some (.iload 5, 2, (0, 0, 0, 0)) := by decide +kernel
theorem sm_a184_210 : sm_at 184 210 = some (.ifCond .eq 28, 3, (0, 0, 0, 0)) := by decide +kernel
theorem sm_a184_213 : sm_at 184 213 = some (.aload_n 0, 1, (0, 0, 0, 0)) := by decide +kernel
theorem sm_a184_214 : sm_at 184 214 = some (.getfield 152, 3, (12, 58, 0, 1241)) := by decide +kernel
theorem sm_a184_217 : sm_at 184 217 = some (.iload_n 2, 1, (0, 0, 0, 0)) := by decide +kernel
theorem sm_a184_218 : sm_at 184 218 = some (.iaload, 1, (0, 0, 0, 0)) := by decide +kernel
theorem sm_a184_219 : sm_at 184 219 = some (.aload_n 0, 1, (0, 0, 0, 0)) := by decide +kernel
theorem sm_a184_220 : sm_at 184 220 = some (.getfield 197, 3, (12, 75, 0, 1258)) := by decide +kernel
theorem sm_a184_223 : sm_at 184 223 = some (.iload_n 1, 1, (0, 0, 0, 0)) := by decide +kernel
theorem sm_a184_224 : sm_at 184 224 = some (.iaload, 1, (0, 0, 0, 0)) := by decide +kernel
theorem sm_a184_225 : sm_at 184 225 = some (.aload_n 0, 1, (0, 0, 0, 0)) := by decide +kernel
theorem sm_a184_226 : sm_at 184 226 = some (.getfield 194, 3, (12, 74, 0, 1257)) := by decide +kernel
theorem sm_a184_229 : sm_at 184 229 = some (.iload_n 1, 1, (0, 0, 0, 0)) := by decide +kernel
theorem sm_a184_230 : sm_at 184 230 = some (.iaload, 1, (0, 0, 0, 0)) := by decide +kernel
theorem sm_a184_231 : sm_at 184 231 = some (.isub, 1, (0, 0, 0, 0)) := by decide +kernel
theorem sm_a184_232 : sm_at 184 232 = some (.invokestatic 369, 3, (3, 0, 0, 1624)) := by decide +kernel
theorem sm_a184_235 : sm_at 184 235 = some (.goto 4, 3, (0, 0, 0, 0)) := by decide +kernel
theorem sm_a184_238 : sm_at 184 238 = some (.iconst 0, 1, (0, 0, 0, 0)) := by decide +kernel
theorem sm_a184_239 : sm_at 184 239 = some (.istore 7, 2, (0, 0, 0, 0)) := by decide +kernel
theorem sm_a184_241 : sm_at 184 241 = some (.iconst 0, 1, (0, 0, 0, 0)) := by decide +kernel
theorem sm_a184_242 : sm_at 184 242 = some (.istore 8, 2, (0, 0, 0, 0)) := by decide +kernel
theorem sm_a184_244 : sm_at 184 244 = some (.iload 8, 2, (0, 0, 0, 0)) := by decide +kernel
theorem sm_a184_246 : sm_at 184 246 = some (.iload 7, 2, (0, 0, 0, 0)) := by decide +kernel
theorem sm_a184_248 : sm_at 184 248 = some (.if_icmp .ge 35, 3, (0, 0, 0, 0)) := by decide +kernel
theorem sm_a184_251 : sm_at 184 251 = some (.aload_n 0, 1, (0, 0, 0, 0)) := by decide +kernel
theorem sm_a184_252 : sm_at 184 252 = some (.getfield 219, 3, (12, 83, 0, 1266)) := by decide +kernel
theorem sm_a184_255 : sm_at 184 255 = some (.iload 8, 2, (0, 0, 0, 0)) := by decide +kernel
theorem sm_a184_257 : sm_at 184 257 = some (.aload_n 0, 1, (0, 0, 0, 0)) := by decide +kernel
theorem sm_a184_258 : sm_at 184 258 = some (.getfield 216, 3, (12, 81, 0, 1264)) := by decide +kernel
theorem sm_a184_261 : sm_at 184 261 = some (.bipush 100, 2, (0, 0, 0, 0)) := by decide +kernel
theorem sm_a184_263 : sm_at 184 263 = some (.iload_n 1, 1, (0, 0, 0, 0)) := by decide +kernel
theorem sm_a184_264 : sm_at 184 264 = some (.imul, 1, (0, 0, 0, 0)) := by decide +kernel
theorem sm_a184_265 : sm_at 184 265 = some (.aload_n 0, 1, (0, 0, 0, 0)) := by decide +kernel
theorem sm_a184_266 : sm_at 184 266 = some (.getfield 194, 3, (12, 74, 0, 1257)) := by decide +kernel
theorem sm_a184_269 : sm_at 184 269 = some (.iload_n 1, 1, (0, 0, 0, 0)) := by decide +kernel
theorem sm_a184_270 : sm_at 184 270 = some (.iaload, 1, (0, 0, 0, 0)) := by decide +kernel
theorem sm_a184_271 : sm_at 184 271 = some (.iadd, 1, (0, 0, 0, 0)) := by decide +kernel
theorem sm_a184_272 : sm_at 184 272 = some (.iload 8, 2, (0, 0, 0, 0)) := by decide +kernel
theorem sm_a184_274 : sm_at 184 274 = some (.iadd, 1, (0, 0, 0, 0)) := by decide +kernel
theorem sm_a184_275 : sm_at 184 275 = some (.iaload, 1, (0, 0, 0, 0)) := by decide +kernel
theorem sm_a184_276 : sm_at 184 276 = some (.iastore, 1, (1, 0, 0, 0)) := by decide +kernel
theorem sm_a184_277 : sm_at 184 277 = some (.iinc 8 1, 3, (0, 0, 0, 0)) := by decide +kernel
theorem sm_a184_280 : sm_at 184 280 = some (.goto (-36), 3, (0, 0, 0, 0)) := by decide +kernel
theorem sm_a184_283 : sm_at 184 283 = some (.aload_n 0, 1, (0, 0, 0, 0)) := by decide +kernel
theorem sm_a184_284 : sm_at 184 284 = some (.iconst 1, 1, (0, 0, 0, 0)) := by decide +kernel
theorem sm_a184_285 : sm_at 184 285 = some (.iload_n 3, 1, (0, 0, 0, 0)) := by decide +kernel
theorem sm_a184_286 : sm_at 184 286 = some (.iconst 0, 1, (0, 0, 0, 0)) := by decide +kernel
theorem sm_a184_287 : sm_at 184 287 = some (.iload 5, 2, (0, 0, 0, 0)) := by decide +kernel
theorem sm_a184_289 : sm_at 184 289 = some (.ifCond .eq 13, 3, (0, 0, 0, 0)) := by decide +kernel
theorem sm_a184_292 : sm_at 184 292 = some (.aload_n 0, 1, (0, 0, 0, 0)) := by decide +kernel
theorem sm_a184_293 : sm_at 184 293 = some (.getfield 206, 3, (12, 78, 0, 1261)) := by decide +kernel
theorem sm_a184_296 : sm_at 184 296 = some (.iload_n 1, 1, (0, 0, 0, 0)) := by decide +kernel
theorem sm_a184_297 : sm_at 184 297 = some (.iaload, 1, (0, 0, 0, 0)) := by decide +kernel
theorem sm_a184_298 : sm_at 184 298 = some (.iconst 1, 1, (0, 0, 0, 0)) := by decide +kernel
theorem sm_a184_299 : sm_at 184 299 = some (.if_icmp .ne 8, 3, (0, 0, 0, 0)) := by decide +kernel
theorem sm_a184_302 : sm_at 184 302 = some (.bipush 11, 2, (0, 0, 0, 0)) := by decide +kernel
theorem sm_a184_304 : sm_at 184 304 = some (.goto 4, 3, (0, 0, 0, 0)) := by decide +kernel
theorem sm_a184_307 : sm_at 184 307 = some (.iconst 3, 1, (0, 0, 0, 0)) := by decide +kernel
theorem sm_a184_308 : sm_at 184 308 = some (.iload 7, 2, (0, 0, 0, 0)) := by decide +kernel
theorem sm_a184_310 : sm_at 184 310 = some (.invokevirtual 359, 3, (10, 181, 12, 1625)) := by decide +kernel
theorem sm_a184_313 : sm_at 184 313 = some (.aload_n 0, 1, (0, 0, 0, 0)) := by decide +kernel
theorem sm_a184_314 : sm_at 184 314 = some (.getfield 346, 3, (12, 82, 0, 1265)) := by decide +kernel
theorem sm_a184_317 : sm_at 184 317 = some (.bipush 10, 2, (0, 0, 0, 0)) := by decide +kernel
theorem sm_a184_319 : sm_at 184 319 = some (.if_icmp .eq 12, 3, (0, 0, 0, 0)) := by decide +kernel
theorem sm_a184_322 : sm_at 184 322 = some (.aload_n 0, 1, (0, 0, 0, 0)) := by decide +kernel
theorem sm_a184_323 : sm_at 184 323 = some (.getfield 346, 3, (12, 82, 0, 1265)) := by decide +kernel
theorem sm_a184_326 : sm_at 184 326 = some (.bipush 14, 2, (0, 0, 0, 0)) := by decide +kernel
theorem sm_a184_328 : sm_at 184 328 = some (.if_icmp .ne 45, 3, (0, 0, 0, 0)) := by decide +kernel
theorem sm_a184_331 : sm_at 184 331 = some (.aload_n 0, 1, (0, 0, 0, 0)) := by decide +kernel
theorem sm_a184_332 : sm_at 184 332 = some (.getfield 200, 3, (12, 76, 0, 1259)) := by decide +kernel
theorem sm_a184_335 : sm_at 184 335 = some (.iload_n 1, 1, (0, 0, 0, 0)) := by decide +kernel
theorem sm_a184_336 : sm_at 184 336 = some (.iconst 0, 1, (0, 0, 0, 0)) := by decide +kernel
theorem sm_a184_337 : sm_at 184 337 = some (.iastore, 1, (1, 0, 0, 0)) := by decide +kernel
theorem sm_a184_338 : sm_at 184 338 = some (.aload_n 0, 1, (0, 0, 0, 0)) := by decide +kernel
theorem sm_a184_339 : sm_at 184 339 = some (.getfield 191, 3, (12, 73, 0, 1256)) := by decide +kernel
theorem sm_a184_342 : sm_at 184 342 = some (.iload_n 1, 1, (0, 0, 0, 0)) := by decide +kernel
theorem sm_a184_343 : sm_at 184 343 = some (.aload_n 0, 1, (0, 0, 0, 0)) := by decide +kernel
theorem sm_a184_344 : sm_at 184 344 = some (.getfield 346, 3, (12, 82, 0, 1265)) := by decide +kernel
theorem sm_a184_347 : sm_at 184 347 = some (.bipush 14, 2, (0, 0, 0, 0)) := by decide +kernel
theorem sm_a184_349 : sm_at 184 349 = some (.if_icmp .ne 7, 3, (0, 0, 0, 0)) := by decide +kernel
theorem sm_a184_352 : sm_at 184 352 = some (.iconst 2, 1, (0, 0, 0, 0)) := by decide +kernel
theorem sm_a184_353 : sm_at 184 353 = some (.goto 4, 3, (0, 0, 0, 0)) := by decide +kernel
theorem sm_a184_356 : sm_at 184 356 = some (.iconst 0, 1, (0, 0, 0, 0)) := by decide +kernel
theorem sm_a184_357 : sm_at 184 357 = some (.iastore, 1, (1, 0, 0, 0)) := by decide +kernel
theorem sm_a184_358 : sm_at 184 358 = some (.aload_n 0, 1, (0, 0, 0, 0)) := by decide +kernel
theorem sm_a184_359 : sm_at 184 359 = some (.getfield 346, 3, (12, 82, 0, 1265)) := by decide +kernel
theorem sm_a184_362 : sm_at 184 362 = some (.bipush 10, 2, (0, 0, 0, 0)) := by decide +kernel
theorem sm_a184_364 : sm_at 184 364 = some (.if_icmp .ne 7, 3, (0, 0, 0, 0)) := by decide +kernel
theorem sm_a184_367 : sm_at 184 367 = some (.iconst 1, 1, (0, 0, 0, 0)) := by decide +kernel
theorem sm_a184_368 : sm_at 184 368 = some (.goto 4, 3, (0, 0, 0, 0)) := by decide +kernel
theorem sm_a184_371 : sm_at 184 371 = some (.iconst 0, 1, (0, 0, 0, 0)) := by decide +kernel
theorem sm_a184_372 : sm_at 184 372 = some (.ireturn, 1, (0, 0, 0, 0)) := by decide +kernel
theorem sm_a184_373 : sm_at 184 373 = some (.iload 6, 2, (0, 0, 0, 0)) := by decide +kernel
theorem sm_a184_375 : sm_at 184 375 = some (.ifCond .ne 19, 3, (0, 0, 0, 0)) := by decide +kernel
theorem sm_a184_378 : sm_at 184 378 = some (.aload_n 0, 1, (0, 0, 0, 0)) := by decide +kernel
theorem sm_a184_379 : sm_at 184 379 = some (.getfield 346, 3, (12, 82, 0, 1265)) := by decide +kernel
theorem sm_a184_382 : sm_at 184 382 = some (.iconst 2, 1, (0, 0, 0, 0)) := by decide +kernel
theorem sm_a184_383 : sm_at 184 383 = some (.if_icmp .ne 7, 3, (0, 0, 0, 0)) := by decide +kernel
theorem sm_a184_386 : sm_at 184 386 = some (.iconst 1, 1, (0, 0, 0, 0)) := by decide +kernel
theorem sm_a184_387 : sm_at 184 387 = some (.goto 63, 3, (0, 0, 0, 0)) := by decide +kernel
theorem sm_a184_390 : sm_at 184 390 = some (.iconst 0, 1, (0, 0, 0, 0)) := by decide +kernel
theorem sm_a184_391 : sm_at 184 391 = some (.goto 59, 3, (0, 0, 0, 0)) := by decide +kernel
theorem sm_a184_394 : sm_at 184 394 = some (.iload 5, 2, (0, 0, 0, 0)) := by decide +kernel
theorem sm_a184_396 : sm_at 184 396 = some (.ifCond .eq 28, 3, (0, 0, 0, 0)) := by decide +kernel
theorem sm_a184_399 : sm_at 184 399 = some (.aload_n 0, 1, (0, 0, 0, 0)) := by decide +kernel
theorem sm_a184_400 : sm_at 184 400 = some (.getfield 346, 3, (12, 82, 0, 1265)) := by decide +kernel
theorem sm_a184_403 : sm_at 184 403 = some (.iconst 3, 1, (0, 0, 0, 0)) := by decide +kernel
theorem sm_a184_404 : sm_at 184 404 = some (.if_icmp .eq 12, 3, (0, 0, 0, 0)) := by decide +kernel
theorem sm_a184_407 : sm_at 184 407 = some (.aload_n 0, 1, (0, 0, 0, 0)) := by decide +kernel
theorem sm_a184_408 : sm_at 184 408 = some (.getfield 346, 3, (12, 82, 0, 1265)) := by decide +kernel
theorem sm_a184_411 : sm_at 184 411 = some (.bipush 11, 2, (0, 0, 0, 0)) := by decide +kernel
theorem sm_a184_413 : sm_at 184 413 = some (.if_icmp .ne 7, 3, (0, 0, 0, 0)) := by decide +kernel
theorem sm_a184_416 : sm_at 184 416 = some (.iconst 1, 1, (0, 0, 0, 0)) := by decide +kernel
theorem sm_a184_417 : sm_at 184 417 = some (.goto 33, 3, (0, 0, 0, 0)) := by decide +kernel
theorem sm_a184_420 : sm_at 184 420 = some (.iconst 0, 1, (0, 0, 0, 0)) := by decide +kernel
theorem sm_a184_421 : sm_at 184 421 = some (.goto 29, 3, (0, 0, 0, 0)) := by decide +kernel
theorem sm_a184_424 : sm_at 184 424 = some (.aload_n 0, 1, (0, 0, 0, 0)) := by decide +kernel
theorem sm_a184_425 : sm_at 184 425 = some (.getfield 346, 3, (12, 82, 0, 1265)) := by decide +kernel
theorem sm_a184_428 : sm_at 184 428 = some (.bipush 11, 2, (0, 0, 0, 0)) := by decide +kernel
theorem sm_a184_430 : sm_at 184 430 = some (.if_icmp .ne 19, 3, (0, 0, 0, 0)) := by decide +kernel
theorem sm_a184_433 : sm_at 184 433 = some (.aload_n 0, 1, (0, 0, 0, 0)) := by decide +kernel
theorem sm_a184_434 : sm_at 184 434 = some (.getfield 122, 3, (12, 41, 0, 1224)) := by decide +kernel
theorem sm_a184_437 : sm_at 184 437 = some (.aload_n 0, 1, (0, 0, 0, 0)) := by decide +kernel
theorem sm_a184_438 : sm_at 184 438 = some (.getfield 266, 3, (12, 50, 0, 1233)) := by decide +kernel
theorem sm_a184_441 : sm_at 184 441 = some (.iaload, 1, (0, 0, 0, 0)) := by decide +kernel
theorem sm_a184_442 : sm_at 184 442 = some (.ifCond .ne 7, 3, (0, 0, 0, 0)) := by decide +kernel
theorem sm_a184_445 : sm_at 184 445 = some (.iconst 1, 1, (0, 0, 0, 0)) := by decide +kernel
theorem sm_a184_446 : sm_at 184 446 = some (.goto 4, 3, (0, 0, 0, 0)) := by decide +kernel
theorem sm_a184_449 : sm_at 184 449 = some (.iconst 0, 1, (0, 0, 0, 0)) := by decide +kernel
theorem sm_a184_450 : sm_at 184 450 = some (.istore 8, 2, (0, 0, 0, 0)) := by decide +kernel
theorem sm_a184_452 : sm_at 184 452 = some (.iload 8, 2, (0, 0, 0, 0)) := by decide +kernel
theorem sm_a184_454 : sm_at 184 454 = some (.ifCond .ne 10, 3, (0, 0, 0, 0)) := by decide +kernel
theorem sm_a184_457 : sm_at 184 457 = some (.aload_n 0, 1, (0, 0, 0, 0)) := by decide +kernel
theorem sm_a184_458 : sm_at 184 458 = some (.iload_n 1, 1, (0, 0, 0, 0)) := by decide +kernel
theorem sm_a184_459 : sm_at 184 459 = some (.invokevirtual 363, 3, (10, 182, 12, 1629)) := by decide +kernel
theorem sm_a184_462 : sm_at 184 462 = some (.iconst 0, 1, (0, 0, 0, 0)) := by decide +kernel
theorem sm_a184_463 : sm_at 184 463 = some (.ireturn, 1, (0, 0, 0, 0)) := by decide +kernel
theorem sm_a184_464 : sm_at 184 464 = some (.aload_n 0, 1, (0, 0, 0, 0)) := by decide +kernel
theorem sm_a184_465 : sm_at 184 465 = some (.getfield 200, 3, (12, 76, 0, 1259)) := by decide +kernel
theorem sm_a184_468 : sm_at 184 468 = some (.iload_n 1, 1, (0, 0, 0, 0)) := by decide +kernel
theorem sm_a184_469 : sm_at 184 469 = some (.iconst 0, 1, (0, 0, 0, 0)) := by decide +kernel
theorem sm_a184_470 : sm_at 184 470 = some (.iastore, 1, (1, 0, 0, 0)) := by decide +kernel
theorem sm_a184_471 : sm_at 184 471 = some (.iload 5, 2, (0, 0, 0, 0)) := by decide +kernel
theorem sm_a184_473 : sm_at 184 473 = some (.ifCond .ne 26, 3, (0, 0, 0, 0)) := by decide +kernel
theorem sm_a184_476 : sm_at 184 476 = some (.iload 6, 2, (0, 0, 0, 0)) := by decide +kernel
theorem sm_a184_478 : sm_at 184 478 = some (.ifCond .eq 11, 3, (0, 0, 0, 0)) := by decide +kernel
theorem sm_a184_481 : sm_at 184 481 = some (.aload_n 0, 1, (0, 0, 0, 0)) := by decide +kernel
theorem sm_a184_482 : sm_at 184 482 = some (.iconst 2, 1, (0, 0, 0, 0)) := by decide +kernel
theorem sm_a184_483 : sm_at 184 483 = some (.iconst 0, 1, (0, 0, 0, 0)) := by decide +kernel
theorem sm_a184_484 : sm_at 184 484 = some (.iconst 0, 1, (0, 0, 0, 0)) := by decide +kernel
theorem sm_a184_485 : sm_at 184 485 = some (.iconst 0, 1, (0, 0, 0, 0)) := by decide +kernel
theorem sm_a184_486 : sm_at 184 486 = some (.invokevirtual 349, 3, (10, 178, 12, 1523)) := by decide +kernel
theorem sm_a184_489 : sm_at 184 489 = some (.aload_n 0, 1, (0, 0, 0, 0)) := by decide +kernel
theorem sm_a184_490 : sm_at 184 490 = some (.getfield 191, 3, (12, 73, 0, 1256)) := by decide +kernel
theorem sm_a184_493 : sm_at 184 493 = some (.iload_n 1, 1, (0, 0, 0, 0)) := by decide +kernel
theorem sm_a184_494 : sm_at 184 494 = some (.iconst 1, 1, (0, 0, 0, 0)) := by decide +kernel
theorem sm_a184_495 : sm_at 184 495 = some (.iastore, 1, (1, 0, 0, 0)) := by decide +kernel
theorem sm_a184_496 : sm_at 184 496 = some (.goto 127, 3, (0, 0, 0, 0)) := by decide +kernel
theorem sm_a184_499 : sm_at 184 499 = some (.iload 6, 2, (0, 0, 0, 0)) := by decide +kernel
theorem sm_a184_501 : sm_at 184 501 = some (.ifCond .eq 71, 3, (0, 0, 0, 0)) := by decide +kernel
theorem sm_a184_504 : sm_at 184 504 = some (.aload_n 0, 1, (0, 0, 0, 0)) := by decide +kernel
theorem sm_a184_505 : sm_at 184 505 = some (.iload_n 1, 1, (0, 0, 0, 0)) := by decide +kernel
theorem sm_a184_506 : sm_at 184 506 = some (.aload_n 0, 1, (0, 0, 0, 0)) := by decide +kernel
theorem sm_a184_507 : sm_at 184 507 = some (.getfield 206, 3, (12, 78, 0, 1261)) := by decide +kernel
theorem sm_a184_510 : sm_at 184 510 = some (.iload_n 1, 1, (0, 0, 0, 0)) := by decide +kernel
theorem sm_a184_511 : sm_at 184 511 = some (.iaload, 1, (0, 0, 0, 0)) := by decide +kernel
theorem sm_a184_512 : sm_at 184 512 = some (.aload_n 0, 1, (0, 0, 0, 0)) := by decide +kernel
theorem sm_a184_513 : sm_at 184 513 = some (.getfield 152, 3, (12, 58, 0, 1241)) := by decide +kernel
theorem sm_a184_516 : sm_at 184 516 = some (.iload_n 2, 1, (0, 0, 0, 0)) := by decide +kernel
theorem sm_a184_517 : sm_at 184 517 = some (.iaload, 1, (0, 0, 0, 0)) := by decide +kernel
theorem sm_a184_518 : sm_at 184 518 = some (.invokevirtual 374, 3, (10, 183, 12, 1633)) := by decide +kernel
theorem sm_a184_521 : sm_at 184 521 = some (.istore 9, 2, (0, 0, 0, 0)) := by decide +kernel
theorem sm_a184_523 : sm_at 184 523 = some (.aload_n 0, 1, (0, 0, 0, 0)) := by decide +kernel
theorem sm_a184_524 : sm_at 184 524 = some (.getfield 206, 3, (12, 78, 0, 1261)) := by decide +kernel
theorem sm_a184_527 : sm_at 184 527 = some (.iload_n 1, 1, (0, 0, 0, 0)) := by decide +kernel
theorem sm_a184_528 : sm_at 184 528 = some (.aload_n 0, 1, (0, 0, 0, 0)) := by decide +kernel
theorem sm_a184_529 : sm_at 184 529 = some (.getfield 355, 3, (12, 84, 0, 1267)) := by decide +kernel
theorem sm_a184_532 : sm_at 184 532 = some (.ifCond .eq 14, 3, (0, 0, 0, 0)) := by decide +kernel
theorem sm_a184_535 : sm_at 184 535 = some (.iconst 1, 1, (0, 0, 0, 0)) := by decide +kernel
theorem sm_a184_536 : sm_at 184 536 = some (.aload_n 0, 1, (0, 0, 0, 0)) := by decide +kernel
theorem sm_a184_537 : sm_at 184 537 = some (.getfield 206, 3, (12, 78, 0, 1261)) := by decide +kernel
theorem sm_a184_540 : sm_at 184 540 = some (.iload_n 1, 1, (0, 0, 0, 0)) := by decide +kernel
theorem sm_a184_541 : sm_at 184 541 = some (.iaload, 1, (0, 0, 0, 0)) := by decide +kernel
theorem sm_a184_542 : sm_at 184 542 = some (.isub, 1, (0, 0, 0, 0)) := by decide +kernel
theorem sm_a184_543 : sm_at 184 543 = some (.goto 9, 3, (0, 0, 0, 0)) := by decide +kernel
theorem sm_a184_546 : sm_at 184 546 = some (.aload_n 0, 1, (0, 0, 0, 0)) := by decide +kernel
theorem sm_a184_547 : sm_at 184 547 = some (.getfield 206, 3, (12, 78, 0, 1261)) := by decide +kernel
theorem sm_a184_550 : sm_at 184 550 = some (.iload_n 1, 1, (0, 0, 0, 0)) := by decide +kernel
theorem sm_a184_551 : sm_at 184 551 = some (.iaload, 1, (0, 0, 0, 0)) := by decide +kernel
theorem sm_a184_552 : sm_at 184 552 = some (.iastore, 1, (1, 0, 0, 0)) := by decide +kernel
theorem sm_a184_553 : sm_at 184 553 = some (.aload_n 0, 1, (0, 0, 0, 0)) := by decide +kernel
theorem sm_a184_554 : sm_at 184 554 = some (.getfield 203, 3, (12, 77, 0, 1260)) := by decide +kernel
theorem sm_a184_557 : sm_at 184 557 = some (.iload_n 1, 1, (0, 0, 0, 0)) := by decide +kernel
theorem sm_a184_558 : sm_at 184 558 = some (.iload 9, 2, (0, 0, 0, 0)) := by decide +kernel
theorem sm_a184_560 : sm_at 184 560 = some (.ifCond .eq 7, 3, (0, 0, 0, 0)) := by decide +kernel
theorem sm_a184_563 : sm_at 184 563 = some (.iconst 2, 1, (0, 0, 0, 0)) := by decide +kernel
theorem sm_a184_564 : sm_at 184 564 = some (.goto 4, 3, (0, 0, 0, 0)) := by decide +kernel
theorem sm_a184_567 : sm_at 184 567 = some (.iconst 1, 1, (0, 0, 0, 0)) := by decide +kernel
theorem sm_a184_568 : sm_at 184 568 = some (.iastore, 1, (1, 0, 0, 0)) := by decide +kernel
theorem sm_a184_569 : sm_at 184 569 = some (.goto 54, 3, (0, 0, 0, 0)) := by decide +kernel
theorem sm_a184_572 : sm_at 184 572 = some (.aload_n 0, 1, (0, 0, 0, 0)) := by decide +kernel
theorem sm_a184_573 : sm_at 184 573 = some (.getfield 194, 3, (12, 74, 0, 1257)) := by decide +kernel
theorem sm_a184_576 : sm_at 184 576 = some (.iload_n 1, 1, (0, 0, 0, 0)) := by decide +kernel
theorem sm_a184_577 : sm_at 184 577 = some (.dup2, 1, (0, 0, 0, 0)) := by decide +kernel
theorem sm_a184_578 : sm_at 184 578 = some (.iaload, 1, (0, 0, 0, 0)) := by decide +kernel
theorem sm_a184_579 : sm_at 184 579 = some (.iload 7, 2, (0, 0, 0, 0)) := by decide +kernel
theorem sm_a184_581 : sm_at 184 581 = some (.iadd, 1, (0, 0, 0, 0)) := by decide +kernel
theorem sm_a184_582 : sm_at 184 582 = some (.iastore, 1, (1, 0, 0, 0)) := by decide +kernel
theorem sm_a184_583 : sm_at 184 583 = some (.aload_n 0, 1, (0, 0, 0, 0)) := by decide +kernel
theorem sm_a184_584 : sm_at 184 584 = some (.getfield 206, 3, (12, 78, 0, 1261)) := by decide +kernel
theorem sm_a184_587 : sm_at 184 587 = some (.iload_n 1, 1, (0, 0, 0, 0)) := by decide +kernel
theorem sm_a184_588 : sm_at 184 588 = some (.iconst 1, 1, (0, 0, 0, 0)) := by decide +kernel
theorem sm_a184_589 : sm_at 184 589 = some (.aload_n 0, 1, (0, 0, 0, 0)) := by decide +kernel
theorem sm_a184_590 : sm_at 184 590 = some (.getfield 206, 3, (12, 78, 0, 1261)) := by decide +kernel
theorem sm_a184_593 : sm_at 184 593 = some (.iload_n 1, 1, (0, 0, 0, 0)) := by decide +kernel
theorem sm_a184_594 : sm_at 184 594 = some (.iaload, 1, (0, 0, 0, 0)) := by decide +kernel
theorem sm_a184_595 : sm_at 184 595 = some (.isub, 1, (0, 0, 0, 0)) := by decide +kernel
theorem sm_a184_596 : sm_at 184 596 = some (.iastore, 1, (1, 0, 0, 0)) := by decide +kernel
theorem sm_a184_597 : sm_at 184 597 = some (.aload_n 0, 1, (0, 0, 0, 0)) := by decide +kernel
theorem sm_a184_598 : sm_at 184 598 = some (.getfield 203, 3, (12, 77, 0, 1260)) := by decide +kernel
theorem sm_a184_601 : sm_at 184 601 = some (.iload_n 1, 1, (0, 0, 0, 0)) := by decide +kernel
theorem sm_a184_602 : sm_at 184 602 = some (.aload_n 0, 1, (0, 0, 0, 0)) := by decide +kernel
theorem sm_a184_603 : sm_at 184 603 = some (.getfield 194, 3, (12, 74, 0, 1257)) := by decide +kernel
theorem sm_a184_606 : sm_at 184 606 = some (.iload_n 1, 1, (0, 0, 0, 0)) := by decide +kernel
theorem sm_a184_607 : sm_at 184 607 = some (.iaload, 1, (0, 0, 0, 0)) := by decide +kernel
theorem sm_a184_608 : sm_at 184 608 = some (.aload_n 0, 1, (0, 0, 0, 0)) := by decide +kernel
theorem sm_a184_609 : sm_at 184 609 = some (.getfield 197, 3, (12, 75, 0, 1258)) := by decide +kernel
theorem sm_a184_612 : sm_at 184 612 = some (.iload_n 1, 1, (0, 0, 0, 0)) := by decide +kernel
theorem sm_a184_613 : sm_at 184 613 = some (.iaload, 1, (0, 0, 0, 0)) := by decide +kernel
theorem sm_a184_614 : sm_at 184 614 = some (.if_icmp .ne 7, 3, (0, 0, 0, 0)) := by decide +kernel
theorem sm_a184_617 : sm_at 184 617 = some (.iconst 2, 1, (0, 0, 0, 0)) := by decide +kernel
theorem sm_a184_618 : sm_at 184 618 = some (.goto 4, 3, (0, 0, 0, 0)) := by decide +kernel
theorem sm_a184_621 : sm_at 184 621 = some (.iconst 1, 1, (0, 0, 0, 0)) := by decide +kernel
theorem sm_a184_622 : sm_at 184 622 = some (.iastore, 1, (1, 0, 0, 0)) := by decide +kernel
theorem sm_a184_623 : sm_at 184 623 = some (.iconst 0, 1, (0, 0, 0, 0)) := by decide +kernel
theorem sm_a184_624 : sm_at 184 624 = some (.ireturn, 1, (0, 0, 0, 0)) := by decide +kernel
theorem bb_184_0 {d : Nat} {M : sm_M} {Q : Option sm_V → sm_M → Prop} {a0 : Nat} {x1 : Int32} {z2 : Option sm_V} {z3 : Option sm_V} {z4 : Option sm_V} {z5 : Option sm_V} {z6 : Option sm_V} {z7 : Option sm_V} {z8 : Option sm_V} {z9 : Option sm_V}
    (h : sm_K M a0 = 39 ∧ ∃ b_2, sm_R M a0 71 = some b_2 ∧ sm_iA M b_2 ∧ sm_in_ M b_2 x1 ∧ ∃ b_6, sm_R M a0 59 = some b_6 ∧ sm_iA M b_6 ∧ sm_in_ M b_6 (sm_I M b_2 (x1).toNatClampNeg) ∧ ∃ b_10, sm_R M a0 80 = some b_10 ∧ sm_iA M b_10 ∧ sm_in_ M b_10 (8 * x1) ∧ (((sm_I M b_10 (8 * x1).toNatClampNeg) < 128 → ∃ b_15, sm_R M a0 77 = some b_15 ∧ sm_iA M b_15 ∧ sm_in_ M b_15 x1 ∧ ((¬ (sm_I M b_15 (x1).toNatClampNeg) = 0 → ∃ b_20, sm_R M a0 77 = some b_20 ∧ sm_iA M b_20 ∧ sm_in_ M b_20 x1 ∧ ((¬ (sm_I M b_20 (x1).toNatClampNeg) = 1 → sm_Run (d + 1) 184 184 [some (.inr (some a0)), some (.inl x1), some (.inl (sm_I M b_2 (x1).toNatClampNeg)), some (.inl (sm_I M b_6 (sm_I M b_2 (x1).toNatClampNeg).toNatClampNeg)), some (.inl 0), some (.inl 0), z6, z7, z8, z9] [] M Q) ∧ (¬ (¬ (sm_I M b_20 (x1).toNatClampNeg) = 1) → ∃ b_25, sm_R M a0 58 = some b_25 ∧ sm_iA M b_25 ∧ sm_in_ M b_25 (sm_I M b_2 (x1).toNatClampNeg) ∧ ∃ b_29, sm_R M a0 75 = some b_29 ∧ sm_iA M b_29 ∧ sm_in_ M b_29 x1 ∧ ∃ b_33, sm_R M a0 74 = some b_33 ∧ sm_iA M b_33 ∧ sm_in_ M b_33 x1 ∧ sm_Run (d + 1) 184 244 [some (.inr (some a0)), some (.inl x1), some (.inl (sm_I M b_2 (x1).toNatClampNeg)), some (.inl (sm_I M b_6 (sm_I M b_2 (x1).toNatClampNeg).toNatClampNeg)), some (.inl 0), some (.inl 1), some (.inl 0), some (.inl (if (sm_I M b_29 (x1).toNatClampNeg) - (sm_I M b_33 (x1).toNatClampNeg) < sm_I M b_25 (sm_I M b_2 (x1).toNatClampNeg).toNatClampNeg then (sm_I M b_29 (x1).toNatClampNeg) - (sm_I M b_33 (x1).toNatClampNeg) else sm_I M b_25 (sm_I M b_2 (x1).toNatClampNeg).toNatClampNeg)), some (.inl 0), z9] [] M Q))) ∧ (¬ (¬ (sm_I M b_15 (x1).toNatClampNeg) = 0) → sm_Run (d + 1) 184 48 [some (.inr (some a0)), some (.inl x1), some (.inl (sm_I M b_2 (x1).toNatClampNeg)), some (.inl (sm_I M b_6 (sm_I M b_2 (x1).toNatClampNeg).toNatClampNeg)), some (.inl 0), some (.inl 0), z6, z7, z8, z9] [] M Q))) ∧ (¬ ((sm_I M b_10 (8 * x1).toNatClampNeg) < 128) → ∃ b_37, sm_R M a0 77 = some b_37 ∧ sm_iA M b_37 ∧ sm_in_ M b_37 x1 ∧ ((¬ (sm_I M b_37 (x1).toNatClampNeg) = 0 → ∃ b_42, sm_R M a0 77 = some b_42 ∧ sm_iA M b_42 ∧ sm_in_ M b_42 x1 ∧ ((¬ (sm_I M b_42 (x1).toNatClampNeg) = 1 → ∃ b_47, sm_R M a0 75 = some b_47 ∧ sm_iA M b_47 ∧ sm_in_ M b_47 x1 ∧ ((0 < (sm_I M b_47 (x1).toNatClampNeg) → sm_Run (d + 1) 184 244 [some (.inr (some a0)), some (.inl x1), some (.inl (sm_I M b_2 (x1).toNatClampNeg)), some (.inl (sm_I M b_6 (sm_I M b_2 (x1).toNatClampNeg).toNatClampNeg)), some (.inl 1), some (.inl 0), some (.inl 0), some (.inl 0), some (.inl 0), z9] [] M Q) ∧ (¬ (0 < (sm_I M b_47 (x1).toNatClampNeg)) → sm_Run (d + 1) 184 184 [some (.inr (some a0)), some (.inl x1), some (.inl (sm_I M b_2 (x1).toNatClampNeg)), some (.inl (sm_I M b_6 (sm_I M b_2 (x1).toNatClampNeg).toNatClampNeg)), some (.inl 1), some (.inl 0), z6, z7, z8, z9] [] M Q))) ∧ (¬ (¬ (sm_I M b_42 (x1).toNatClampNeg) = 1) → sm_Run d 180 0 (sm_ent 180 [.inr (some a0), .inl (sm_I M b_6 (sm_I M b_2 (x1).toNatClampNeg).toNatClampNeg), .inl 0]) [] M (fun v M1 => sm_Run (d + 1) 184 205 [some (.inr (some a0)), some (.inl x1), some (.inl (sm_I M b_2 (x1).toNatClampNeg)), some (.inl (sm_I M b_6 (sm_I M b_2 (x1).toNatClampNeg).toNatClampNeg)), some (.inl 1), some (.inl 1), some (.inl 1), some (.inl 0), z8, z9] (v.toList ++ []) M1 Q)))) ∧ (¬ (¬ (sm_I M b_37 (x1).toNatClampNeg) = 0) → sm_Run (d + 1) 184 48 [some (.inr (some a0)), some (.inl x1), some (.inl (sm_I M b_2 (x1).toNatClampNeg)), some (.inl (sm_I M b_6 (sm_I M b_2 (x1).toNatClampNeg).toNatClampNeg)), some (.inl 1), some (.inl 0), z6, z7, z8, z9] [] M Q))))) :
    sm_Run (d + 1) 184 0 [some (.inr (some a0)), some (.inl x1), z2, z3, z4, z5, z6, z7, z8, z9] [] M Q := by
  refine ru_go (t := (1, [some (.inr (some a0)), some (.inl x1), z2, z3, z4, z5, z6, z7, z8, z9], [.inr (some a0)], M)) sm_a184_0 rfl rfl rfl ?_
  obtain ⟨h_1, h⟩ := h
  refine ru_go (t := (4, [some (.inr (some a0)), some (.inl x1), z2, z3, z4, z5, z6, z7, z8, z9], [.inr (sm_R M a0 71)], M)) sm_a184_1 rfl rfl (st_getR h_1 rfl rfl) ?_
  refine ru_go (t := (5, [some (.inr (some a0)), some (.inl x1), z2, z3, z4, z5, z6, z7, z8, z9], [.inl x1, .inr (sm_R M a0 71)], M)) sm_a184_4 rfl rfl rfl ?_
  obtain ⟨b_2, hb_3, h⟩ := h
  rw [hb_3]
  obtain ⟨h_4, h⟩ := h
  obtain ⟨h_5, h⟩ := h
  refine ru_go (t := (6, [some (.inr (some a0)), some (.inl x1), z2, z3, z4, z5, z6, z7, z8, z9], [.inl (sm_I M b_2 (x1).toNatClampNeg)], M)) sm_a184_5 rfl rfl (st_iald h_4 h_5) ?_
  refine ru_go (t := (7, [some (.inr (some a0)), some (.inl x1), some (.inl (sm_I M b_2 (x1).toNatClampNeg)), z3, z4, z5, z6, z7, z8, z9], [], M)) sm_a184_6 rfl rfl rfl ?_
  refine ru_go (t := (8, [some (.inr (some a0)), some (.inl x1), some (.inl (sm_I M b_2 (x1).toNatClampNeg)), z3, z4, z5, z6, z7, z8, z9], [.inr (some a0)], M)) sm_a184_7 rfl rfl rfl ?_
  refine ru_go (t := (11, [some (.inr (some a0)), some (.inl x1), some (.inl (sm_I M b_2 (x1).toNatClampNeg)), z3, z4, z5, z6, z7, z8, z9], [.inr (sm_R M a0 59)], M)) sm_a184_8 rfl rfl (st_getR h_1 rfl rfl) ?_
  refine ru_go (t := (12, [some (.inr (some a0)), some (.inl x1), some (.inl (sm_I M b_2 (x1).toNatClampNeg)), z3, z4, z5, z6, z7, z8, z9], [.inl (sm_I M b_2 (x1).toNatClampNeg), .inr (sm_R M a0 59)], M)) sm_a184_11 rfl rfl rfl ?_
  obtain ⟨b_6, hb_7, h⟩ := h
  rw [hb_7]
  obtain ⟨h_8, h⟩ := h
  obtain ⟨h_9, h⟩ := h
  refine ru_go (t := (13, [some (.inr (some a0)), some (.inl x1), some (.inl (sm_I M b_2 (x1).toNatClampNeg)), z3, z4, z5, z6, z7, z8, z9], [.inl (sm_I M b_6 (sm_I M b_2 (x1).toNatClampNeg).toNatClampNeg)], M)) sm_a184_12 rfl rfl (st_iald h_8 h_9) ?_
  refine ru_go (t := (14, [some (.inr (some a0)), some (.inl x1), some (.inl (sm_I M b_2 (x1).toNatClampNeg)), some (.inl (sm_I M b_6 (sm_I M b_2 (x1).toNatClampNeg).toNatClampNeg)), z4, z5, z6, z7, z8, z9], [], M)) sm_a184_13 rfl rfl rfl ?_
  refine ru_go (t := (15, [some (.inr (some a0)), some (.inl x1), some (.inl (sm_I M b_2 (x1).toNatClampNeg)), some (.inl (sm_I M b_6 (sm_I M b_2 (x1).toNatClampNeg).toNatClampNeg)), z4, z5, z6, z7, z8, z9], [.inr (some a0)], M)) sm_a184_14 rfl rfl rfl ?_
  refine ru_go (t := (18, [some (.inr (some a0)), some (.inl x1), some (.inl (sm_I M b_2 (x1).toNatClampNeg)), some (.inl (sm_I M b_6 (sm_I M b_2 (x1).toNatClampNeg).toNatClampNeg)), z4, z5, z6, z7, z8, z9], [.inr (sm_R M a0 80)], M)) sm_a184_15 rfl rfl (st_getR h_1 rfl rfl) ?_
  refine ru_go (t := (20, [some (.inr (some a0)), some (.inl x1), some (.inl (sm_I M b_2 (x1).toNatClampNeg)), some (.inl (sm_I M b_6 (sm_I M b_2 (x1).toNatClampNeg).toNatClampNeg)), z4, z5, z6, z7, z8, z9], [.inl 8, .inr (sm_R M a0 80)], M)) sm_a184_18 rfl rfl (st_bipush (by decide)) ?_
  refine ru_go (t := (21, [some (.inr (some a0)), some (.inl x1), some (.inl (sm_I M b_2 (x1).toNatClampNeg)), some (.inl (sm_I M b_6 (sm_I M b_2 (x1).toNatClampNeg).toNatClampNeg)), z4, z5, z6, z7, z8, z9], [.inl x1, .inl 8, .inr (sm_R M a0 80)], M)) sm_a184_20 rfl rfl rfl ?_
  refine ru_go (t := (22, [some (.inr (some a0)), some (.inl x1), some (.inl (sm_I M b_2 (x1).toNatClampNeg)), some (.inl (sm_I M b_6 (sm_I M b_2 (x1).toNatClampNeg).toNatClampNeg)), z4, z5, z6, z7, z8, z9], [.inl (8 * x1), .inr (sm_R M a0 80)], M)) sm_a184_21 rfl rfl rfl ?_
  obtain ⟨b_10, hb_11, h⟩ := h
  rw [hb_11]
  obtain ⟨h_12, h⟩ := h
  obtain ⟨h_13, h⟩ := h
  refine ru_go (t := (23, [some (.inr (some a0)), some (.inl x1), some (.inl (sm_I M b_2 (x1).toNatClampNeg)), some (.inl (sm_I M b_6 (sm_I M b_2 (x1).toNatClampNeg).toNatClampNeg)), z4, z5, z6, z7, z8, z9], [.inl (sm_I M b_10 (8 * x1).toNatClampNeg)], M)) sm_a184_22 rfl rfl (st_iald h_12 h_13) ?_
  refine ru_go (t := (26, [some (.inr (some a0)), some (.inl x1), some (.inl (sm_I M b_2 (x1).toNatClampNeg)), some (.inl (sm_I M b_6 (sm_I M b_2 (x1).toNatClampNeg).toNatClampNeg)), z4, z5, z6, z7, z8, z9], [.inl 128, .inl (sm_I M b_10 (8 * x1).toNatClampNeg)], M)) sm_a184_23 rfl rfl (st_sipush (by decide)) ?_
  refine ru_icmp (pc := 26) (p := 33) (p2 := 29) sm_a184_26 (by decide) rfl ⟨fun hc_14 => ?_, fun hc_14 => ?_⟩
  · have h := h.1 hc_14
    refine ru_go (t := (34, [some (.inr (some a0)), some (.inl x1), some (.inl (sm_I M b_2 (x1).toNatClampNeg)), some (.inl (sm_I M b_6 (sm_I M b_2 (x1).toNatClampNeg).toNatClampNeg)), z4, z5, z6, z7, z8, z9], [.inl 0], M)) sm_a184_33 rfl rfl (st_iconst (by decide)) ?_
    refine ru_go (t := (36, [some (.inr (some a0)), some (.inl x1), some (.inl (sm_I M b_2 (x1).toNatClampNeg)), some (.inl (sm_I M b_6 (sm_I M b_2 (x1).toNatClampNeg).toNatClampNeg)), some (.inl 0), z5, z6, z7, z8, z9], [], M)) sm_a184_34 rfl rfl rfl ?_
    refine ru_go (t := (37, [some (.inr (some a0)), some (.inl x1), some (.inl (sm_I M b_2 (x1).toNatClampNeg)), some (.inl (sm_I M b_6 (sm_I M b_2 (x1).toNatClampNeg).toNatClampNeg)), some (.inl 0), z5, z6, z7, z8, z9], [.inr (some a0)], M)) sm_a184_36 rfl rfl rfl ?_
    refine ru_go (t := (40, [some (.inr (some a0)), some (.inl x1), some (.inl (sm_I M b_2 (x1).toNatClampNeg)), some (.inl (sm_I M b_6 (sm_I M b_2 (x1).toNatClampNeg).toNatClampNeg)), some (.inl 0), z5, z6, z7, z8, z9], [.inr (sm_R M a0 77)], M)) sm_a184_37 rfl rfl (st_getR h_1 rfl rfl) ?_
    refine ru_go (t := (41, [some (.inr (some a0)), some (.inl x1), some (.inl (sm_I M b_2 (x1).toNatClampNeg)), some (.inl (sm_I M b_6 (sm_I M b_2 (x1).toNatClampNeg).toNatClampNeg)), some (.inl 0), z5, z6, z7, z8, z9], [.inl x1, .inr (sm_R M a0 77)], M)) sm_a184_40 rfl rfl rfl ?_
    obtain ⟨b_15, hb_16, h⟩ := h
    rw [hb_16]
    obtain ⟨h_17, h⟩ := h
    obtain ⟨h_18, h⟩ := h
    refine ru_go (t := (42, [some (.inr (some a0)), some (.inl x1), some (.inl (sm_I M b_2 (x1).toNatClampNeg)), some (.inl (sm_I M b_6 (sm_I M b_2 (x1).toNatClampNeg).toNatClampNeg)), some (.inl 0), z5, z6, z7, z8, z9], [.inl (sm_I M b_15 (x1).toNatClampNeg)], M)) sm_a184_41 rfl rfl (st_iald h_17 h_18) ?_
    refine ru_if (pc := 42) (p := 143) (p2 := 45) sm_a184_42 (by decide) rfl ⟨fun hc_19 => ?_, fun hc_19 => ?_⟩
    · have h := h.1 hc_19
      refine ru_go (t := (144, [some (.inr (some a0)), some (.inl x1), some (.inl (sm_I M b_2 (x1).toNatClampNeg)), some (.inl (sm_I M b_6 (sm_I M b_2 (x1).toNatClampNeg).toNatClampNeg)), some (.inl 0), z5, z6, z7, z8, z9], [.inr (some a0)], M)) sm_a184_143 rfl rfl rfl ?_
      refine ru_go (t := (147, [some (.inr (some a0)), some (.inl x1), some (.inl (sm_I M b_2 (x1).toNatClampNeg)), some (.inl (sm_I M b_6 (sm_I M b_2 (x1).toNatClampNeg).toNatClampNeg)), some (.inl 0), z5, z6, z7, z8, z9], [.inr (sm_R M a0 77)], M)) sm_a184_144 rfl rfl (st_getR h_1 rfl rfl) ?_
      refine ru_go (t := (148, [some (.inr (some a0)), some (.inl x1), some (.inl (sm_I M b_2 (x1).toNatClampNeg)), some (.inl (sm_I M b_6 (sm_I M b_2 (x1).toNatClampNeg).toNatClampNeg)), some (.inl 0), z5, z6, z7, z8, z9], [.inl x1, .inr (sm_R M a0 77)], M)) sm_a184_147 rfl rfl rfl ?_
      obtain ⟨b_20, hb_21, h⟩ := h
      rw [hb_21]
      obtain ⟨h_22, h⟩ := h
      obtain ⟨h_23, h⟩ := h
      refine ru_go (t := (149, [some (.inr (some a0)), some (.inl x1), some (.inl (sm_I M b_2 (x1).toNatClampNeg)), some (.inl (sm_I M b_6 (sm_I M b_2 (x1).toNatClampNeg).toNatClampNeg)), some (.inl 0), z5, z6, z7, z8, z9], [.inl (sm_I M b_20 (x1).toNatClampNeg)], M)) sm_a184_148 rfl rfl (st_iald h_22 h_23) ?_
      refine ru_go (t := (150, [some (.inr (some a0)), some (.inl x1), some (.inl (sm_I M b_2 (x1).toNatClampNeg)), some (.inl (sm_I M b_6 (sm_I M b_2 (x1).toNatClampNeg).toNatClampNeg)), some (.inl 0), z5, z6, z7, z8, z9], [.inl 1, .inl (sm_I M b_20 (x1).toNatClampNeg)], M)) sm_a184_149 rfl rfl (st_iconst (by decide)) ?_
      refine ru_icmp (pc := 150) (p := 157) (p2 := 153) sm_a184_150 (by decide) rfl ⟨fun hc_24 => ?_, fun hc_24 => ?_⟩
      · have h := h.1 hc_24
        refine ru_go (t := (158, [some (.inr (some a0)), some (.inl x1), some (.inl (sm_I M b_2 (x1).toNatClampNeg)), some (.inl (sm_I M b_6 (sm_I M b_2 (x1).toNatClampNeg).toNatClampNeg)), some (.inl 0), z5, z6, z7, z8, z9], [.inl 0], M)) sm_a184_157 rfl rfl (st_iconst (by decide)) ?_
        refine ru_go (t := (160, [some (.inr (some a0)), some (.inl x1), some (.inl (sm_I M b_2 (x1).toNatClampNeg)), some (.inl (sm_I M b_6 (sm_I M b_2 (x1).toNatClampNeg).toNatClampNeg)), some (.inl 0), some (.inl 0), z6, z7, z8, z9], [], M)) sm_a184_158 rfl rfl rfl ?_
        refine ru_go (t := (162, [some (.inr (some a0)), some (.inl x1), some (.inl (sm_I M b_2 (x1).toNatClampNeg)), some (.inl (sm_I M b_6 (sm_I M b_2 (x1).toNatClampNeg).toNatClampNeg)), some (.inl 0), some (.inl 0), z6, z7, z8, z9], [.inl 0], M)) sm_a184_160 rfl rfl rfl ?_
        refine ru_if (pc := 162) (p := 170) (p2 := 165) sm_a184_162 (by decide) rfl ⟨fun _ => ?_, fun hc => absurd (show sm_cP .eq 0 0 from (by show (0 : Int32) = 0; decide)) hc⟩
        refine ru_go (t := (172, [some (.inr (some a0)), some (.inl x1), some (.inl (sm_I M b_2 (x1).toNatClampNeg)), some (.inl (sm_I M b_6 (sm_I M b_2 (x1).toNatClampNeg).toNatClampNeg)), some (.inl 0), some (.inl 0), z6, z7, z8, z9], [.inl 0], M)) sm_a184_170 rfl rfl rfl ?_
        refine ru_if (pc := 172) (p := 184) (p2 := 175) sm_a184_172 (by decide) rfl ⟨fun _ => ?_, fun hc => absurd (show sm_cP .eq 0 0 from (by show (0 : Int32) = 0; decide)) hc⟩
        exact h
      · have h := h.2 hc_24
        refine ru_go (t := (154, [some (.inr (some a0)), some (.inl x1), some (.inl (sm_I M b_2 (x1).toNatClampNeg)), some (.inl (sm_I M b_6 (sm_I M b_2 (x1).toNatClampNeg).toNatClampNeg)), some (.inl 0), z5, z6, z7, z8, z9], [.inl 1], M)) sm_a184_153 rfl rfl (st_iconst (by decide)) ?_
        refine ru_go (t := (158, [some (.inr (some a0)), some (.inl x1), some (.inl (sm_I M b_2 (x1).toNatClampNeg)), some (.inl (sm_I M b_6 (sm_I M b_2 (x1).toNatClampNeg).toNatClampNeg)), some (.inl 0), z5, z6, z7, z8, z9], [.inl 1], M)) sm_a184_154 rfl rfl (st_goto (pc := 154) (by decide)) ?_
        refine ru_go (t := (160, [some (.inr (some a0)), some (.inl x1), some (.inl (sm_I M b_2 (x1).toNatClampNeg)), some (.inl (sm_I M b_6 (sm_I M b_2 (x1).toNatClampNeg).toNatClampNeg)), some (.inl 0), some (.inl 1), z6, z7, z8, z9], [], M)) sm_a184_158 rfl rfl rfl ?_
        refine ru_go (t := (162, [some (.inr (some a0)), some (.inl x1), some (.inl (sm_I M b_2 (x1).toNatClampNeg)), some (.inl (sm_I M b_6 (sm_I M b_2 (x1).toNatClampNeg).toNatClampNeg)), some (.inl 0), some (.inl 1), z6, z7, z8, z9], [.inl 1], M)) sm_a184_160 rfl rfl rfl ?_
        refine ru_if (pc := 162) (p := 170) (p2 := 165) sm_a184_162 (by decide) rfl ⟨fun hc => absurd (show (1 : Int32) = 0 from hc) (by decide), fun _ => ?_⟩
        refine ru_go (t := (167, [some (.inr (some a0)), some (.inl x1), some (.inl (sm_I M b_2 (x1).toNatClampNeg)), some (.inl (sm_I M b_6 (sm_I M b_2 (x1).toNatClampNeg).toNatClampNeg)), some (.inl 0), some (.inl 1), z6, z7, z8, z9], [.inl 0], M)) sm_a184_165 rfl rfl rfl ?_
        refine ru_go (t := (189, [some (.inr (some a0)), some (.inl x1), some (.inl (sm_I M b_2 (x1).toNatClampNeg)), some (.inl (sm_I M b_6 (sm_I M b_2 (x1).toNatClampNeg).toNatClampNeg)), some (.inl 0), some (.inl 1), z6, z7, z8, z9], [.inl 0], M)) sm_a184_167 rfl rfl (st_goto (pc := 167) (by decide)) ?_
        refine ru_go (t := (191, [some (.inr (some a0)), some (.inl x1), some (.inl (sm_I M b_2 (x1).toNatClampNeg)), some (.inl (sm_I M b_6 (sm_I M b_2 (x1).toNatClampNeg).toNatClampNeg)), some (.inl 0), some (.inl 1), some (.inl 0), z7, z8, z9], [], M)) sm_a184_189 rfl rfl rfl ?_
        refine ru_go (t := (192, [some (.inr (some a0)), some (.inl x1), some (.inl (sm_I M b_2 (x1).toNatClampNeg)), some (.inl (sm_I M b_6 (sm_I M b_2 (x1).toNatClampNeg).toNatClampNeg)), some (.inl 0), some (.inl 1), some (.inl 0), z7, z8, z9], [.inl 0], M)) sm_a184_191 rfl rfl (st_iconst (by decide)) ?_
        refine ru_go (t := (194, [some (.inr (some a0)), some (.inl x1), some (.inl (sm_I M b_2 (x1).toNatClampNeg)), some (.inl (sm_I M b_6 (sm_I M b_2 (x1).toNatClampNeg).toNatClampNeg)), some (.inl 0), some (.inl 1), some (.inl 0), some (.inl 0), z8, z9], [], M)) sm_a184_192 rfl rfl rfl ?_
        refine ru_go (t := (196, [some (.inr (some a0)), some (.inl x1), some (.inl (sm_I M b_2 (x1).toNatClampNeg)), some (.inl (sm_I M b_6 (sm_I M b_2 (x1).toNatClampNeg).toNatClampNeg)), some (.inl 0), some (.inl 1), some (.inl 0), some (.inl 0), z8, z9], [.inl 0], M)) sm_a184_194 rfl rfl rfl ?_
        refine ru_if (pc := 196) (p := 208) (p2 := 199) sm_a184_196 (by decide) rfl ⟨fun _ => ?_, fun hc => absurd (show sm_cP .eq 0 0 from (by show (0 : Int32) = 0; decide)) hc⟩
        refine ru_go (t := (210, [some (.inr (some a0)), some (.inl x1), some (.inl (sm_I M b_2 (x1).toNatClampNeg)), some (.inl (sm_I M b_6 (sm_I M b_2 (x1).toNatClampNeg).toNatClampNeg)), some (.inl 0), some (.inl 1), some (.inl 0), some (.inl 0), z8, z9], [.inl 1], M)) sm_a184_208 rfl rfl rfl ?_
        refine ru_if (pc := 210) (p := 238) (p2 := 213) sm_a184_210 (by decide) rfl ⟨fun hc => absurd (show (1 : Int32) = 0 from hc) (by decide), fun _ => ?_⟩
        refine ru_go (t := (214, [some (.inr (some a0)), some (.inl x1), some (.inl (sm_I M b_2 (x1).toNatClampNeg)), some (.inl (sm_I M b_6 (sm_I M b_2 (x1).toNatClampNeg).toNatClampNeg)), some (.inl 0), some (.inl 1), some (.inl 0), some (.inl 0), z8, z9], [.inr (some a0)], M)) sm_a184_213 rfl rfl rfl ?_
        refine ru_go (t := (217, [some (.inr (some a0)), some (.inl x1), some (.inl (sm_I M b_2 (x1).toNatClampNeg)), some (.inl (sm_I M b_6 (sm_I M b_2 (x1).toNatClampNeg).toNatClampNeg)), some (.inl 0), some (.inl 1), some (.inl 0), some (.inl 0), z8, z9], [.inr (sm_R M a0 58)], M)) sm_a184_214 rfl rfl (st_getR h_1 rfl rfl) ?_
        refine ru_go (t := (218, [some (.inr (some a0)), some (.inl x1), some (.inl (sm_I M b_2 (x1).toNatClampNeg)), some (.inl (sm_I M b_6 (sm_I M b_2 (x1).toNatClampNeg).toNatClampNeg)), some (.inl 0), some (.inl 1), some (.inl 0), some (.inl 0), z8, z9], [.inl (sm_I M b_2 (x1).toNatClampNeg), .inr (sm_R M a0 58)], M)) sm_a184_217 rfl rfl rfl ?_
        obtain ⟨b_25, hb_26, h⟩ := h
        rw [hb_26]
        obtain ⟨h_27, h⟩ := h
        obtain ⟨h_28, h⟩ := h
        refine ru_go (t := (219, [some (.inr (some a0)), some (.inl x1), some (.inl (sm_I M b_2 (x1).toNatClampNeg)), some (.inl (sm_I M b_6 (sm_I M b_2 (x1).toNatClampNeg).toNatClampNeg)), some (.inl 0), some (.inl 1), some (.inl 0), some (.inl 0), z8, z9], [.inl (sm_I M b_25 (sm_I M b_2 (x1).toNatClampNeg).toNatClampNeg)], M)) sm_a184_218 rfl rfl (st_iald h_27 h_28) ?_
        refine ru_go (t := (220, [some (.inr (some a0)), some (.inl x1), some (.inl (sm_I M b_2 (x1).toNatClampNeg)), some (.inl (sm_I M b_6 (sm_I M b_2 (x1).toNatClampNeg).toNatClampNeg)), some (.inl 0), some (.inl 1), some (.inl 0), some (.inl 0), z8, z9], [.inr (some a0), .inl (sm_I M b_25 (sm_I M b_2 (x1).toNatClampNeg).toNatClampNeg)], M)) sm_a184_219 rfl rfl rfl ?_
        refine ru_go (t := (223, [some (.inr (some a0)), some (.inl x1), some (.inl (sm_I M b_2 (x1).toNatClampNeg)), some (.inl (sm_I M b_6 (sm_I M b_2 (x1).toNatClampNeg).toNatClampNeg)), some (.inl 0), some (.inl 1), some (.inl 0), some (.inl 0), z8, z9], [.inr (sm_R M a0 75), .inl (sm_I M b_25 (sm_I M b_2 (x1).toNatClampNeg).toNatClampNeg)], M)) sm_a184_220 rfl rfl (st_getR h_1 rfl rfl) ?_
        refine ru_go (t := (224, [some (.inr (some a0)), some (.inl x1), some (.inl (sm_I M b_2 (x1).toNatClampNeg)), some (.inl (sm_I M b_6 (sm_I M b_2 (x1).toNatClampNeg).toNatClampNeg)), some (.inl 0), some (.inl 1), some (.inl 0), some (.inl 0), z8, z9], [.inl x1, .inr (sm_R M a0 75), .inl (sm_I M b_25 (sm_I M b_2 (x1).toNatClampNeg).toNatClampNeg)], M)) sm_a184_223 rfl rfl rfl ?_
        obtain ⟨b_29, hb_30, h⟩ := h
        rw [hb_30]
        obtain ⟨h_31, h⟩ := h
        obtain ⟨h_32, h⟩ := h
        refine ru_go (t := (225, [some (.inr (some a0)), some (.inl x1), some (.inl (sm_I M b_2 (x1).toNatClampNeg)), some (.inl (sm_I M b_6 (sm_I M b_2 (x1).toNatClampNeg).toNatClampNeg)), some (.inl 0), some (.inl 1), some (.inl 0), some (.inl 0), z8, z9], [.inl (sm_I M b_29 (x1).toNatClampNeg), .inl (sm_I M b_25 (sm_I M b_2 (x1).toNatClampNeg).toNatClampNeg)], M)) sm_a184_224 rfl rfl (st_iald h_31 h_32) ?_
        refine ru_go (t := (226, [some (.inr (some a0)), some (.inl x1), some (.inl (sm_I M b_2 (x1).toNatClampNeg)), some (.inl (sm_I M b_6 (sm_I M b_2 (x1).toNatClampNeg).toNatClampNeg)), some (.inl 0), some (.inl 1), some (.inl 0), some (.inl 0), z8, z9], [.inr (some a0), .inl (sm_I M b_29 (x1).toNatClampNeg), .inl (sm_I M b_25 (sm_I M b_2 (x1).toNatClampNeg).toNatClampNeg)], M)) sm_a184_225 rfl rfl rfl ?_
        refine ru_go (t := (229, [some (.inr (some a0)), some (.inl x1), some (.inl (sm_I M b_2 (x1).toNatClampNeg)), some (.inl (sm_I M b_6 (sm_I M b_2 (x1).toNatClampNeg).toNatClampNeg)), some (.inl 0), some (.inl 1), some (.inl 0), some (.inl 0), z8, z9], [.inr (sm_R M a0 74), .inl (sm_I M b_29 (x1).toNatClampNeg), .inl (sm_I M b_25 (sm_I M b_2 (x1).toNatClampNeg).toNatClampNeg)], M)) sm_a184_226 rfl rfl (st_getR h_1 rfl rfl) ?_
        refine ru_go (t := (230, [some (.inr (some a0)), some (.inl x1), some (.inl (sm_I M b_2 (x1).toNatClampNeg)), some (.inl (sm_I M b_6 (sm_I M b_2 (x1).toNatClampNeg).toNatClampNeg)), some (.inl 0), some (.inl 1), some (.inl 0), some (.inl 0), z8, z9], [.inl x1, .inr (sm_R M a0 74), .inl (sm_I M b_29 (x1).toNatClampNeg), .inl (sm_I M b_25 (sm_I M b_2 (x1).toNatClampNeg).toNatClampNeg)], M)) sm_a184_229 rfl rfl rfl ?_
        obtain ⟨b_33, hb_34, h⟩ := h
        rw [hb_34]
        obtain ⟨h_35, h⟩ := h
        obtain ⟨h_36, h⟩ := h
        refine ru_go (t := (231, [some (.inr (some a0)), some (.inl x1), some (.inl (sm_I M b_2 (x1).toNatClampNeg)), some (.inl (sm_I M b_6 (sm_I M b_2 (x1).toNatClampNeg).toNatClampNeg)), some (.inl 0), some (.inl 1), some (.inl 0), some (.inl 0), z8, z9], [.inl (sm_I M b_33 (x1).toNatClampNeg), .inl (sm_I M b_29 (x1).toNatClampNeg), .inl (sm_I M b_25 (sm_I M b_2 (x1).toNatClampNeg).toNatClampNeg)], M)) sm_a184_230 rfl rfl (st_iald h_35 h_36) ?_
        refine ru_go (t := (232, [some (.inr (some a0)), some (.inl x1), some (.inl (sm_I M b_2 (x1).toNatClampNeg)), some (.inl (sm_I M b_6 (sm_I M b_2 (x1).toNatClampNeg).toNatClampNeg)), some (.inl 0), some (.inl 1), some (.inl 0), some (.inl 0), z8, z9], [.inl ((sm_I M b_29 (x1).toNatClampNeg) - (sm_I M b_33 (x1).toNatClampNeg)), .inl (sm_I M b_25 (sm_I M b_2 (x1).toNatClampNeg).toNatClampNeg)], M)) sm_a184_231 rfl rfl rfl ?_
        refine ru_go (t := (235, [some (.inr (some a0)), some (.inl x1), some (.inl (sm_I M b_2 (x1).toNatClampNeg)), some (.inl (sm_I M b_6 (sm_I M b_2 (x1).toNatClampNeg).toNatClampNeg)), some (.inl 0), some (.inl 1), some (.inl 0), some (.inl 0), z8, z9], [.inl (if (sm_I M b_29 (x1).toNatClampNeg) - (sm_I M b_33 (x1).toNatClampNeg) < sm_I M b_25 (sm_I M b_2 (x1).toNatClampNeg).toNatClampNeg then (sm_I M b_29 (x1).toNatClampNeg) - (sm_I M b_33 (x1).toNatClampNeg) else sm_I M b_25 (sm_I M b_2 (x1).toNatClampNeg).toNatClampNeg)], M)) sm_a184_232 rfl rfl (st_min (Nat.le_of_ble_eq_true rfl)) ?_
        refine ru_go (t := (239, [some (.inr (some a0)), some (.inl x1), some (.inl (sm_I M b_2 (x1).toNatClampNeg)), some (.inl (sm_I M b_6 (sm_I M b_2 (x1).toNatClampNeg).toNatClampNeg)), some (.inl 0), some (.inl 1), some (.inl 0), some (.inl 0), z8, z9], [.inl (if (sm_I M b_29 (x1).toNatClampNeg) - (sm_I M b_33 (x1).toNatClampNeg) < sm_I M b_25 (sm_I M b_2 (x1).toNatClampNeg).toNatClampNeg then (sm_I M b_29 (x1).toNatClampNeg) - (sm_I M b_33 (x1).toNatClampNeg) else sm_I M b_25 (sm_I M b_2 (x1).toNatClampNeg).toNatClampNeg)], M)) sm_a184_235 rfl rfl (st_goto (pc := 235) (by decide)) ?_
        refine ru_go (t := (241, [some (.inr (some a0)), some (.inl x1), some (.inl (sm_I M b_2 (x1).toNatClampNeg)), some (.inl (sm_I M b_6 (sm_I M b_2 (x1).toNatClampNeg).toNatClampNeg)), some (.inl 0), some (.inl 1), some (.inl 0), some (.inl (if (sm_I M b_29 (x1).toNatClampNeg) - (sm_I M b_33 (x1).toNatClampNeg) < sm_I M b_25 (sm_I M b_2 (x1).toNatClampNeg).toNatClampNeg then (sm_I M b_29 (x1).toNatClampNeg) - (sm_I M b_33 (x1).toNatClampNeg) else sm_I M b_25 (sm_I M b_2 (x1).toNatClampNeg).toNatClampNeg)), z8, z9], [], M)) sm_a184_239 rfl rfl rfl ?_
        refine ru_go (t := (242, [some (.inr (some a0)), some (.inl x1), some (.inl (sm_I M b_2 (x1).toNatClampNeg)), some (.inl (sm_I M b_6 (sm_I M b_2 (x1).toNatClampNeg).toNatClampNeg)), some (.inl 0), some (.inl 1), some (.inl 0), some (.inl (if (sm_I M b_29 (x1).toNatClampNeg) - (sm_I M b_33 (x1).toNatClampNeg) < sm_I M b_25 (sm_I M b_2 (x1).toNatClampNeg).toNatClampNeg then (sm_I M b_29 (x1).toNatClampNeg) - (sm_I M b_33 (x1).toNatClampNeg) else sm_I M b_25 (sm_I M b_2 (x1).toNatClampNeg).toNatClampNeg)), z8, z9], [.inl 0], M)) sm_a184_241 rfl rfl (st_iconst (by decide)) ?_
        refine ru_go (t := (244, [some (.inr (some a0)), some (.inl x1), some (.inl (sm_I M b_2 (x1).toNatClampNeg)), some (.inl (sm_I M b_6 (sm_I M b_2 (x1).toNatClampNeg).toNatClampNeg)), some (.inl 0), some (.inl 1), some (.inl 0), some (.inl (if (sm_I M b_29 (x1).toNatClampNeg) - (sm_I M b_33 (x1).toNatClampNeg) < sm_I M b_25 (sm_I M b_2 (x1).toNatClampNeg).toNatClampNeg then (sm_I M b_29 (x1).toNatClampNeg) - (sm_I M b_33 (x1).toNatClampNeg) else sm_I M b_25 (sm_I M b_2 (x1).toNatClampNeg).toNatClampNeg)), some (.inl 0), z9], [], M)) sm_a184_242 rfl rfl rfl ?_
        exact h
    · have h := h.2 hc_19
      refine ru_go (t := (46, [some (.inr (some a0)), some (.inl x1), some (.inl (sm_I M b_2 (x1).toNatClampNeg)), some (.inl (sm_I M b_6 (sm_I M b_2 (x1).toNatClampNeg).toNatClampNeg)), some (.inl 0), z5, z6, z7, z8, z9], [.inl 0], M)) sm_a184_45 rfl rfl (st_iconst (by decide)) ?_
      refine ru_go (t := (48, [some (.inr (some a0)), some (.inl x1), some (.inl (sm_I M b_2 (x1).toNatClampNeg)), some (.inl (sm_I M b_6 (sm_I M b_2 (x1).toNatClampNeg).toNatClampNeg)), some (.inl 0), some (.inl 0), z6, z7, z8, z9], [], M)) sm_a184_46 rfl rfl rfl ?_
      exact h
  · have h := h.2 hc_14
    refine ru_go (t := (30, [some (.inr (some a0)), some (.inl x1), some (.inl (sm_I M b_2 (x1).toNatClampNeg)), some (.inl (sm_I M b_6 (sm_I M b_2 (x1).toNatClampNeg).toNatClampNeg)), z4, z5, z6, z7, z8, z9], [.inl 1], M)) sm_a184_29 rfl rfl (st_iconst (by decide)) ?_
    refine ru_go (t := (34, [some (.inr (some a0)), some (.inl x1), some (.inl (sm_I M b_2 (x1).toNatClampNeg)), some (.inl (sm_I M b_6 (sm_I M b_2 (x1).toNatClampNeg).toNatClampNeg)), z4, z5, z6, z7, z8, z9], [.inl 1], M)) sm_a184_30 rfl rfl (st_goto (pc := 30) (by decide)) ?_
    refine ru_go (t := (36, [some (.inr (some a0)), some (.inl x1), some (.inl (sm_I M b_2 (x1).toNatClampNeg)), some (.inl (sm_I M b_6 (sm_I M b_2 (x1).toNatClampNeg).toNatClampNeg)), some (.inl 1), z5, z6, z7, z8, z9], [], M)) sm_a184_34 rfl rfl rfl ?_
    refine ru_go (t := (37, [some (.inr (some a0)), some (.inl x1), some (.inl (sm_I M b_2 (x1).toNatClampNeg)), some (.inl (sm_I M b_6 (sm_I M b_2 (x1).toNatClampNeg).toNatClampNeg)), some (.inl 1), z5, z6, z7, z8, z9], [.inr (some a0)], M)) sm_a184_36 rfl rfl rfl ?_
    refine ru_go (t := (40, [some (.inr (some a0)), some (.inl x1), some (.inl (sm_I M b_2 (x1).toNatClampNeg)), some (.inl (sm_I M b_6 (sm_I M b_2 (x1).toNatClampNeg).toNatClampNeg)), some (.inl 1), z5, z6, z7, z8, z9], [.inr (sm_R M a0 77)], M)) sm_a184_37 rfl rfl (st_getR h_1 rfl rfl) ?_
    refine ru_go (t := (41, [some (.inr (some a0)), some (.inl x1), some (.inl (sm_I M b_2 (x1).toNatClampNeg)), some (.inl (sm_I M b_6 (sm_I M b_2 (x1).toNatClampNeg).toNatClampNeg)), some (.inl 1), z5, z6, z7, z8, z9], [.inl x1, .inr (sm_R M a0 77)], M)) sm_a184_40 rfl rfl rfl ?_
    obtain ⟨b_37, hb_38, h⟩ := h
    rw [hb_38]
    obtain ⟨h_39, h⟩ := h
    obtain ⟨h_40, h⟩ := h
    refine ru_go (t := (42, [some (.inr (some a0)), some (.inl x1), some (.inl (sm_I M b_2 (x1).toNatClampNeg)), some (.inl (sm_I M b_6 (sm_I M b_2 (x1).toNatClampNeg).toNatClampNeg)), some (.inl 1), z5, z6, z7, z8, z9], [.inl (sm_I M b_37 (x1).toNatClampNeg)], M)) sm_a184_41 rfl rfl (st_iald h_39 h_40) ?_
    refine ru_if (pc := 42) (p := 143) (p2 := 45) sm_a184_42 (by decide) rfl ⟨fun hc_41 => ?_, fun hc_41 => ?_⟩
    · have h := h.1 hc_41
      refine ru_go (t := (144, [some (.inr (some a0)), some (.inl x1), some (.inl (sm_I M b_2 (x1).toNatClampNeg)), some (.inl (sm_I M b_6 (sm_I M b_2 (x1).toNatClampNeg).toNatClampNeg)), some (.inl 1), z5, z6, z7, z8, z9], [.inr (some a0)], M)) sm_a184_143 rfl rfl rfl ?_
      refine ru_go (t := (147, [some (.inr (some a0)), some (.inl x1), some (.inl (sm_I M b_2 (x1).toNatClampNeg)), some (.inl (sm_I M b_6 (sm_I M b_2 (x1).toNatClampNeg).toNatClampNeg)), some (.inl 1), z5, z6, z7, z8, z9], [.inr (sm_R M a0 77)], M)) sm_a184_144 rfl rfl (st_getR h_1 rfl rfl) ?_
      refine ru_go (t := (148, [some (.inr (some a0)), some (.inl x1), some (.inl (sm_I M b_2 (x1).toNatClampNeg)), some (.inl (sm_I M b_6 (sm_I M b_2 (x1).toNatClampNeg).toNatClampNeg)), some (.inl 1), z5, z6, z7, z8, z9], [.inl x1, .inr (sm_R M a0 77)], M)) sm_a184_147 rfl rfl rfl ?_
      obtain ⟨b_42, hb_43, h⟩ := h
      rw [hb_43]
      obtain ⟨h_44, h⟩ := h
      obtain ⟨h_45, h⟩ := h
      refine ru_go (t := (149, [some (.inr (some a0)), some (.inl x1), some (.inl (sm_I M b_2 (x1).toNatClampNeg)), some (.inl (sm_I M b_6 (sm_I M b_2 (x1).toNatClampNeg).toNatClampNeg)), some (.inl 1), z5, z6, z7, z8, z9], [.inl (sm_I M b_42 (x1).toNatClampNeg)], M)) sm_a184_148 rfl rfl (st_iald h_44 h_45) ?_
      refine ru_go (t := (150, [some (.inr (some a0)), some (.inl x1), some (.inl (sm_I M b_2 (x1).toNatClampNeg)), some (.inl (sm_I M b_6 (sm_I M b_2 (x1).toNatClampNeg).toNatClampNeg)), some (.inl 1), z5, z6, z7, z8, z9], [.inl 1, .inl (sm_I M b_42 (x1).toNatClampNeg)], M)) sm_a184_149 rfl rfl (st_iconst (by decide)) ?_
      refine ru_icmp (pc := 150) (p := 157) (p2 := 153) sm_a184_150 (by decide) rfl ⟨fun hc_46 => ?_, fun hc_46 => ?_⟩
      · have h := h.1 hc_46
        refine ru_go (t := (158, [some (.inr (some a0)), some (.inl x1), some (.inl (sm_I M b_2 (x1).toNatClampNeg)), some (.inl (sm_I M b_6 (sm_I M b_2 (x1).toNatClampNeg).toNatClampNeg)), some (.inl 1), z5, z6, z7, z8, z9], [.inl 0], M)) sm_a184_157 rfl rfl (st_iconst (by decide)) ?_
        refine ru_go (t := (160, [some (.inr (some a0)), some (.inl x1), some (.inl (sm_I M b_2 (x1).toNatClampNeg)), some (.inl (sm_I M b_6 (sm_I M b_2 (x1).toNatClampNeg).toNatClampNeg)), some (.inl 1), some (.inl 0), z6, z7, z8, z9], [], M)) sm_a184_158 rfl rfl rfl ?_
        refine ru_go (t := (162, [some (.inr (some a0)), some (.inl x1), some (.inl (sm_I M b_2 (x1).toNatClampNeg)), some (.inl (sm_I M b_6 (sm_I M b_2 (x1).toNatClampNeg).toNatClampNeg)), some (.inl 1), some (.inl 0), z6, z7, z8, z9], [.inl 0], M)) sm_a184_160 rfl rfl rfl ?_
        refine ru_if (pc := 162) (p := 170) (p2 := 165) sm_a184_162 (by decide) rfl ⟨fun _ => ?_, fun hc => absurd (show sm_cP .eq 0 0 from (by show (0 : Int32) = 0; decide)) hc⟩
        refine ru_go (t := (172, [some (.inr (some a0)), some (.inl x1), some (.inl (sm_I M b_2 (x1).toNatClampNeg)), some (.inl (sm_I M b_6 (sm_I M b_2 (x1).toNatClampNeg).toNatClampNeg)), some (.inl 1), some (.inl 0), z6, z7, z8, z9], [.inl 1], M)) sm_a184_170 rfl rfl rfl ?_
        refine ru_if (pc := 172) (p := 184) (p2 := 175) sm_a184_172 (by decide) rfl ⟨fun hc => absurd (show (1 : Int32) = 0 from hc) (by decide), fun _ => ?_⟩
        refine ru_go (t := (176, [some (.inr (some a0)), some (.inl x1), some (.inl (sm_I M b_2 (x1).toNatClampNeg)), some (.inl (sm_I M b_6 (sm_I M b_2 (x1).toNatClampNeg).toNatClampNeg)), some (.inl 1), some (.inl 0), z6, z7, z8, z9], [.inr (some a0)], M)) sm_a184_175 rfl rfl rfl ?_
        refine ru_go (t := (179, [some (.inr (some a0)), some (.inl x1), some (.inl (sm_I M b_2 (x1).toNatClampNeg)), some (.inl (sm_I M b_6 (sm_I M b_2 (x1).toNatClampNeg).toNatClampNeg)), some (.inl 1), some (.inl 0), z6, z7, z8, z9], [.inr (sm_R M a0 75)], M)) sm_a184_176 rfl rfl (st_getR h_1 rfl rfl) ?_
        refine ru_go (t := (180, [some (.inr (some a0)), some (.inl x1), some (.inl (sm_I M b_2 (x1).toNatClampNeg)), some (.inl (sm_I M b_6 (sm_I M b_2 (x1).toNatClampNeg).toNatClampNeg)), some (.inl 1), some (.inl 0), z6, z7, z8, z9], [.inl x1, .inr (sm_R M a0 75)], M)) sm_a184_179 rfl rfl rfl ?_
        obtain ⟨b_47, hb_48, h⟩ := h
        rw [hb_48]
        obtain ⟨h_49, h⟩ := h
        obtain ⟨h_50, h⟩ := h
        refine ru_go (t := (181, [some (.inr (some a0)), some (.inl x1), some (.inl (sm_I M b_2 (x1).toNatClampNeg)), some (.inl (sm_I M b_6 (sm_I M b_2 (x1).toNatClampNeg).toNatClampNeg)), some (.inl 1), some (.inl 0), z6, z7, z8, z9], [.inl (sm_I M b_47 (x1).toNatClampNeg)], M)) sm_a184_180 rfl rfl (st_iald h_49 h_50) ?_
        refine ru_if (pc := 181) (p := 188) (p2 := 184) sm_a184_181 (by decide) rfl ⟨fun hc_51 => ?_, fun hc_51 => ?_⟩
        · have h := h.1 hc_51
          refine ru_go (t := (189, [some (.inr (some a0)), some (.inl x1), some (.inl (sm_I M b_2 (x1).toNatClampNeg)), some (.inl (sm_I M b_6 (sm_I M b_2 (x1).toNatClampNeg).toNatClampNeg)), some (.inl 1), some (.inl 0), z6, z7, z8, z9], [.inl 0], M)) sm_a184_188 rfl rfl (st_iconst (by decide)) ?_
          refine ru_go (t := (191, [some (.inr (some a0)), some (.inl x1), some (.inl (sm_I M b_2 (x1).toNatClampNeg)), some (.inl (sm_I M b_6 (sm_I M b_2 (x1).toNatClampNeg).toNatClampNeg)), some (.inl 1), some (.inl 0), some (.inl 0), z7, z8, z9], [], M)) sm_a184_189 rfl rfl rfl ?_
          refine ru_go (t := (192, [some (.inr (some a0)), some (.inl x1), some (.inl (sm_I M b_2 (x1).toNatClampNeg)), some (.inl (sm_I M b_6 (sm_I M b_2 (x1).toNatClampNeg).toNatClampNeg)), some (.inl 1), some (.inl 0), some (.inl 0), z7, z8, z9], [.inl 0], M)) sm_a184_191 rfl rfl (st_iconst (by decide)) ?_
          refine ru_go (t := (194, [some (.inr (some a0)), some (.inl x1), some (.inl (sm_I M b_2 (x1).toNatClampNeg)), some (.inl (sm_I M b_6 (sm_I M b_2 (x1).toNatClampNeg).toNatClampNeg)), some (.inl 1), some (.inl 0), some (.inl 0), some (.inl 0), z8, z9], [], M)) sm_a184_192 rfl rfl rfl ?_
          refine ru_go (t := (196, [some (.inr (some a0)), some (.inl x1), some (.inl (sm_I M b_2 (x1).toNatClampNeg)), some (.inl (sm_I M b_6 (sm_I M b_2 (x1).toNatClampNeg).toNatClampNeg)), some (.inl 1), some (.inl 0), some (.inl 0), some (.inl 0), z8, z9], [.inl 0], M)) sm_a184_194 rfl rfl rfl ?_
          refine ru_if (pc := 196) (p := 208) (p2 := 199) sm_a184_196 (by decide) rfl ⟨fun _ => ?_, fun hc => absurd (show sm_cP .eq 0 0 from (by show (0 : Int32) = 0; decide)) hc⟩
          refine ru_go (t := (210, [some (.inr (some a0)), some (.inl x1), some (.inl (sm_I M b_2 (x1).toNatClampNeg)), some (.inl (sm_I M b_6 (sm_I M b_2 (x1).toNatClampNeg).toNatClampNeg)), some (.inl 1), some (.inl 0), some (.inl 0), some (.inl 0), z8, z9], [.inl 0], M)) sm_a184_208 rfl rfl rfl ?_
          refine ru_if (pc := 210) (p := 238) (p2 := 213) sm_a184_210 (by decide) rfl ⟨fun _ => ?_, fun hc => absurd (show sm_cP .eq 0 0 from (by show (0 : Int32) = 0; decide)) hc⟩
          refine ru_go (t := (239, [some (.inr (some a0)), some (.inl x1), some (.inl (sm_I M b_2 (x1).toNatClampNeg)), some (.inl (sm_I M b_6 (sm_I M b_2 (x1).toNatClampNeg).toNatClampNeg)), some (.inl 1), some (.inl 0), some (.inl 0), some (.inl 0), z8, z9], [.inl 0], M)) sm_a184_238 rfl rfl (st_iconst (by decide)) ?_
          refine ru_go (t := (241, [some (.inr (some a0)), some (.inl x1), some (.inl (sm_I M b_2 (x1).toNatClampNeg)), some (.inl (sm_I M b_6 (sm_I M b_2 (x1).toNatClampNeg).toNatClampNeg)), some (.inl 1), some (.inl 0), some (.inl 0), some (.inl 0), z8, z9], [], M)) sm_a184_239 rfl rfl rfl ?_
          refine ru_go (t := (242, [some (.inr (some a0)), some (.inl x1), some (.inl (sm_I M b_2 (x1).toNatClampNeg)), some (.inl (sm_I M b_6 (sm_I M b_2 (x1).toNatClampNeg).toNatClampNeg)), some (.inl 1), some (.inl 0), some (.inl 0), some (.inl 0), z8, z9], [.inl 0], M)) sm_a184_241 rfl rfl (st_iconst (by decide)) ?_
          refine ru_go (t := (244, [some (.inr (some a0)), some (.inl x1), some (.inl (sm_I M b_2 (x1).toNatClampNeg)), some (.inl (sm_I M b_6 (sm_I M b_2 (x1).toNatClampNeg).toNatClampNeg)), some (.inl 1), some (.inl 0), some (.inl 0), some (.inl 0), some (.inl 0), z9], [], M)) sm_a184_242 rfl rfl rfl ?_
          exact h
        · have h := h.2 hc_51
          exact h
      · have h := h.2 hc_46
        refine ru_go (t := (154, [some (.inr (some a0)), some (.inl x1), some (.inl (sm_I M b_2 (x1).toNatClampNeg)), some (.inl (sm_I M b_6 (sm_I M b_2 (x1).toNatClampNeg).toNatClampNeg)), some (.inl 1), z5, z6, z7, z8, z9], [.inl 1], M)) sm_a184_153 rfl rfl (st_iconst (by decide)) ?_
        refine ru_go (t := (158, [some (.inr (some a0)), some (.inl x1), some (.inl (sm_I M b_2 (x1).toNatClampNeg)), some (.inl (sm_I M b_6 (sm_I M b_2 (x1).toNatClampNeg).toNatClampNeg)), some (.inl 1), z5, z6, z7, z8, z9], [.inl 1], M)) sm_a184_154 rfl rfl (st_goto (pc := 154) (by decide)) ?_
        refine ru_go (t := (160, [some (.inr (some a0)), some (.inl x1), some (.inl (sm_I M b_2 (x1).toNatClampNeg)), some (.inl (sm_I M b_6 (sm_I M b_2 (x1).toNatClampNeg).toNatClampNeg)), some (.inl 1), some (.inl 1), z6, z7, z8, z9], [], M)) sm_a184_158 rfl rfl rfl ?_
        refine ru_go (t := (162, [some (.inr (some a0)), some (.inl x1), some (.inl (sm_I M b_2 (x1).toNatClampNeg)), some (.inl (sm_I M b_6 (sm_I M b_2 (x1).toNatClampNeg).toNatClampNeg)), some (.inl 1), some (.inl 1), z6, z7, z8, z9], [.inl 1], M)) sm_a184_160 rfl rfl rfl ?_
        refine ru_if (pc := 162) (p := 170) (p2 := 165) sm_a184_162 (by decide) rfl ⟨fun hc => absurd (show (1 : Int32) = 0 from hc) (by decide), fun _ => ?_⟩
        refine ru_go (t := (167, [some (.inr (some a0)), some (.inl x1), some (.inl (sm_I M b_2 (x1).toNatClampNeg)), some (.inl (sm_I M b_6 (sm_I M b_2 (x1).toNatClampNeg).toNatClampNeg)), some (.inl 1), some (.inl 1), z6, z7, z8, z9], [.inl 1], M)) sm_a184_165 rfl rfl rfl ?_
        refine ru_go (t := (189, [some (.inr (some a0)), some (.inl x1), some (.inl (sm_I M b_2 (x1).toNatClampNeg)), some (.inl (sm_I M b_6 (sm_I M b_2 (x1).toNatClampNeg).toNatClampNeg)), some (.inl 1), some (.inl 1), z6, z7, z8, z9], [.inl 1], M)) sm_a184_167 rfl rfl (st_goto (pc := 167) (by decide)) ?_
        refine ru_go (t := (191, [some (.inr (some a0)), some (.inl x1), some (.inl (sm_I M b_2 (x1).toNatClampNeg)), some (.inl (sm_I M b_6 (sm_I M b_2 (x1).toNatClampNeg).toNatClampNeg)), some (.inl 1), some (.inl 1), some (.inl 1), z7, z8, z9], [], M)) sm_a184_189 rfl rfl rfl ?_
        refine ru_go (t := (192, [some (.inr (some a0)), some (.inl x1), some (.inl (sm_I M b_2 (x1).toNatClampNeg)), some (.inl (sm_I M b_6 (sm_I M b_2 (x1).toNatClampNeg).toNatClampNeg)), some (.inl 1), some (.inl 1), some (.inl 1), z7, z8, z9], [.inl 0], M)) sm_a184_191 rfl rfl (st_iconst (by decide)) ?_
        refine ru_go (t := (194, [some (.inr (some a0)), some (.inl x1), some (.inl (sm_I M b_2 (x1).toNatClampNeg)), some (.inl (sm_I M b_6 (sm_I M b_2 (x1).toNatClampNeg).toNatClampNeg)), some (.inl 1), some (.inl 1), some (.inl 1), some (.inl 0), z8, z9], [], M)) sm_a184_192 rfl rfl rfl ?_
        refine ru_go (t := (196, [some (.inr (some a0)), some (.inl x1), some (.inl (sm_I M b_2 (x1).toNatClampNeg)), some (.inl (sm_I M b_6 (sm_I M b_2 (x1).toNatClampNeg).toNatClampNeg)), some (.inl 1), some (.inl 1), some (.inl 1), some (.inl 0), z8, z9], [.inl 1], M)) sm_a184_194 rfl rfl rfl ?_
        refine ru_if (pc := 196) (p := 208) (p2 := 199) sm_a184_196 (by decide) rfl ⟨fun hc => absurd (show (1 : Int32) = 0 from hc) (by decide), fun _ => ?_⟩
        refine ru_go (t := (200, [some (.inr (some a0)), some (.inl x1), some (.inl (sm_I M b_2 (x1).toNatClampNeg)), some (.inl (sm_I M b_6 (sm_I M b_2 (x1).toNatClampNeg).toNatClampNeg)), some (.inl 1), some (.inl 1), some (.inl 1), some (.inl 0), z8, z9], [.inr (some a0)], M)) sm_a184_199 rfl rfl rfl ?_
        refine ru_go (t := (201, [some (.inr (some a0)), some (.inl x1), some (.inl (sm_I M b_2 (x1).toNatClampNeg)), some (.inl (sm_I M b_6 (sm_I M b_2 (x1).toNatClampNeg).toNatClampNeg)), some (.inl 1), some (.inl 1), some (.inl 1), some (.inl 0), z8, z9], [.inl (sm_I M b_6 (sm_I M b_2 (x1).toNatClampNeg).toNatClampNeg), .inr (some a0)], M)) sm_a184_200 rfl rfl rfl ?_
        refine ru_go (t := (202, [some (.inr (some a0)), some (.inl x1), some (.inl (sm_I M b_2 (x1).toNatClampNeg)), some (.inl (sm_I M b_6 (sm_I M b_2 (x1).toNatClampNeg).toNatClampNeg)), some (.inl 1), some (.inl 1), some (.inl 1), some (.inl 0), z8, z9], [.inl 0, .inl (sm_I M b_6 (sm_I M b_2 (x1).toNatClampNeg).toNatClampNeg), .inr (some a0)], M)) sm_a184_201 rfl rfl (st_iconst (by decide)) ?_
        exact ru_call (p := 205) sm_a184_202 rfl (sc_virt (Or.inl rfl) rfl rfl h_1 (Nat.le_of_ble_eq_true rfl)) rfl h
    · have h := h.2 hc_41
      refine ru_go (t := (46, [some (.inr (some a0)), some (.inl x1), some (.inl (sm_I M b_2 (x1).toNatClampNeg)), some (.inl (sm_I M b_6 (sm_I M b_2 (x1).toNatClampNeg).toNatClampNeg)), some (.inl 1), z5, z6, z7, z8, z9], [.inl 0], M)) sm_a184_45 rfl rfl (st_iconst (by decide)) ?_
      refine ru_go (t := (48, [some (.inr (some a0)), some (.inl x1), some (.inl (sm_I M b_2 (x1).toNatClampNeg)), some (.inl (sm_I M b_6 (sm_I M b_2 (x1).toNatClampNeg).toNatClampNeg)), some (.inl 1), some (.inl 0), z6, z7, z8, z9], [], M)) sm_a184_46 rfl rfl rfl ?_
      exact h
theorem bb_184_48 {d : Nat} {M : sm_M} {Q : Option sm_V → sm_M → Prop} {a0 : Nat} {x1 : Int32} {x2 : Int32} {x3 : Int32} {x4 : Int32} {x5 : Int32} {z6 : Option sm_V} {z7 : Option sm_V} {z8 : Option sm_V} {z9 : Option sm_V}
    (h : ((8 ≤ x5 → sm_K M a0 = 39 ∧ sm_Run d 181 0 (sm_ent 181 [.inr (some a0), .inl 13, .inl x3, .inl 0, .inl 3, .inl 8]) [] M (fun v M1 => sm_Run (d + 1) 184 91 [some (.inr (some a0)), some (.inl x1), some (.inl x2), some (.inl x3), some (.inl x4), some (.inl x5), z6, z7, z8, z9] (v.toList ++ []) M1 Q)) ∧ (¬ (8 ≤ x5) → sm_K M a0 = 39 ∧ ∃ b_4, sm_R M a0 80 = some b_4 ∧ sm_iA M b_4 ∧ sm_in_ M b_4 ((8 * x1) + x5) ∧ ∃ b_8, sm_R M a0 83 = some b_8 ∧ sm_wA 1 M b_8 ∧ sm_in_ M b_8 x5 ∧ sm_Run (d + 1) 184 48 [some (.inr (some a0)), some (.inl x1), some (.inl x2), some (.inl x3), some (.inl x4), some (.inl (x5 + 1)), z6, z7, z8, z9] [] (sm_putI M b_8 (x5).toNatClampNeg (sm_I M b_4 ((8 * x1) + x5).toNatClampNeg)) Q))) :
    sm_Run (d + 1) 184 48 [some (.inr (some a0)), some (.inl x1), some (.inl x2), some (.inl x3), some (.inl x4), some (.inl x5), z6, z7, z8, z9] [] M Q := by
  refine ru_go (t := (50, [some (.inr (some a0)), some (.inl x1), some (.inl x2), some (.inl x3), some (.inl x4), some (.inl x5), z6, z7, z8, z9], [.inl x5], M)) sm_a184_48 rfl rfl rfl ?_
  refine ru_go (t := (52, [some (.inr (some a0)), some (.inl x1), some (.inl x2), some (.inl x3), some (.inl x4), some (.inl x5), z6, z7, z8, z9], [.inl 8, .inl x5], M)) sm_a184_50 rfl rfl (st_bipush (by decide)) ?_
  refine ru_icmp (pc := 52) (p := 80) (p2 := 55) sm_a184_52 (by decide) rfl ⟨fun hc_1 => ?_, fun hc_1 => ?_⟩
  · have h := h.1 hc_1
    refine ru_go (t := (81, [some (.inr (some a0)), some (.inl x1), some (.inl x2), some (.inl x3), some (.inl x4), some (.inl x5), z6, z7, z8, z9], [.inr (some a0)], M)) sm_a184_80 rfl rfl rfl ?_
    refine ru_go (t := (83, [some (.inr (some a0)), some (.inl x1), some (.inl x2), some (.inl x3), some (.inl x4), some (.inl x5), z6, z7, z8, z9], [.inl 13, .inr (some a0)], M)) sm_a184_81 rfl rfl (st_bipush (by decide)) ?_
    refine ru_go (t := (84, [some (.inr (some a0)), some (.inl x1), some (.inl x2), some (.inl x3), some (.inl x4), some (.inl x5), z6, z7, z8, z9], [.inl x3, .inl 13, .inr (some a0)], M)) sm_a184_83 rfl rfl rfl ?_
    refine ru_go (t := (85, [some (.inr (some a0)), some (.inl x1), some (.inl x2), some (.inl x3), some (.inl x4), some (.inl x5), z6, z7, z8, z9], [.inl 0, .inl x3, .inl 13, .inr (some a0)], M)) sm_a184_84 rfl rfl (st_iconst (by decide)) ?_
    refine ru_go (t := (86, [some (.inr (some a0)), some (.inl x1), some (.inl x2), some (.inl x3), some (.inl x4), some (.inl x5), z6, z7, z8, z9], [.inl 3, .inl 0, .inl x3, .inl 13, .inr (some a0)], M)) sm_a184_85 rfl rfl (st_iconst (by decide)) ?_
    refine ru_go (t := (88, [some (.inr (some a0)), some (.inl x1), some (.inl x2), some (.inl x3), some (.inl x4), some (.inl x5), z6, z7, z8, z9], [.inl 8, .inl 3, .inl 0, .inl x3, .inl 13, .inr (some a0)], M)) sm_a184_86 rfl rfl (st_bipush (by decide)) ?_
    obtain ⟨h_2, h⟩ := h
    exact ru_call (p := 91) sm_a184_88 rfl (sc_virt (Or.inl rfl) rfl rfl h_2 (Nat.le_of_ble_eq_true rfl)) rfl h
  · have h := h.2 hc_1
    refine ru_go (t := (56, [some (.inr (some a0)), some (.inl x1), some (.inl x2), some (.inl x3), some (.inl x4), some (.inl x5), z6, z7, z8, z9], [.inr (some a0)], M)) sm_a184_55 rfl rfl rfl ?_
    obtain ⟨h_3, h⟩ := h
    refine ru_go (t := (59, [some (.inr (some a0)), some (.inl x1), some (.inl x2), some (.inl x3), some (.inl x4), some (.inl x5), z6, z7, z8, z9], [.inr (sm_R M a0 83)], M)) sm_a184_56 rfl rfl (st_getR h_3 rfl rfl) ?_
    refine ru_go (t := (61, [some (.inr (some a0)), some (.inl x1), some (.inl x2), some (.inl x3), some (.inl x4), some (.inl x5), z6, z7, z8, z9], [.inl x5, .inr (sm_R M a0 83)], M)) sm_a184_59 rfl rfl rfl ?_
    refine ru_go (t := (62, [some (.inr (some a0)), some (.inl x1), some (.inl x2), some (.inl x3), some (.inl x4), some (.inl x5), z6, z7, z8, z9], [.inr (some a0), .inl x5, .inr (sm_R M a0 83)], M)) sm_a184_61 rfl rfl rfl ?_
    refine ru_go (t := (65, [some (.inr (some a0)), some (.inl x1), some (.inl x2), some (.inl x3), some (.inl x4), some (.inl x5), z6, z7, z8, z9], [.inr (sm_R M a0 80), .inl x5, .inr (sm_R M a0 83)], M)) sm_a184_62 rfl rfl (st_getR h_3 rfl rfl) ?_
    refine ru_go (t := (67, [some (.inr (some a0)), some (.inl x1), some (.inl x2), some (.inl x3), some (.inl x4), some (.inl x5), z6, z7, z8, z9], [.inl 8, .inr (sm_R M a0 80), .inl x5, .inr (sm_R M a0 83)], M)) sm_a184_65 rfl rfl (st_bipush (by decide)) ?_
    refine ru_go (t := (68, [some (.inr (some a0)), some (.inl x1), some (.inl x2), some (.inl x3), some (.inl x4), some (.inl x5), z6, z7, z8, z9], [.inl x1, .inl 8, .inr (sm_R M a0 80), .inl x5, .inr (sm_R M a0 83)], M)) sm_a184_67 rfl rfl rfl ?_
    refine ru_go (t := (69, [some (.inr (some a0)), some (.inl x1), some (.inl x2), some (.inl x3), some (.inl x4), some (.inl x5), z6, z7, z8, z9], [.inl (8 * x1), .inr (sm_R M a0 80), .inl x5, .inr (sm_R M a0 83)], M)) sm_a184_68 rfl rfl rfl ?_
    refine ru_go (t := (71, [some (.inr (some a0)), some (.inl x1), some (.inl x2), some (.inl x3), some (.inl x4), some (.inl x5), z6, z7, z8, z9], [.inl x5, .inl (8 * x1), .inr (sm_R M a0 80), .inl x5, .inr (sm_R M a0 83)], M)) sm_a184_69 rfl rfl rfl ?_
    refine ru_go (t := (72, [some (.inr (some a0)), some (.inl x1), some (.inl x2), some (.inl x3), some (.inl x4), some (.inl x5), z6, z7, z8, z9], [.inl ((8 * x1) + x5), .inr (sm_R M a0 80), .inl x5, .inr (sm_R M a0 83)], M)) sm_a184_71 rfl rfl rfl ?_
    obtain ⟨b_4, hb_5, h⟩ := h
    rw [hb_5]
    obtain ⟨h_6, h⟩ := h
    obtain ⟨h_7, h⟩ := h
    refine ru_go (t := (73, [some (.inr (some a0)), some (.inl x1), some (.inl x2), some (.inl x3), some (.inl x4), some (.inl x5), z6, z7, z8, z9], [.inl (sm_I M b_4 ((8 * x1) + x5).toNatClampNeg), .inl x5, .inr (sm_R M a0 83)], M)) sm_a184_72 rfl rfl (st_iald h_6 h_7) ?_
    obtain ⟨b_8, hb_9, h⟩ := h
    rw [hb_9]
    obtain ⟨h_10, h⟩ := h
    obtain ⟨h_11, h⟩ := h
    refine ru_go (t := (74, [some (.inr (some a0)), some (.inl x1), some (.inl x2), some (.inl x3), some (.inl x4), some (.inl x5), z6, z7, z8, z9], [], sm_putI M b_8 (x5).toNatClampNeg (sm_I M b_4 ((8 * x1) + x5).toNatClampNeg))) sm_a184_73 rfl rfl (st_iast h_10 h_11) ?_
    refine ru_go (t := (77, [some (.inr (some a0)), some (.inl x1), some (.inl x2), some (.inl x3), some (.inl x4), some (.inl (x5 + 1)), z6, z7, z8, z9], [], sm_putI M b_8 (x5).toNatClampNeg (sm_I M b_4 ((8 * x1) + x5).toNatClampNeg))) sm_a184_74 rfl rfl (st_iinc rfl (by decide)) ?_
    refine ru_go (t := (48, [some (.inr (some a0)), some (.inl x1), some (.inl x2), some (.inl x3), some (.inl x4), some (.inl (x5 + 1)), z6, z7, z8, z9], [], sm_putI M b_8 (x5).toNatClampNeg (sm_I M b_4 ((8 * x1) + x5).toNatClampNeg))) sm_a184_77 rfl rfl (st_goto (pc := 77) (by decide)) ?_
    exact h
theorem bb_184_91 {d : Nat} {M : sm_M} {Q : Option sm_V → sm_M → Prop} {a0 : Nat} {x1 : Int32} {x2 : Int32} {x3 : Int32} {x4 : Int32} {x5 : Int32} {z6 : Option sm_V} {z7 : Option sm_V} {z8 : Option sm_V} {z9 : Option sm_V}
    (h : sm_K M a0 = 39 ∧ ((¬ (sm_I M a0 82) = 2 → sm_Run d 182 0 (sm_ent 182 [.inr (some a0), .inl x1]) [] M (fun v M1 => sm_Run (d + 1) 184 141 [some (.inr (some a0)), some (.inl x1), some (.inl x2), some (.inl x3), some (.inl x4), some (.inl x5), z6, z7, z8, z9] (v.toList ++ []) M1 Q)) ∧ (¬ (¬ (sm_I M a0 82) = 2) → ∃ b_3, sm_R M a0 76 = some b_3 ∧ sm_wA 1 M b_3 ∧ sm_in_ M b_3 x1 ∧ ∃ b_7, sm_R (sm_putI M b_3 (x1).toNatClampNeg 0) a0 78 = some b_7 ∧ sm_wA 1 M b_7 ∧ sm_in_ M b_7 x1 ∧ ∃ b_11, sm_R (sm_putI (sm_putI M b_3 (x1).toNatClampNeg 0) b_7 (x1).toNatClampNeg 1) a0 75 = some b_11 ∧ sm_iA M b_11 ∧ sm_in_ M b_11 x1 ∧ (((sm_I (sm_putI (sm_putI M b_3 (x1).toNatClampNeg 0) b_7 (x1).toNatClampNeg 1) b_11 (x1).toNatClampNeg) ≤ 0 → ∃ b_16, sm_R (sm_putI (sm_putI M b_3 (x1).toNatClampNeg 0) b_7 (x1).toNatClampNeg 1) a0 77 = some b_16 ∧ sm_wA 1 M b_16 ∧ sm_in_ M b_16 x1 ∧ Q (some (.inl 0)) (sm_putI (sm_putI (sm_putI M b_3 (x1).toNatClampNeg 0) b_7 (x1).toNatClampNeg 1) b_16 (x1).toNatClampNeg 2)) ∧ (¬ ((sm_I (sm_putI (sm_putI M b_3 (x1).toNatClampNeg 0) b_7 (x1).toNatClampNeg 1) b_11 (x1).toNatClampNeg) ≤ 0) → ∃ b_20, sm_R (sm_putI (sm_putI M b_3 (x1).toNatClampNeg 0) b_7 (x1).toNatClampNeg 1) a0 77 = some b_20 ∧ sm_wA 1 M b_20 ∧ sm_in_ M b_20 x1 ∧ Q (some (.inl 0)) (sm_putI (sm_putI (sm_putI M b_3 (x1).toNatClampNeg 0) b_7 (x1).toNatClampNeg 1) b_20 (x1).toNatClampNeg 1)))))) :
    sm_Run (d + 1) 184 91 [some (.inr (some a0)), some (.inl x1), some (.inl x2), some (.inl x3), some (.inl x4), some (.inl x5), z6, z7, z8, z9] [] M Q := by
  refine ru_go (t := (92, [some (.inr (some a0)), some (.inl x1), some (.inl x2), some (.inl x3), some (.inl x4), some (.inl x5), z6, z7, z8, z9], [.inr (some a0)], M)) sm_a184_91 rfl rfl rfl ?_
  obtain ⟨h_1, h⟩ := h
  refine ru_go (t := (95, [some (.inr (some a0)), some (.inl x1), some (.inl x2), some (.inl x3), some (.inl x4), some (.inl x5), z6, z7, z8, z9], [.inl (sm_I M a0 82)], M)) sm_a184_92 rfl rfl (st_getI h_1 rfl) ?_
  refine ru_go (t := (96, [some (.inr (some a0)), some (.inl x1), some (.inl x2), some (.inl x3), some (.inl x4), some (.inl x5), z6, z7, z8, z9], [.inl 2, .inl (sm_I M a0 82)], M)) sm_a184_95 rfl rfl (st_iconst (by decide)) ?_
  refine ru_icmp (pc := 96) (p := 136) (p2 := 99) sm_a184_96 (by decide) rfl ⟨fun hc_2 => ?_, fun hc_2 => ?_⟩
  · have h := h.1 hc_2
    refine ru_go (t := (137, [some (.inr (some a0)), some (.inl x1), some (.inl x2), some (.inl x3), some (.inl x4), some (.inl x5), z6, z7, z8, z9], [.inr (some a0)], M)) sm_a184_136 rfl rfl rfl ?_
    refine ru_go (t := (138, [some (.inr (some a0)), some (.inl x1), some (.inl x2), some (.inl x3), some (.inl x4), some (.inl x5), z6, z7, z8, z9], [.inl x1, .inr (some a0)], M)) sm_a184_137 rfl rfl rfl ?_
    exact ru_call (p := 141) sm_a184_138 rfl (sc_virt (Or.inl rfl) rfl rfl h_1 (Nat.le_of_ble_eq_true rfl)) rfl h
  · have h := h.2 hc_2
    refine ru_go (t := (100, [some (.inr (some a0)), some (.inl x1), some (.inl x2), some (.inl x3), some (.inl x4), some (.inl x5), z6, z7, z8, z9], [.inr (some a0)], M)) sm_a184_99 rfl rfl rfl ?_
    refine ru_go (t := (103, [some (.inr (some a0)), some (.inl x1), some (.inl x2), some (.inl x3), some (.inl x4), some (.inl x5), z6, z7, z8, z9], [.inr (sm_R M a0 76)], M)) sm_a184_100 rfl rfl (st_getR h_1 rfl rfl) ?_
    refine ru_go (t := (104, [some (.inr (some a0)), some (.inl x1), some (.inl x2), some (.inl x3), some (.inl x4), some (.inl x5), z6, z7, z8, z9], [.inl x1, .inr (sm_R M a0 76)], M)) sm_a184_103 rfl rfl rfl ?_
    refine ru_go (t := (105, [some (.inr (some a0)), some (.inl x1), some (.inl x2), some (.inl x3), some (.inl x4), some (.inl x5), z6, z7, z8, z9], [.inl 0, .inl x1, .inr (sm_R M a0 76)], M)) sm_a184_104 rfl rfl (st_iconst (by decide)) ?_
    obtain ⟨b_3, hb_4, h⟩ := h
    rw [hb_4]
    obtain ⟨h_5, h⟩ := h
    obtain ⟨h_6, h⟩ := h
    refine ru_go (t := (106, [some (.inr (some a0)), some (.inl x1), some (.inl x2), some (.inl x3), some (.inl x4), some (.inl x5), z6, z7, z8, z9], [], sm_putI M b_3 (x1).toNatClampNeg 0)) sm_a184_105 rfl rfl (st_iast h_5 h_6) ?_
    refine ru_go (t := (107, [some (.inr (some a0)), some (.inl x1), some (.inl x2), some (.inl x3), some (.inl x4), some (.inl x5), z6, z7, z8, z9], [.inr (some a0)], sm_putI M b_3 (x1).toNatClampNeg 0)) sm_a184_106 rfl rfl rfl ?_
    refine ru_go (t := (110, [some (.inr (some a0)), some (.inl x1), some (.inl x2), some (.inl x3), some (.inl x4), some (.inl x5), z6, z7, z8, z9], [.inr (sm_R (sm_putI M b_3 (x1).toNatClampNeg 0) a0 78)], sm_putI M b_3 (x1).toNatClampNeg 0)) sm_a184_107 rfl rfl (st_getR h_1 rfl rfl) ?_
    refine ru_go (t := (111, [some (.inr (some a0)), some (.inl x1), some (.inl x2), some (.inl x3), some (.inl x4), some (.inl x5), z6, z7, z8, z9], [.inl x1, .inr (sm_R (sm_putI M b_3 (x1).toNatClampNeg 0) a0 78)], sm_putI M b_3 (x1).toNatClampNeg 0)) sm_a184_110 rfl rfl rfl ?_
    refine ru_go (t := (112, [some (.inr (some a0)), some (.inl x1), some (.inl x2), some (.inl x3), some (.inl x4), some (.inl x5), z6, z7, z8, z9], [.inl 1, .inl x1, .inr (sm_R (sm_putI M b_3 (x1).toNatClampNeg 0) a0 78)], sm_putI M b_3 (x1).toNatClampNeg 0)) sm_a184_111 rfl rfl (st_iconst (by decide)) ?_
    obtain ⟨b_7, hb_8, h⟩ := h
    rw [hb_8]
    obtain ⟨h_9, h⟩ := h
    obtain ⟨h_10, h⟩ := h
    refine ru_go (t := (113, [some (.inr (some a0)), some (.inl x1), some (.inl x2), some (.inl x3), some (.inl x4), some (.inl x5), z6, z7, z8, z9], [], sm_putI (sm_putI M b_3 (x1).toNatClampNeg 0) b_7 (x1).toNatClampNeg 1)) sm_a184_112 rfl rfl (st_iast h_9 h_10) ?_
    refine ru_go (t := (114, [some (.inr (some a0)), some (.inl x1), some (.inl x2), some (.inl x3), some (.inl x4), some (.inl x5), z6, z7, z8, z9], [.inr (some a0)], sm_putI (sm_putI M b_3 (x1).toNatClampNeg 0) b_7 (x1).toNatClampNeg 1)) sm_a184_113 rfl rfl rfl ?_
    refine ru_go (t := (117, [some (.inr (some a0)), some (.inl x1), some (.inl x2), some (.inl x3), some (.inl x4), some (.inl x5), z6, z7, z8, z9], [.inr (sm_R (sm_putI (sm_putI M b_3 (x1).toNatClampNeg 0) b_7 (x1).toNatClampNeg 1) a0 77)], sm_putI (sm_putI M b_3 (x1).toNatClampNeg 0) b_7 (x1).toNatClampNeg 1)) sm_a184_114 rfl rfl (st_getR h_1 rfl rfl) ?_
    refine ru_go (t := (118, [some (.inr (some a0)), some (.inl x1), some (.inl x2), some (.inl x3), some (.inl x4), some (.inl x5), z6, z7, z8, z9], [.inl x1, .inr (sm_R (sm_putI (sm_putI M b_3 (x1).toNatClampNeg 0) b_7 (x1).toNatClampNeg 1) a0 77)], sm_putI (sm_putI M b_3 (x1).toNatClampNeg 0) b_7 (x1).toNatClampNeg 1)) sm_a184_117 rfl rfl rfl ?_
    refine ru_go (t := (119, [some (.inr (some a0)), some (.inl x1), some (.inl x2), some (.inl x3), some (.inl x4), some (.inl x5), z6, z7, z8, z9], [.inr (some a0), .inl x1, .inr (sm_R (sm_putI (sm_putI M b_3 (x1).toNatClampNeg 0) b_7 (x1).toNatClampNeg 1) a0 77)], sm_putI (sm_putI M b_3 (x1).toNatClampNeg 0) b_7 (x1).toNatClampNeg 1)) sm_a184_118 rfl rfl rfl ?_
    refine ru_go (t := (122, [some (.inr (some a0)), some (.inl x1), some (.inl x2), some (.inl x3), some (.inl x4), some (.inl x5), z6, z7, z8, z9], [.inr (sm_R (sm_putI (sm_putI M b_3 (x1).toNatClampNeg 0) b_7 (x1).toNatClampNeg 1) a0 75), .inl x1, .inr (sm_R (sm_putI (sm_putI M b_3 (x1).toNatClampNeg 0) b_7 (x1).toNatClampNeg 1) a0 77)], sm_putI (sm_putI M b_3 (x1).toNatClampNeg 0) b_7 (x1).toNatClampNeg 1)) sm_a184_119 rfl rfl (st_getR h_1 rfl rfl) ?_
    refine ru_go (t := (123, [some (.inr (some a0)), some (.inl x1), some (.inl x2), some (.inl x3), some (.inl x4), some (.inl x5), z6, z7, z8, z9], [.inl x1, .inr (sm_R (sm_putI (sm_putI M b_3 (x1).toNatClampNeg 0) b_7 (x1).toNatClampNeg 1) a0 75), .inl x1, .inr (sm_R (sm_putI (sm_putI M b_3 (x1).toNatClampNeg 0) b_7 (x1).toNatClampNeg 1) a0 77)], sm_putI (sm_putI M b_3 (x1).toNatClampNeg 0) b_7 (x1).toNatClampNeg 1)) sm_a184_122 rfl rfl rfl ?_
    obtain ⟨b_11, hb_12, h⟩ := h
    rw [hb_12]
    obtain ⟨h_13, h⟩ := h
    obtain ⟨h_14, h⟩ := h
    refine ru_go (t := (124, [some (.inr (some a0)), some (.inl x1), some (.inl x2), some (.inl x3), some (.inl x4), some (.inl x5), z6, z7, z8, z9], [.inl (sm_I (sm_putI (sm_putI M b_3 (x1).toNatClampNeg 0) b_7 (x1).toNatClampNeg 1) b_11 (x1).toNatClampNeg), .inl x1, .inr (sm_R (sm_putI (sm_putI M b_3 (x1).toNatClampNeg 0) b_7 (x1).toNatClampNeg 1) a0 77)], sm_putI (sm_putI M b_3 (x1).toNatClampNeg 0) b_7 (x1).toNatClampNeg 1)) sm_a184_123 rfl rfl (st_iald h_13 h_14) ?_
    refine ru_if (pc := 124) (p := 131) (p2 := 127) sm_a184_124 (by decide) rfl ⟨fun hc_15 => ?_, fun hc_15 => ?_⟩
    · have h := h.1 hc_15
      refine ru_go (t := (132, [some (.inr (some a0)), some (.inl x1), some (.inl x2), some (.inl x3), some (.inl x4), some (.inl x5), z6, z7, z8, z9], [.inl 2, .inl x1, .inr (sm_R (sm_putI (sm_putI M b_3 (x1).toNatClampNeg 0) b_7 (x1).toNatClampNeg 1) a0 77)], sm_putI (sm_putI M b_3 (x1).toNatClampNeg 0) b_7 (x1).toNatClampNeg 1)) sm_a184_131 rfl rfl (st_iconst (by decide)) ?_
      obtain ⟨b_16, hb_17, h⟩ := h
      rw [hb_17]
      obtain ⟨h_18, h⟩ := h
      obtain ⟨h_19, h⟩ := h
      refine ru_go (t := (133, [some (.inr (some a0)), some (.inl x1), some (.inl x2), some (.inl x3), some (.inl x4), some (.inl x5), z6, z7, z8, z9], [], sm_putI (sm_putI (sm_putI M b_3 (x1).toNatClampNeg 0) b_7 (x1).toNatClampNeg 1) b_16 (x1).toNatClampNeg 2)) sm_a184_132 rfl rfl (st_iast h_18 h_19) ?_
      refine ru_go (t := (141, [some (.inr (some a0)), some (.inl x1), some (.inl x2), some (.inl x3), some (.inl x4), some (.inl x5), z6, z7, z8, z9], [], sm_putI (sm_putI (sm_putI M b_3 (x1).toNatClampNeg 0) b_7 (x1).toNatClampNeg 1) b_16 (x1).toNatClampNeg 2)) sm_a184_133 rfl rfl (st_goto (pc := 133) (by decide)) ?_
      refine ru_go (t := (142, [some (.inr (some a0)), some (.inl x1), some (.inl x2), some (.inl x3), some (.inl x4), some (.inl x5), z6, z7, z8, z9], [.inl 0], sm_putI (sm_putI (sm_putI M b_3 (x1).toNatClampNeg 0) b_7 (x1).toNatClampNeg 1) b_16 (x1).toNatClampNeg 2)) sm_a184_141 rfl rfl (st_iconst (by decide)) ?_
      exact ru_ret sm_a184_142 (sm_rvz rfl (by decide)) h
    · have h := h.2 hc_15
      refine ru_go (t := (128, [some (.inr (some a0)), some (.inl x1), some (.inl x2), some (.inl x3), some (.inl x4), some (.inl x5), z6, z7, z8, z9], [.inl 1, .inl x1, .inr (sm_R (sm_putI (sm_putI M b_3 (x1).toNatClampNeg 0) b_7 (x1).toNatClampNeg 1) a0 77)], sm_putI (sm_putI M b_3 (x1).toNatClampNeg 0) b_7 (x1).toNatClampNeg 1)) sm_a184_127 rfl rfl (st_iconst (by decide)) ?_
      refine ru_go (t := (132, [some (.inr (some a0)), some (.inl x1), some (.inl x2), some (.inl x3), some (.inl x4), some (.inl x5), z6, z7, z8, z9], [.inl 1, .inl x1, .inr (sm_R (sm_putI (sm_putI M b_3 (x1).toNatClampNeg 0) b_7 (x1).toNatClampNeg 1) a0 77)], sm_putI (sm_putI M b_3 (x1).toNatClampNeg 0) b_7 (x1).toNatClampNeg 1)) sm_a184_128 rfl rfl (st_goto (pc := 128) (by decide)) ?_
      obtain ⟨b_20, hb_21, h⟩ := h
      rw [hb_21]
      obtain ⟨h_22, h⟩ := h
      obtain ⟨h_23, h⟩ := h
      refine ru_go (t := (133, [some (.inr (some a0)), some (.inl x1), some (.inl x2), some (.inl x3), some (.inl x4), some (.inl x5), z6, z7, z8, z9], [], sm_putI (sm_putI (sm_putI M b_3 (x1).toNatClampNeg 0) b_7 (x1).toNatClampNeg 1) b_20 (x1).toNatClampNeg 1)) sm_a184_132 rfl rfl (st_iast h_22 h_23) ?_
      refine ru_go (t := (141, [some (.inr (some a0)), some (.inl x1), some (.inl x2), some (.inl x3), some (.inl x4), some (.inl x5), z6, z7, z8, z9], [], sm_putI (sm_putI (sm_putI M b_3 (x1).toNatClampNeg 0) b_7 (x1).toNatClampNeg 1) b_20 (x1).toNatClampNeg 1)) sm_a184_133 rfl rfl (st_goto (pc := 133) (by decide)) ?_
      refine ru_go (t := (142, [some (.inr (some a0)), some (.inl x1), some (.inl x2), some (.inl x3), some (.inl x4), some (.inl x5), z6, z7, z8, z9], [.inl 0], sm_putI (sm_putI (sm_putI M b_3 (x1).toNatClampNeg 0) b_7 (x1).toNatClampNeg 1) b_20 (x1).toNatClampNeg 1)) sm_a184_141 rfl rfl (st_iconst (by decide)) ?_
      exact ru_ret sm_a184_142 (sm_rvz rfl (by decide)) h
theorem bb_184_141 {d : Nat} {M : sm_M} {Q : Option sm_V → sm_M → Prop} {a0 : Nat} {x1 : Int32} {x2 : Int32} {x3 : Int32} {x4 : Int32} {x5 : Int32} {z6 : Option sm_V} {z7 : Option sm_V} {z8 : Option sm_V} {z9 : Option sm_V}
    (h : Q (some (.inl 0)) M) :
    sm_Run (d + 1) 184 141 [some (.inr (some a0)), some (.inl x1), some (.inl x2), some (.inl x3), some (.inl x4), some (.inl x5), z6, z7, z8, z9] [] M Q := by
  refine ru_go (t := (142, [some (.inr (some a0)), some (.inl x1), some (.inl x2), some (.inl x3), some (.inl x4), some (.inl x5), z6, z7, z8, z9], [.inl 0], M)) sm_a184_141 rfl rfl (st_iconst (by decide)) ?_
  exact ru_ret sm_a184_142 (sm_rvz rfl (by decide)) h
theorem bb_184_184 {d : Nat} {M : sm_M} {Q : Option sm_V → sm_M → Prop} {a0 : Nat} {x1 : Int32} {x2 : Int32} {x3 : Int32} {x4 : Int32} {x5 : Int32} {z6 : Option sm_V} {z7 : Option sm_V} {z8 : Option sm_V} {z9 : Option sm_V}
    (h : sm_K M a0 = 39 ∧ sm_Run d 180 0 (sm_ent 180 [.inr (some a0), .inl x3, .inl 0]) [] M (fun v M1 => sm_Run (d + 1) 184 205 [some (.inr (some a0)), some (.inl x1), some (.inl x2), some (.inl x3), some (.inl x4), some (.inl x5), some (.inl 1), some (.inl 0), z8, z9] (v.toList ++ []) M1 Q)) :
    sm_Run (d + 1) 184 184 [some (.inr (some a0)), some (.inl x1), some (.inl x2), some (.inl x3), some (.inl x4), some (.inl x5), z6, z7, z8, z9] [] M Q := by
  refine ru_go (t := (185, [some (.inr (some a0)), some (.inl x1), some (.inl x2), some (.inl x3), some (.inl x4), some (.inl x5), z6, z7, z8, z9], [.inl 1], M)) sm_a184_184 rfl rfl (st_iconst (by decide)) ?_
  refine ru_go (t := (189, [some (.inr (some a0)), some (.inl x1), some (.inl x2), some (.inl x3), some (.inl x4), some (.inl x5), z6, z7, z8, z9], [.inl 1], M)) sm_a184_185 rfl rfl (st_goto (pc := 185) (by decide)) ?_
  refine ru_go (t := (191, [some (.inr (some a0)), some (.inl x1), some (.inl x2), some (.inl x3), some (.inl x4), some (.inl x5), some (.inl 1), z7, z8, z9], [], M)) sm_a184_189 rfl rfl rfl ?_
  refine ru_go (t := (192, [some (.inr (some a0)), some (.inl x1), some (.inl x2), some (.inl x3), some (.inl x4), some (.inl x5), some (.inl 1), z7, z8, z9], [.inl 0], M)) sm_a184_191 rfl rfl (st_iconst (by decide)) ?_
  refine ru_go (t := (194, [some (.inr (some a0)), some (.inl x1), some (.inl x2), some (.inl x3), some (.inl x4), some (.inl x5), some (.inl 1), some (.inl 0), z8, z9], [], M)) sm_a184_192 rfl rfl rfl ?_
  refine ru_go (t := (196, [some (.inr (some a0)), some (.inl x1), some (.inl x2), some (.inl x3), some (.inl x4), some (.inl x5), some (.inl 1), some (.inl 0), z8, z9], [.inl 1], M)) sm_a184_194 rfl rfl rfl ?_
  refine ru_if (pc := 196) (p := 208) (p2 := 199) sm_a184_196 (by decide) rfl ⟨fun hc => absurd (show (1 : Int32) = 0 from hc) (by decide), fun _ => ?_⟩
  refine ru_go (t := (200, [some (.inr (some a0)), some (.inl x1), some (.inl x2), some (.inl x3), some (.inl x4), some (.inl x5), some (.inl 1), some (.inl 0), z8, z9], [.inr (some a0)], M)) sm_a184_199 rfl rfl rfl ?_
  refine ru_go (t := (201, [some (.inr (some a0)), some (.inl x1), some (.inl x2), some (.inl x3), some (.inl x4), some (.inl x5), some (.inl 1), some (.inl 0), z8, z9], [.inl x3, .inr (some a0)], M)) sm_a184_200 rfl rfl rfl ?_
  refine ru_go (t := (202, [some (.inr (some a0)), some (.inl x1), some (.inl x2), some (.inl x3), some (.inl x4), some (.inl x5), some (.inl 1), some (.inl 0), z8, z9], [.inl 0, .inl x3, .inr (some a0)], M)) sm_a184_201 rfl rfl (st_iconst (by decide)) ?_
  obtain ⟨h_1, h⟩ := h
  exact ru_call (p := 205) sm_a184_202 rfl (sc_virt (Or.inl rfl) rfl rfl h_1 (Nat.le_of_ble_eq_true rfl)) rfl h
theorem bb_184_205 {d : Nat} {M : sm_M} {Q : Option sm_V → sm_M → Prop} {a0 : Nat} {x1 : Int32} {x2 : Int32} {x3 : Int32} {x4 : Int32} {x5 : Int32} {x6 : Int32} {x7 : Int32} {z8 : Option sm_V} {z9 : Option sm_V}
    (h : sm_Run (d + 1) 184 313 [some (.inr (some a0)), some (.inl x1), some (.inl x2), some (.inl x3), some (.inl x4), some (.inl x5), some (.inl x6), some (.inl x7), z8, z9] [] M Q) :
    sm_Run (d + 1) 184 205 [some (.inr (some a0)), some (.inl x1), some (.inl x2), some (.inl x3), some (.inl x4), some (.inl x5), some (.inl x6), some (.inl x7), z8, z9] [] M Q := by
  refine ru_go (t := (313, [some (.inr (some a0)), some (.inl x1), some (.inl x2), some (.inl x3), some (.inl x4), some (.inl x5), some (.inl x6), some (.inl x7), z8, z9], [], M)) sm_a184_205 rfl rfl (st_goto (pc := 205) (by decide)) ?_
  exact h
theorem bb_184_244 {d : Nat} {M : sm_M} {Q : Option sm_V → sm_M → Prop} {a0 : Nat} {x1 : Int32} {x2 : Int32} {x3 : Int32} {x4 : Int32} {x5 : Int32} {x6 : Int32} {x7 : Int32} {x8 : Int32} {z9 : Option sm_V}
    (h : ((x7 ≤ x8 → ((x5 = 0 → sm_K M a0 = 39 ∧ sm_Run d 181 0 (sm_ent 181 [.inr (some a0), .inl 1, .inl x3, .inl 0, .inl 11, .inl x7]) [] M (fun v M1 => sm_Run (d + 1) 184 313 [some (.inr (some a0)), some (.inl x1), some (.inl x2), some (.inl x3), some (.inl x4), some (.inl x5), some (.inl x6), some (.inl x7), some (.inl x8), z9] (v.toList ++ []) M1 Q)) ∧ (¬ (x5 = 0) → sm_K M a0 = 39 ∧ ∃ b_5, sm_R M a0 78 = some b_5 ∧ sm_iA M b_5 ∧ sm_in_ M b_5 x1 ∧ ((¬ (sm_I M b_5 (x1).toNatClampNeg) = 1 → sm_Run d 181 0 (sm_ent 181 [.inr (some a0), .inl 1, .inl x3, .inl 0, .inl 3, .inl x7]) [] M (fun v M1 => sm_Run (d + 1) 184 313 [some (.inr (some a0)), some (.inl x1), some (.inl x2), some (.inl x3), some (.inl x4), some (.inl x5), some (.inl x6), some (.inl x7), some (.inl x8), z9] (v.toList ++ []) M1 Q)) ∧ (¬ (¬ (sm_I M b_5 (x1).toNatClampNeg) = 1) → sm_Run d 181 0 (sm_ent 181 [.inr (some a0), .inl 1, .inl x3, .inl 0, .inl 11, .inl x7]) [] M (fun v M1 => sm_Run (d + 1) 184 313 [some (.inr (some a0)), some (.inl x1), some (.inl x2), some (.inl x3), some (.inl x4), some (.inl x5), some (.inl x6), some (.inl x7), some (.inl x8), z9] (v.toList ++ []) M1 Q)))))) ∧ (¬ (x7 ≤ x8) → sm_K M a0 = 39 ∧ ∃ b_11, sm_R M a0 74 = some b_11 ∧ sm_iA M b_11 ∧ sm_in_ M b_11 x1 ∧ ∃ b_15, sm_R M a0 81 = some b_15 ∧ sm_iA M b_15 ∧ sm_in_ M b_15 (((100 * x1) + (sm_I M b_11 (x1).toNatClampNeg)) + x8) ∧ ∃ b_19, sm_R M a0 83 = some b_19 ∧ sm_wA 1 M b_19 ∧ sm_in_ M b_19 x8 ∧ sm_Run (d + 1) 184 244 [some (.inr (some a0)), some (.inl x1), some (.inl x2), some (.inl x3), some (.inl x4), some (.inl x5), some (.inl x6), some (.inl x7), some (.inl (x8 + 1)), z9] [] (sm_putI M b_19 (x8).toNatClampNeg (sm_I M b_15 (((100 * x1) + (sm_I M b_11 (x1).toNatClampNeg)) + x8).toNatClampNeg)) Q))) :
    sm_Run (d + 1) 184 244 [some (.inr (some a0)), some (.inl x1), some (.inl x2), some (.inl x3), some (.inl x4), some (.inl x5), some (.inl x6), some (.inl x7), some (.inl x8), z9] [] M Q := by
  refine ru_go (t := (246, [some (.inr (some a0)), some (.inl x1), some (.inl x2), some (.inl x3), some (.inl x4), some (.inl x5), some (.inl x6), some (.inl x7), some (.inl x8), z9], [.inl x8], M)) sm_a184_244 rfl rfl rfl ?_
  refine ru_go (t := (248, [some (.inr (some a0)), some (.inl x1), some (.inl x2), some (.inl x3), some (.inl x4), some (.inl x5), some (.inl x6), some (.inl x7), some (.inl x8), z9], [.inl x7, .inl x8], M)) sm_a184_246 rfl rfl rfl ?_
  refine ru_icmp (pc := 248) (p := 283) (p2 := 251) sm_a184_248 (by decide) rfl ⟨fun hc_1 => ?_, fun hc_1 => ?_⟩
  · have h := h.1 hc_1
    refine ru_go (t := (284, [some (.inr (some a0)), some (.inl x1), some (.inl x2), some (.inl x3), some (.inl x4), some (.inl x5), some (.inl x6), some (.inl x7), some (.inl x8), z9], [.inr (some a0)], M)) sm_a184_283 rfl rfl rfl ?_
    refine ru_go (t := (285, [some (.inr (some a0)), some (.inl x1), some (.inl x2), some (.inl x3), some (.inl x4), some (.inl x5), some (.inl x6), some (.inl x7), some (.inl x8), z9], [.inl 1, .inr (some a0)], M)) sm_a184_284 rfl rfl (st_iconst (by decide)) ?_
    refine ru_go (t := (286, [some (.inr (some a0)), some (.inl x1), some (.inl x2), some (.inl x3), some (.inl x4), some (.inl x5), some (.inl x6), some (.inl x7), some (.inl x8), z9], [.inl x3, .inl 1, .inr (some a0)], M)) sm_a184_285 rfl rfl rfl ?_
    refine ru_go (t := (287, [some (.inr (some a0)), some (.inl x1), some (.inl x2), some (.inl x3), some (.inl x4), some (.inl x5), some (.inl x6), some (.inl x7), some (.inl x8), z9], [.inl 0, .inl x3, .inl 1, .inr (some a0)], M)) sm_a184_286 rfl rfl (st_iconst (by decide)) ?_
    refine ru_go (t := (289, [some (.inr (some a0)), some (.inl x1), some (.inl x2), some (.inl x3), some (.inl x4), some (.inl x5), some (.inl x6), some (.inl x7), some (.inl x8), z9], [.inl x5, .inl 0, .inl x3, .inl 1, .inr (some a0)], M)) sm_a184_287 rfl rfl rfl ?_
    refine ru_if (pc := 289) (p := 302) (p2 := 292) sm_a184_289 (by decide) rfl ⟨fun hc_2 => ?_, fun hc_2 => ?_⟩
    · have h := h.1 hc_2
      refine ru_go (t := (304, [some (.inr (some a0)), some (.inl x1), some (.inl x2), some (.inl x3), some (.inl x4), some (.inl x5), some (.inl x6), some (.inl x7), some (.inl x8), z9], [.inl 11, .inl 0, .inl x3, .inl 1, .inr (some a0)], M)) sm_a184_302 rfl rfl (st_bipush (by decide)) ?_
      refine ru_go (t := (308, [some (.inr (some a0)), some (.inl x1), some (.inl x2), some (.inl x3), some (.inl x4), some (.inl x5), some (.inl x6), some (.inl x7), some (.inl x8), z9], [.inl 11, .inl 0, .inl x3, .inl 1, .inr (some a0)], M)) sm_a184_304 rfl rfl (st_goto (pc := 304) (by decide)) ?_
      refine ru_go (t := (310, [some (.inr (some a0)), some (.inl x1), some (.inl x2), some (.inl x3), some (.inl x4), some (.inl x5), some (.inl x6), some (.inl x7), some (.inl x8), z9], [.inl x7, .inl 11, .inl 0, .inl x3, .inl 1, .inr (some a0)], M)) sm_a184_308 rfl rfl rfl ?_
      obtain ⟨h_3, h⟩ := h
      exact ru_call (p := 313) sm_a184_310 rfl (sc_virt (Or.inl rfl) rfl rfl h_3 (Nat.le_of_ble_eq_true rfl)) rfl h
    · have h := h.2 hc_2
      refine ru_go (t := (293, [some (.inr (some a0)), some (.inl x1), some (.inl x2), some (.inl x3), some (.inl x4), some (.inl x5), some (.inl x6), some (.inl x7), some (.inl x8), z9], [.inr (some a0), .inl 0, .inl x3, .inl 1, .inr (some a0)], M)) sm_a184_292 rfl rfl rfl ?_
      obtain ⟨h_4, h⟩ := h
      refine ru_go (t := (296, [some (.inr (some a0)), some (.inl x1), some (.inl x2), some (.inl x3), some (.inl x4), some (.inl x5), some (.inl x6), some (.inl x7), some (.inl x8), z9], [.inr (sm_R M a0 78), .inl 0, .inl x3, .inl 1, .inr (some a0)], M)) sm_a184_293 rfl rfl (st_getR h_4 rfl rfl) ?_
      refine ru_go (t := (297, [some (.inr (some a0)), some (.inl x1), some (.inl x2), some (.inl x3), some (.inl x4), some (.inl x5), some (.inl x6), some (.inl x7), some (.inl x8), z9], [.inl x1, .inr (sm_R M a0 78), .inl 0, .inl x3, .inl 1, .inr (some a0)], M)) sm_a184_296 rfl rfl rfl ?_
      obtain ⟨b_5, hb_6, h⟩ := h
      rw [hb_6]
      obtain ⟨h_7, h⟩ := h
      obtain ⟨h_8, h⟩ := h
      refine ru_go (t := (298, [some (.inr (some a0)), some (.inl x1), some (.inl x2), some (.inl x3), some (.inl x4), some (.inl x5), some (.inl x6), some (.inl x7), some (.inl x8), z9], [.inl (sm_I M b_5 (x1).toNatClampNeg), .inl 0, .inl x3, .inl 1, .inr (some a0)], M)) sm_a184_297 rfl rfl (st_iald h_7 h_8) ?_
      refine ru_go (t := (299, [some (.inr (some a0)), some (.inl x1), some (.inl x2), some (.inl x3), some (.inl x4), some (.inl x5), some (.inl x6), some (.inl x7), some (.inl x8), z9], [.inl 1, .inl (sm_I M b_5 (x1).toNatClampNeg), .inl 0, .inl x3, .inl 1, .inr (some a0)], M)) sm_a184_298 rfl rfl (st_iconst (by decide)) ?_
      refine ru_icmp (pc := 299) (p := 307) (p2 := 302) sm_a184_299 (by decide) rfl ⟨fun hc_9 => ?_, fun hc_9 => ?_⟩
      · have h := h.1 hc_9
        refine ru_go (t := (308, [some (.inr (some a0)), some (.inl x1), some (.inl x2), some (.inl x3), some (.inl x4), some (.inl x5), some (.inl x6), some (.inl x7), some (.inl x8), z9], [.inl 3, .inl 0, .inl x3, .inl 1, .inr (some a0)], M)) sm_a184_307 rfl rfl (st_iconst (by decide)) ?_
        refine ru_go (t := (310, [some (.inr (some a0)), some (.inl x1), some (.inl x2), some (.inl x3), some (.inl x4), some (.inl x5), some (.inl x6), some (.inl x7), some (.inl x8), z9], [.inl x7, .inl 3, .inl 0, .inl x3, .inl 1, .inr (some a0)], M)) sm_a184_308 rfl rfl rfl ?_
        exact ru_call (p := 313) sm_a184_310 rfl (sc_virt (Or.inl rfl) rfl rfl h_4 (Nat.le_of_ble_eq_true rfl)) rfl h
      · have h := h.2 hc_9
        refine ru_go (t := (304, [some (.inr (some a0)), some (.inl x1), some (.inl x2), some (.inl x3), some (.inl x4), some (.inl x5), some (.inl x6), some (.inl x7), some (.inl x8), z9], [.inl 11, .inl 0, .inl x3, .inl 1, .inr (some a0)], M)) sm_a184_302 rfl rfl (st_bipush (by decide)) ?_
        refine ru_go (t := (308, [some (.inr (some a0)), some (.inl x1), some (.inl x2), some (.inl x3), some (.inl x4), some (.inl x5), some (.inl x6), some (.inl x7), some (.inl x8), z9], [.inl 11, .inl 0, .inl x3, .inl 1, .inr (some a0)], M)) sm_a184_304 rfl rfl (st_goto (pc := 304) (by decide)) ?_
        refine ru_go (t := (310, [some (.inr (some a0)), some (.inl x1), some (.inl x2), some (.inl x3), some (.inl x4), some (.inl x5), some (.inl x6), some (.inl x7), some (.inl x8), z9], [.inl x7, .inl 11, .inl 0, .inl x3, .inl 1, .inr (some a0)], M)) sm_a184_308 rfl rfl rfl ?_
        exact ru_call (p := 313) sm_a184_310 rfl (sc_virt (Or.inl rfl) rfl rfl h_4 (Nat.le_of_ble_eq_true rfl)) rfl h
  · have h := h.2 hc_1
    refine ru_go (t := (252, [some (.inr (some a0)), some (.inl x1), some (.inl x2), some (.inl x3), some (.inl x4), some (.inl x5), some (.inl x6), some (.inl x7), some (.inl x8), z9], [.inr (some a0)], M)) sm_a184_251 rfl rfl rfl ?_
    obtain ⟨h_10, h⟩ := h
    refine ru_go (t := (255, [some (.inr (some a0)), some (.inl x1), some (.inl x2), some (.inl x3), some (.inl x4), some (.inl x5), some (.inl x6), some (.inl x7), some (.inl x8), z9], [.inr (sm_R M a0 83)], M)) sm_a184_252 rfl rfl (st_getR h_10 rfl rfl) ?_
    refine ru_go (t := (257, [some (.inr (some a0)), some (.inl x1), some (.inl x2), some (.inl x3), some (.inl x4), some (.inl x5), some (.inl x6), some (.inl x7), some (.inl x8), z9], [.inl x8, .inr (sm_R M a0 83)], M)) sm_a184_255 rfl rfl rfl ?_
    refine ru_go (t := (258, [some (.inr (some a0)), some (.inl x1), some (.inl x2), some (.inl x3), some (.inl x4), some (.inl x5), some (.inl x6), some (.inl x7), some (.inl x8), z9], [.inr (some a0), .inl x8, .inr (sm_R M a0 83)], M)) sm_a184_257 rfl rfl rfl ?_
    refine ru_go (t := (261, [some (.inr (some a0)), some (.inl x1), some (.inl x2), some (.inl x3), some (.inl x4), some (.inl x5), some (.inl x6), some (.inl x7), some (.inl x8), z9], [.inr (sm_R M a0 81), .inl x8, .inr (sm_R M a0 83)], M)) sm_a184_258 rfl rfl (st_getR h_10 rfl rfl) ?_
    refine ru_go (t := (263, [some (.inr (some a0)), some (.inl x1), some (.inl x2), some (.inl x3), some (.inl x4), some (.inl x5), some (.inl x6), some (.inl x7), some (.inl x8), z9], [.inl 100, .inr (sm_R M a0 81), .inl x8, .inr (sm_R M a0 83)], M)) sm_a184_261 rfl rfl (st_bipush (by decide)) ?_
    refine ru_go (t := (264, [some (.inr (some a0)), some (.inl x1), some (.inl x2), some (.inl x3), some (.inl x4), some (.inl x5), some (.inl x6), some (.inl x7), some (.inl x8), z9], [.inl x1, .inl 100, .inr (sm_R M a0 81), .inl x8, .inr (sm_R M a0 83)], M)) sm_a184_263 rfl rfl rfl ?_
    refine ru_go (t := (265, [some (.inr (some a0)), some (.inl x1), some (.inl x2), some (.inl x3), some (.inl x4), some (.inl x5), some (.inl x6), some (.inl x7), some (.inl x8), z9], [.inl (100 * x1), .inr (sm_R M a0 81), .inl x8, .inr (sm_R M a0 83)], M)) sm_a184_264 rfl rfl rfl ?_
    refine ru_go (t := (266, [some (.inr (some a0)), some (.inl x1), some (.inl x2), some (.inl x3), some (.inl x4), some (.inl x5), some (.inl x6), some (.inl x7), some (.inl x8), z9], [.inr (some a0), .inl (100 * x1), .inr (sm_R M a0 81), .inl x8, .inr (sm_R M a0 83)], M)) sm_a184_265 rfl rfl rfl ?_
    refine ru_go (t := (269, [some (.inr (some a0)), some (.inl x1), some (.inl x2), some (.inl x3), some (.inl x4), some (.inl x5), some (.inl x6), some (.inl x7), some (.inl x8), z9], [.inr (sm_R M a0 74), .inl (100 * x1), .inr (sm_R M a0 81), .inl x8, .inr (sm_R M a0 83)], M)) sm_a184_266 rfl rfl (st_getR h_10 rfl rfl) ?_
    refine ru_go (t := (270, [some (.inr (some a0)), some (.inl x1), some (.inl x2), some (.inl x3), some (.inl x4), some (.inl x5), some (.inl x6), some (.inl x7), some (.inl x8), z9], [.inl x1, .inr (sm_R M a0 74), .inl (100 * x1), .inr (sm_R M a0 81), .inl x8, .inr (sm_R M a0 83)], M)) sm_a184_269 rfl rfl rfl ?_
    obtain ⟨b_11, hb_12, h⟩ := h
    rw [hb_12]
    obtain ⟨h_13, h⟩ := h
    obtain ⟨h_14, h⟩ := h
    refine ru_go (t := (271, [some (.inr (some a0)), some (.inl x1), some (.inl x2), some (.inl x3), some (.inl x4), some (.inl x5), some (.inl x6), some (.inl x7), some (.inl x8), z9], [.inl (sm_I M b_11 (x1).toNatClampNeg), .inl (100 * x1), .inr (sm_R M a0 81), .inl x8, .inr (sm_R M a0 83)], M)) sm_a184_270 rfl rfl (st_iald h_13 h_14) ?_
    refine ru_go (t := (272, [some (.inr (some a0)), some (.inl x1), some (.inl x2), some (.inl x3), some (.inl x4), some (.inl x5), some (.inl x6), some (.inl x7), some (.inl x8), z9], [.inl ((100 * x1) + (sm_I M b_11 (x1).toNatClampNeg)), .inr (sm_R M a0 81), .inl x8, .inr (sm_R M a0 83)], M)) sm_a184_271 rfl rfl rfl ?_
    refine ru_go (t := (274, [some (.inr (some a0)), some (.inl x1), some (.inl x2), some (.inl x3), some (.inl x4), some (.inl x5), some (.inl x6), some (.inl x7), some (.inl x8), z9], [.inl x8, .inl ((100 * x1) + (sm_I M b_11 (x1).toNatClampNeg)), .inr (sm_R M a0 81), .inl x8, .inr (sm_R M a0 83)], M)) sm_a184_272 rfl rfl rfl ?_
    refine ru_go (t := (275, [some (.inr (some a0)), some (.inl x1), some (.inl x2), some (.inl x3), some (.inl x4), some (.inl x5), some (.inl x6), some (.inl x7), some (.inl x8), z9], [.inl (((100 * x1) + (sm_I M b_11 (x1).toNatClampNeg)) + x8), .inr (sm_R M a0 81), .inl x8, .inr (sm_R M a0 83)], M)) sm_a184_274 rfl rfl rfl ?_
    obtain ⟨b_15, hb_16, h⟩ := h
    rw [hb_16]
    obtain ⟨h_17, h⟩ := h
    obtain ⟨h_18, h⟩ := h
    refine ru_go (t := (276, [some (.inr (some a0)), some (.inl x1), some (.inl x2), some (.inl x3), some (.inl x4), some (.inl x5), some (.inl x6), some (.inl x7), some (.inl x8), z9], [.inl (sm_I M b_15 (((100 * x1) + (sm_I M b_11 (x1).toNatClampNeg)) + x8).toNatClampNeg), .inl x8, .inr (sm_R M a0 83)], M)) sm_a184_275 rfl rfl (st_iald h_17 h_18) ?_
    obtain ⟨b_19, hb_20, h⟩ := h
    rw [hb_20]
    obtain ⟨h_21, h⟩ := h
    obtain ⟨h_22, h⟩ := h
    refine ru_go (t := (277, [some (.inr (some a0)), some (.inl x1), some (.inl x2), some (.inl x3), some (.inl x4), some (.inl x5), some (.inl x6), some (.inl x7), some (.inl x8), z9], [], sm_putI M b_19 (x8).toNatClampNeg (sm_I M b_15 (((100 * x1) + (sm_I M b_11 (x1).toNatClampNeg)) + x8).toNatClampNeg))) sm_a184_276 rfl rfl (st_iast h_21 h_22) ?_
    refine ru_go (t := (280, [some (.inr (some a0)), some (.inl x1), some (.inl x2), some (.inl x3), some (.inl x4), some (.inl x5), some (.inl x6), some (.inl x7), some (.inl (x8 + 1)), z9], [], sm_putI M b_19 (x8).toNatClampNeg (sm_I M b_15 (((100 * x1) + (sm_I M b_11 (x1).toNatClampNeg)) + x8).toNatClampNeg))) sm_a184_277 rfl rfl (st_iinc rfl (by decide)) ?_
    refine ru_go (t := (244, [some (.inr (some a0)), some (.inl x1), some (.inl x2), some (.inl x3), some (.inl x4), some (.inl x5), some (.inl x6), some (.inl x7), some (.inl (x8 + 1)), z9], [], sm_putI M b_19 (x8).toNatClampNeg (sm_I M b_15 (((100 * x1) + (sm_I M b_11 (x1).toNatClampNeg)) + x8).toNatClampNeg))) sm_a184_280 rfl rfl (st_goto (pc := 280) (by decide)) ?_
    exact h
theorem bb_184_313 {d : Nat} {M : sm_M} {Q : Option sm_V → sm_M → Prop} {a0 : Nat} {x1 : Int32} {x2 : Int32} {x3 : Int32} {x4 : Int32} {x5 : Int32} {x6 : Int32} {x7 : Int32} {z8 : Option sm_V} {z9 : Option sm_V}
    (h : sm_K M a0 = 39 ∧ (((sm_I M a0 82) = 10 → sm_Run (d + 1) 184 331 [some (.inr (some a0)), some (.inl x1), some (.inl x2), some (.inl x3), some (.inl x4), some (.inl x5), some (.inl x6), some (.inl x7), z8, z9] [] M Q) ∧ (¬ ((sm_I M a0 82) = 10) → ((¬ (sm_I M a0 82) = 14 → ((¬ x6 = 0 → ((x5 = 0 → ((¬ (sm_I M a0 82) = 11 → sm_Run (d + 1) 184 449 [some (.inr (some a0)), some (.inl x1), some (.inl x2), some (.inl x3), some (.inl x4), some (.inl x5), some (.inl x6), some (.inl x7), z8, z9] [] M Q) ∧ (¬ (¬ (sm_I M a0 82) = 11) → ∃ b_7, sm_R M a0 41 = some b_7 ∧ sm_iA M b_7 ∧ sm_in_ M b_7 (sm_I M a0 50) ∧ ((¬ (sm_I M b_7 (sm_I M a0 50).toNatClampNeg) = 0 → sm_Run (d + 1) 184 449 [some (.inr (some a0)), some (.inl x1), some (.inl x2), some (.inl x3), some (.inl x4), some (.inl x5), some (.inl x6), some (.inl x7), z8, z9] [] M Q) ∧ (¬ (¬ (sm_I M b_7 (sm_I M a0 50).toNatClampNeg) = 0) → ∃ b_12, sm_R M a0 76 = some b_12 ∧ sm_wA 1 M b_12 ∧ sm_in_ M b_12 x1 ∧ ((¬ x5 = 0 → ((x6 = 0 → ∃ b_18, sm_R (sm_putI M b_12 (x1).toNatClampNeg 0) a0 74 = some b_18 ∧ sm_iA M b_18 ∧ sm_in_ M b_18 x1 ∧ sm_wA 1 M b_18 ∧ ∃ b_23, sm_R (sm_putI (sm_putI M b_12 (x1).toNatClampNeg 0) b_18 (x1).toNatClampNeg ((sm_I (sm_putI M b_12 (x1).toNatClampNeg 0) b_18 (x1).toNatClampNeg) + x7)) a0 78 = some b_23 ∧ sm_iA M b_23 ∧ sm_in_ M b_23 x1 ∧ sm_wA 1 M b_23 ∧ sm_Run (d + 1) 184 597 [some (.inr (some a0)), some (.inl x1), some (.inl x2), some (.inl x3), some (.inl x4), some (.inl x5), some (.inl x6), some (.inl x7), some (.inl 1), z9] [] (sm_putI (sm_putI (sm_putI M b_12 (x1).toNatClampNeg 0) b_18 (x1).toNatClampNeg ((sm_I (sm_putI M b_12 (x1).toNatClampNeg 0) b_18 (x1).toNatClampNeg) + x7)) b_23 (x1).toNatClampNeg (1 - (sm_I (sm_putI (sm_putI M b_12 (x1).toNatClampNeg 0) b_18 (x1).toNatClampNeg ((sm_I (sm_putI M b_12 (x1).toNatClampNeg 0) b_18 (x1).toNatClampNeg) + x7)) b_23 (x1).toNatClampNeg))) Q) ∧ (¬ (x6 = 0) → ∃ b_28, sm_R (sm_putI M b_12 (x1).toNatClampNeg 0) a0 78 = some b_28 ∧ sm_iA M b_28 ∧ sm_in_ M b_28 x1 ∧ ∃ b_32, sm_R (sm_putI M b_12 (x1).toNatClampNeg 0) a0 58 = some b_32 ∧ sm_iA M b_32 ∧ sm_in_ M b_32 x2 ∧ sm_Run d 183 0 (sm_ent 183 [.inr (some a0), .inl x1, .inl (sm_I (sm_putI M b_12 (x1).toNatClampNeg 0) b_28 (x1).toNatClampNeg), .inl (sm_I (sm_putI M b_12 (x1).toNatClampNeg 0) b_32 (x2).toNatClampNeg)]) [] (sm_putI M b_12 (x1).toNatClampNeg 0) (fun v M1 => sm_Run (d + 1) 184 521 [some (.inr (some a0)), some (.inl x1), some (.inl x2), some (.inl x3), some (.inl x4), some (.inl x5), some (.inl x6), some (.inl x7), some (.inl 1), z9] (v.toList ++ []) M1 Q)))) ∧ (¬ (¬ x5 = 0) → ((x6 = 0 → sm_Run (d + 1) 184 489 [some (.inr (some a0)), some (.inl x1), some (.inl x2), some (.inl x3), some (.inl x4), some (.inl x5), some (.inl x6), some (.inl x7), some (.inl 1), z9] [] (sm_putI M b_12 (x1).toNatClampNeg 0) Q) ∧ (¬ (x6 = 0) → sm_Run d 178 0 (sm_ent 178 [.inr (some a0), .inl 2, .inl 0, .inl 0, .inl 0]) [] (sm_putI M b_12 (x1).toNatClampNeg 0) (fun v M1 => sm_Run (d + 1) 184 489 [some (.inr (some a0)), some (.inl x1), some (.inl x2), some (.inl x3), some (.inl x4), some (.inl x5), some (.inl x6), some (.inl x7), some (.inl 1), z9] (v.toList ++ []) M1 Q)))))))))) ∧ (¬ (x5 = 0) → (((sm_I M a0 82) = 3 → sm_Run (d + 1) 184 416 [some (.inr (some a0)), some (.inl x1), some (.inl x2), some (.inl x3), some (.inl x4), some (.inl x5), some (.inl x6), some (.inl x7), z8, z9] [] M Q) ∧ (¬ ((sm_I M a0 82) = 3) → ((¬ (sm_I M a0 82) = 11 → sm_Run d 182 0 (sm_ent 182 [.inr (some a0), .inl x1]) [] M (fun v M1 => sm_Run (d + 1) 184 462 [some (.inr (some a0)), some (.inl x1), some (.inl x2), some (.inl x3), some (.inl x4), some (.inl x5), some (.inl x6), some (.inl x7), some (.inl 0), z9] (v.toList ++ []) M1 Q)) ∧ (¬ (¬ (sm_I M a0 82) = 11) → sm_Run (d + 1) 184 416 [some (.inr (some a0)), some (.inl x1), some (.inl x2), some (.inl x3), some (.inl x4), some (.inl x5), some (.inl x6), some (.inl x7), z8, z9] [] M Q))))))) ∧ (¬ (¬ x6 = 0) → ((¬ (sm_I M a0 82) = 2 → sm_Run d 182 0 (sm_ent 182 [.inr (some a0), .inl x1]) [] M (fun v M1 => sm_Run (d + 1) 184 462 [some (.inr (some a0)), some (.inl x1), some (.inl x2), some (.inl x3), some (.inl x4), some (.inl x5), some (.inl x6), some (.inl x7), some (.inl 0), z9] (v.toList ++ []) M1 Q)) ∧ (¬ (¬ (sm_I M a0 82) = 2) → ∃ b_40, sm_R M a0 76 = some b_40 ∧ sm_wA 1 M b_40 ∧ sm_in_ M b_40 x1 ∧ ((¬ x5 = 0 → ((x6 = 0 → ∃ b_46, sm_R (sm_putI M b_40 (x1).toNatClampNeg 0) a0 74 = some b_46 ∧ sm_iA M b_46 ∧ sm_in_ M b_46 x1 ∧ sm_wA 1 M b_46 ∧ ∃ b_51, sm_R (sm_putI (sm_putI M b_40 (x1).toNatClampNeg 0) b_46 (x1).toNatClampNeg ((sm_I (sm_putI M b_40 (x1).toNatClampNeg 0) b_46 (x1).toNatClampNeg) + x7)) a0 78 = some b_51 ∧ sm_iA M b_51 ∧ sm_in_ M b_51 x1 ∧ sm_wA 1 M b_51 ∧ sm_Run (d + 1) 184 597 [some (.inr (some a0)), some (.inl x1), some (.inl x2), some (.inl x3), some (.inl x4), some (.inl x5), some (.inl x6), some (.inl x7), some (.inl 1), z9] [] (sm_putI (sm_putI (sm_putI M b_40 (x1).toNatClampNeg 0) b_46 (x1).toNatClampNeg ((sm_I (sm_putI M b_40 (x1).toNatClampNeg 0) b_46 (x1).toNatClampNeg) + x7)) b_51 (x1).toNatClampNeg (1 - (sm_I (sm_putI (sm_putI M b_40 (x1).toNatClampNeg 0) b_46 (x1).toNatClampNeg ((sm_I (sm_putI M b_40 (x1).toNatClampNeg 0) b_46 (x1).toNatClampNeg) + x7)) b_51 (x1).toNatClampNeg))) Q) ∧ (¬ (x6 = 0) → ∃ b_56, sm_R (sm_putI M b_40 (x1).toNatClampNeg 0) a0 78 = some b_56 ∧ sm_iA M b_56 ∧ sm_in_ M b_56 x1 ∧ ∃ b_60, sm_R (sm_putI M b_40 (x1).toNatClampNeg 0) a0 58 = some b_60 ∧ sm_iA M b_60 ∧ sm_in_ M b_60 x2 ∧ sm_Run d 183 0 (sm_ent 183 [.inr (some a0), .inl x1, .inl (sm_I (sm_putI M b_40 (x1).toNatClampNeg 0) b_56 (x1).toNatClampNeg), .inl (sm_I (sm_putI M b_40 (x1).toNatClampNeg 0) b_60 (x2).toNatClampNeg)]) [] (sm_putI M b_40 (x1).toNatClampNeg 0) (fun v M1 => sm_Run (d + 1) 184 521 [some (.inr (some a0)), some (.inl x1), some (.inl x2), some (.inl x3), some (.inl x4), some (.inl x5), some (.inl x6), some (.inl x7), some (.inl 1), z9] (v.toList ++ []) M1 Q)))) ∧ (¬ (¬ x5 = 0) → ((x6 = 0 → sm_Run (d + 1) 184 489 [some (.inr (some a0)), some (.inl x1), some (.inl x2), some (.inl x3), some (.inl x4), some (.inl x5), some (.inl x6), some (.inl x7), some (.inl 1), z9] [] (sm_putI M b_40 (x1).toNatClampNeg 0) Q) ∧ (¬ (x6 = 0) → sm_Run d 178 0 (sm_ent 178 [.inr (some a0), .inl 2, .inl 0, .inl 0, .inl 0]) [] (sm_putI M b_40 (x1).toNatClampNeg 0) (fun v M1 => sm_Run (d + 1) 184 489 [some (.inr (some a0)), some (.inl x1), some (.inl x2), some (.inl x3), some (.inl x4), some (.inl x5), some (.inl x6), some (.inl x7), some (.inl 1), z9] (v.toList ++ []) M1 Q)))))))))) ∧ (¬ (¬ (sm_I M a0 82) = 14) → sm_Run (d + 1) 184 331 [some (.inr (some a0)), some (.inl x1), some (.inl x2), some (.inl x3), some (.inl x4), some (.inl x5), some (.inl x6), some (.inl x7), z8, z9] [] M Q))))) :
    sm_Run (d + 1) 184 313 [some (.inr (some a0)), some (.inl x1), some (.inl x2), some (.inl x3), some (.inl x4), some (.inl x5), some (.inl x6), some (.inl x7), z8, z9] [] M Q := by
  refine ru_go (t := (314, [some (.inr (some a0)), some (.inl x1), some (.inl x2), some (.inl x3), some (.inl x4), some (.inl x5), some (.inl x6), some (.inl x7), z8, z9], [.inr (some a0)], M)) sm_a184_313 rfl rfl rfl ?_
  obtain ⟨h_1, h⟩ := h
  refine ru_go (t := (317, [some (.inr (some a0)), some (.inl x1), some (.inl x2), some (.inl x3), some (.inl x4), some (.inl x5), some (.inl x6), some (.inl x7), z8, z9], [.inl (sm_I M a0 82)], M)) sm_a184_314 rfl rfl (st_getI h_1 rfl) ?_
  refine ru_go (t := (319, [some (.inr (some a0)), some (.inl x1), some (.inl x2), some (.inl x3), some (.inl x4), some (.inl x5), some (.inl x6), some (.inl x7), z8, z9], [.inl 10, .inl (sm_I M a0 82)], M)) sm_a184_317 rfl rfl (st_bipush (by decide)) ?_
  refine ru_icmp (pc := 319) (p := 331) (p2 := 322) sm_a184_319 (by decide) rfl ⟨fun hc_2 => ?_, fun hc_2 => ?_⟩
  · have h := h.1 hc_2
    exact h
  · have h := h.2 hc_2
    refine ru_go (t := (323, [some (.inr (some a0)), some (.inl x1), some (.inl x2), some (.inl x3), some (.inl x4), some (.inl x5), some (.inl x6), some (.inl x7), z8, z9], [.inr (some a0)], M)) sm_a184_322 rfl rfl rfl ?_
    refine ru_go (t := (326, [some (.inr (some a0)), some (.inl x1), some (.inl x2), some (.inl x3), some (.inl x4), some (.inl x5), some (.inl x6), some (.inl x7), z8, z9], [.inl (sm_I M a0 82)], M)) sm_a184_323 rfl rfl (st_getI h_1 rfl) ?_
    refine ru_go (t := (328, [some (.inr (some a0)), some (.inl x1), some (.inl x2), some (.inl x3), some (.inl x4), some (.inl x5), some (.inl x6), some (.inl x7), z8, z9], [.inl 14, .inl (sm_I M a0 82)], M)) sm_a184_326 rfl rfl (st_bipush (by decide)) ?_
    refine ru_icmp (pc := 328) (p := 373) (p2 := 331) sm_a184_328 (by decide) rfl ⟨fun hc_3 => ?_, fun hc_3 => ?_⟩
    · have h := h.1 hc_3
      refine ru_go (t := (375, [some (.inr (some a0)), some (.inl x1), some (.inl x2), some (.inl x3), some (.inl x4), some (.inl x5), some (.inl x6), some (.inl x7), z8, z9], [.inl x6], M)) sm_a184_373 rfl rfl rfl ?_
      refine ru_if (pc := 375) (p := 394) (p2 := 378) sm_a184_375 (by decide) rfl ⟨fun hc_4 => ?_, fun hc_4 => ?_⟩
      · have h := h.1 hc_4
        refine ru_go (t := (396, [some (.inr (some a0)), some (.inl x1), some (.inl x2), some (.inl x3), some (.inl x4), some (.inl x5), some (.inl x6), some (.inl x7), z8, z9], [.inl x5], M)) sm_a184_394 rfl rfl rfl ?_
        refine ru_if (pc := 396) (p := 424) (p2 := 399) sm_a184_396 (by decide) rfl ⟨fun hc_5 => ?_, fun hc_5 => ?_⟩
        · have h := h.1 hc_5
          refine ru_go (t := (425, [some (.inr (some a0)), some (.inl x1), some (.inl x2), some (.inl x3), some (.inl x4), some (.inl x5), some (.inl x6), some (.inl x7), z8, z9], [.inr (some a0)], M)) sm_a184_424 rfl rfl rfl ?_
          refine ru_go (t := (428, [some (.inr (some a0)), some (.inl x1), some (.inl x2), some (.inl x3), some (.inl x4), some (.inl x5), some (.inl x6), some (.inl x7), z8, z9], [.inl (sm_I M a0 82)], M)) sm_a184_425 rfl rfl (st_getI h_1 rfl) ?_
          refine ru_go (t := (430, [some (.inr (some a0)), some (.inl x1), some (.inl x2), some (.inl x3), some (.inl x4), some (.inl x5), some (.inl x6), some (.inl x7), z8, z9], [.inl 11, .inl (sm_I M a0 82)], M)) sm_a184_428 rfl rfl (st_bipush (by decide)) ?_
          refine ru_icmp (pc := 430) (p := 449) (p2 := 433) sm_a184_430 (by decide) rfl ⟨fun hc_6 => ?_, fun hc_6 => ?_⟩
          · have h := h.1 hc_6
            exact h
          · have h := h.2 hc_6
            refine ru_go (t := (434, [some (.inr (some a0)), some (.inl x1), some (.inl x2), some (.inl x3), some (.inl x4), some (.inl x5), some (.inl x6), some (.inl x7), z8, z9], [.inr (some a0)], M)) sm_a184_433 rfl rfl rfl ?_
            refine ru_go (t := (437, [some (.inr (some a0)), some (.inl x1), some (.inl x2), some (.inl x3), some (.inl x4), some (.inl x5), some (.inl x6), some (.inl x7), z8, z9], [.inr (sm_R M a0 41)], M)) sm_a184_434 rfl rfl (st_getR h_1 rfl rfl) ?_
            refine ru_go (t := (438, [some (.inr (some a0)), some (.inl x1), some (.inl x2), some (.inl x3), some (.inl x4), some (.inl x5), some (.inl x6), some (.inl x7), z8, z9], [.inr (some a0), .inr (sm_R M a0 41)], M)) sm_a184_437 rfl rfl rfl ?_
            refine ru_go (t := (441, [some (.inr (some a0)), some (.inl x1), some (.inl x2), some (.inl x3), some (.inl x4), some (.inl x5), some (.inl x6), some (.inl x7), z8, z9], [.inl (sm_I M a0 50), .inr (sm_R M a0 41)], M)) sm_a184_438 rfl rfl (st_getI h_1 rfl) ?_
            obtain ⟨b_7, hb_8, h⟩ := h
            rw [hb_8]
            obtain ⟨h_9, h⟩ := h
            obtain ⟨h_10, h⟩ := h
            refine ru_go (t := (442, [some (.inr (some a0)), some (.inl x1), some (.inl x2), some (.inl x3), some (.inl x4), some (.inl x5), some (.inl x6), some (.inl x7), z8, z9], [.inl (sm_I M b_7 (sm_I M a0 50).toNatClampNeg)], M)) sm_a184_441 rfl rfl (st_iald h_9 h_10) ?_
            refine ru_if (pc := 442) (p := 449) (p2 := 445) sm_a184_442 (by decide) rfl ⟨fun hc_11 => ?_, fun hc_11 => ?_⟩
            · have h := h.1 hc_11
              exact h
            · have h := h.2 hc_11
              refine ru_go (t := (446, [some (.inr (some a0)), some (.inl x1), some (.inl x2), some (.inl x3), some (.inl x4), some (.inl x5), some (.inl x6), some (.inl x7), z8, z9], [.inl 1], M)) sm_a184_445 rfl rfl (st_iconst (by decide)) ?_
              refine ru_go (t := (450, [some (.inr (some a0)), some (.inl x1), some (.inl x2), some (.inl x3), some (.inl x4), some (.inl x5), some (.inl x6), some (.inl x7), z8, z9], [.inl 1], M)) sm_a184_446 rfl rfl (st_goto (pc := 446) (by decide)) ?_
              refine ru_go (t := (452, [some (.inr (some a0)), some (.inl x1), some (.inl x2), some (.inl x3), some (.inl x4), some (.inl x5), some (.inl x6), some (.inl x7), some (.inl 1), z9], [], M)) sm_a184_450 rfl rfl rfl ?_
              refine ru_go (t := (454, [some (.inr (some a0)), some (.inl x1), some (.inl x2), some (.inl x3), some (.inl x4), some (.inl x5), some (.inl x6), some (.inl x7), some (.inl 1), z9], [.inl 1], M)) sm_a184_452 rfl rfl rfl ?_
              refine ru_if (pc := 454) (p := 464) (p2 := 457) sm_a184_454 (by decide) rfl ⟨fun _ => ?_, fun hc => absurd (show sm_cP .ne 1 0 from (by show ¬ (1 : Int32) = 0; decide)) hc⟩
              refine ru_go (t := (465, [some (.inr (some a0)), some (.inl x1), some (.inl x2), some (.inl x3), some (.inl x4), some (.inl x5), some (.inl x6), some (.inl x7), some (.inl 1), z9], [.inr (some a0)], M)) sm_a184_464 rfl rfl rfl ?_
              refine ru_go (t := (468, [some (.inr (some a0)), some (.inl x1), some (.inl x2), some (.inl x3), some (.inl x4), some (.inl x5), some (.inl x6), some (.inl x7), some (.inl 1), z9], [.inr (sm_R M a0 76)], M)) sm_a184_465 rfl rfl (st_getR h_1 rfl rfl) ?_
              refine ru_go (t := (469, [some (.inr (some a0)), some (.inl x1), some (.inl x2), some (.inl x3), some (.inl x4), some (.inl x5), some (.inl x6), some (.inl x7), some (.inl 1), z9], [.inl x1, .inr (sm_R M a0 76)], M)) sm_a184_468 rfl rfl rfl ?_
              refine ru_go (t := (470, [some (.inr (some a0)), some (.inl x1), some (.inl x2), some (.inl x3), some (.inl x4), some (.inl x5), some (.inl x6), some (.inl x7), some (.inl 1), z9], [.inl 0, .inl x1, .inr (sm_R M a0 76)], M)) sm_a184_469 rfl rfl (st_iconst (by decide)) ?_
              obtain ⟨b_12, hb_13, h⟩ := h
              rw [hb_13]
              obtain ⟨h_14, h⟩ := h
              obtain ⟨h_15, h⟩ := h
              refine ru_go (t := (471, [some (.inr (some a0)), some (.inl x1), some (.inl x2), some (.inl x3), some (.inl x4), some (.inl x5), some (.inl x6), some (.inl x7), some (.inl 1), z9], [], sm_putI M b_12 (x1).toNatClampNeg 0)) sm_a184_470 rfl rfl (st_iast h_14 h_15) ?_
              refine ru_go (t := (473, [some (.inr (some a0)), some (.inl x1), some (.inl x2), some (.inl x3), some (.inl x4), some (.inl x5), some (.inl x6), some (.inl x7), some (.inl 1), z9], [.inl x5], sm_putI M b_12 (x1).toNatClampNeg 0)) sm_a184_471 rfl rfl rfl ?_
              refine ru_if (pc := 473) (p := 499) (p2 := 476) sm_a184_473 (by decide) rfl ⟨fun hc_16 => ?_, fun hc_16 => ?_⟩
              · have h := h.1 hc_16
                refine ru_go (t := (501, [some (.inr (some a0)), some (.inl x1), some (.inl x2), some (.inl x3), some (.inl x4), some (.inl x5), some (.inl x6), some (.inl x7), some (.inl 1), z9], [.inl x6], sm_putI M b_12 (x1).toNatClampNeg 0)) sm_a184_499 rfl rfl rfl ?_
                refine ru_if (pc := 501) (p := 572) (p2 := 504) sm_a184_501 (by decide) rfl ⟨fun hc_17 => ?_, fun hc_17 => ?_⟩
                · have h := h.1 hc_17
                  refine ru_go (t := (573, [some (.inr (some a0)), some (.inl x1), some (.inl x2), some (.inl x3), some (.inl x4), some (.inl x5), some (.inl x6), some (.inl x7), some (.inl 1), z9], [.inr (some a0)], sm_putI M b_12 (x1).toNatClampNeg 0)) sm_a184_572 rfl rfl rfl ?_
                  refine ru_go (t := (576, [some (.inr (some a0)), some (.inl x1), some (.inl x2), some (.inl x3), some (.inl x4), some (.inl x5), some (.inl x6), some (.inl x7), some (.inl 1), z9], [.inr (sm_R (sm_putI M b_12 (x1).toNatClampNeg 0) a0 74)], sm_putI M b_12 (x1).toNatClampNeg 0)) sm_a184_573 rfl rfl (st_getR h_1 rfl rfl) ?_
                  refine ru_go (t := (577, [some (.inr (some a0)), some (.inl x1), some (.inl x2), some (.inl x3), some (.inl x4), some (.inl x5), some (.inl x6), some (.inl x7), some (.inl 1), z9], [.inl x1, .inr (sm_R (sm_putI M b_12 (x1).toNatClampNeg 0) a0 74)], sm_putI M b_12 (x1).toNatClampNeg 0)) sm_a184_576 rfl rfl rfl ?_
                  refine ru_go (t := (578, [some (.inr (some a0)), some (.inl x1), some (.inl x2), some (.inl x3), some (.inl x4), some (.inl x5), some (.inl x6), some (.inl x7), some (.inl 1), z9], [.inl x1, .inr (sm_R (sm_putI M b_12 (x1).toNatClampNeg 0) a0 74), .inl x1, .inr (sm_R (sm_putI M b_12 (x1).toNatClampNeg 0) a0 74)], sm_putI M b_12 (x1).toNatClampNeg 0)) sm_a184_577 rfl rfl rfl ?_
                  obtain ⟨b_18, hb_19, h⟩ := h
                  rw [hb_19]
                  obtain ⟨h_20, h⟩ := h
                  obtain ⟨h_21, h⟩ := h
                  refine ru_go (t := (579, [some (.inr (some a0)), some (.inl x1), some (.inl x2), some (.inl x3), some (.inl x4), some (.inl x5), some (.inl x6), some (.inl x7), some (.inl 1), z9], [.inl (sm_I (sm_putI M b_12 (x1).toNatClampNeg 0) b_18 (x1).toNatClampNeg), .inl x1, .inr (some b_18)], sm_putI M b_12 (x1).toNatClampNeg 0)) sm_a184_578 rfl rfl (st_iald h_20 h_21) ?_
                  refine ru_go (t := (581, [some (.inr (some a0)), some (.inl x1), some (.inl x2), some (.inl x3), some (.inl x4), some (.inl x5), some (.inl x6), some (.inl x7), some (.inl 1), z9], [.inl x7, .inl (sm_I (sm_putI M b_12 (x1).toNatClampNeg 0) b_18 (x1).toNatClampNeg), .inl x1, .inr (some b_18)], sm_putI M b_12 (x1).toNatClampNeg 0)) sm_a184_579 rfl rfl rfl ?_
                  refine ru_go (t := (582, [some (.inr (some a0)), some (.inl x1), some (.inl x2), some (.inl x3), some (.inl x4), some (.inl x5), some (.inl x6), some (.inl x7), some (.inl 1), z9], [.inl ((sm_I (sm_putI M b_12 (x1).toNatClampNeg 0) b_18 (x1).toNatClampNeg) + x7), .inl x1, .inr (some b_18)], sm_putI M b_12 (x1).toNatClampNeg 0)) sm_a184_581 rfl rfl rfl ?_
                  obtain ⟨h_22, h⟩ := h
                  refine ru_go (t := (583, [some (.inr (some a0)), some (.inl x1), some (.inl x2), some (.inl x3), some (.inl x4), some (.inl x5), some (.inl x6), some (.inl x7), some (.inl 1), z9], [], sm_putI (sm_putI M b_12 (x1).toNatClampNeg 0) b_18 (x1).toNatClampNeg ((sm_I (sm_putI M b_12 (x1).toNatClampNeg 0) b_18 (x1).toNatClampNeg) + x7))) sm_a184_582 rfl rfl (st_iast h_22 h_21) ?_
                  refine ru_go (t := (584, [some (.inr (some a0)), some (.inl x1), some (.inl x2), some (.inl x3), some (.inl x4), some (.inl x5), some (.inl x6), some (.inl x7), some (.inl 1), z9], [.inr (some a0)], sm_putI (sm_putI M b_12 (x1).toNatClampNeg 0) b_18 (x1).toNatClampNeg ((sm_I (sm_putI M b_12 (x1).toNatClampNeg 0) b_18 (x1).toNatClampNeg) + x7))) sm_a184_583 rfl rfl rfl ?_
                  refine ru_go (t := (587, [some (.inr (some a0)), some (.inl x1), some (.inl x2), some (.inl x3), some (.inl x4), some (.inl x5), some (.inl x6), some (.inl x7), some (.inl 1), z9], [.inr (sm_R (sm_putI (sm_putI M b_12 (x1).toNatClampNeg 0) b_18 (x1).toNatClampNeg ((sm_I (sm_putI M b_12 (x1).toNatClampNeg 0) b_18 (x1).toNatClampNeg) + x7)) a0 78)], sm_putI (sm_putI M b_12 (x1).toNatClampNeg 0) b_18 (x1).toNatClampNeg ((sm_I (sm_putI M b_12 (x1).toNatClampNeg 0) b_18 (x1).toNatClampNeg) + x7))) sm_a184_584 rfl rfl (st_getR h_1 rfl rfl) ?_
                  refine ru_go (t := (588, [some (.inr (some a0)), some (.inl x1), some (.inl x2), some (.inl x3), some (.inl x4), some (.inl x5), some (.inl x6), some (.inl x7), some (.inl 1), z9], [.inl x1, .inr (sm_R (sm_putI (sm_putI M b_12 (x1).toNatClampNeg 0) b_18 (x1).toNatClampNeg ((sm_I (sm_putI M b_12 (x1).toNatClampNeg 0) b_18 (x1).toNatClampNeg) + x7)) a0 78)], sm_putI (sm_putI M b_12 (x1).toNatClampNeg 0) b_18 (x1).toNatClampNeg ((sm_I (sm_putI M b_12 (x1).toNatClampNeg 0) b_18 (x1).toNatClampNeg) + x7))) sm_a184_587 rfl rfl rfl ?_
                  refine ru_go (t := (589, [some (.inr (some a0)), some (.inl x1), some (.inl x2), some (.inl x3), some (.inl x4), some (.inl x5), some (.inl x6), some (.inl x7), some (.inl 1), z9], [.inl 1, .inl x1, .inr (sm_R (sm_putI (sm_putI M b_12 (x1).toNatClampNeg 0) b_18 (x1).toNatClampNeg ((sm_I (sm_putI M b_12 (x1).toNatClampNeg 0) b_18 (x1).toNatClampNeg) + x7)) a0 78)], sm_putI (sm_putI M b_12 (x1).toNatClampNeg 0) b_18 (x1).toNatClampNeg ((sm_I (sm_putI M b_12 (x1).toNatClampNeg 0) b_18 (x1).toNatClampNeg) + x7))) sm_a184_588 rfl rfl (st_iconst (by decide)) ?_
                  refine ru_go (t := (590, [some (.inr (some a0)), some (.inl x1), some (.inl x2), some (.inl x3), some (.inl x4), some (.inl x5), some (.inl x6), some (.inl x7), some (.inl 1), z9], [.inr (some a0), .inl 1, .inl x1, .inr (sm_R (sm_putI (sm_putI M b_12 (x1).toNatClampNeg 0) b_18 (x1).toNatClampNeg ((sm_I (sm_putI M b_12 (x1).toNatClampNeg 0) b_18 (x1).toNatClampNeg) + x7)) a0 78)], sm_putI (sm_putI M b_12 (x1).toNatClampNeg 0) b_18 (x1).toNatClampNeg ((sm_I (sm_putI M b_12 (x1).toNatClampNeg 0) b_18 (x1).toNatClampNeg) + x7))) sm_a184_589 rfl rfl rfl ?_
                  refine ru_go (t := (593, [some (.inr (some a0)), some (.inl x1), some (.inl x2), some (.inl x3), some (.inl x4), some (.inl x5), some (.inl x6), some (.inl x7), some (.inl 1), z9], [.inr (sm_R (sm_putI (sm_putI M b_12 (x1).toNatClampNeg 0) b_18 (x1).toNatClampNeg ((sm_I (sm_putI M b_12 (x1).toNatClampNeg 0) b_18 (x1).toNatClampNeg) + x7)) a0 78), .inl 1, .inl x1, .inr (sm_R (sm_putI (sm_putI M b_12 (x1).toNatClampNeg 0) b_18 (x1).toNatClampNeg ((sm_I (sm_putI M b_12 (x1).toNatClampNeg 0) b_18 (x1).toNatClampNeg) + x7)) a0 78)], sm_putI (sm_putI M b_12 (x1).toNatClampNeg 0) b_18 (x1).toNatClampNeg ((sm_I (sm_putI M b_12 (x1).toNatClampNeg 0) b_18 (x1).toNatClampNeg) + x7))) sm_a184_590 rfl rfl (st_getR h_1 rfl rfl) ?_
                  refine ru_go (t := (594, [some (.inr (some a0)), some (.inl x1), some (.inl x2), some (.inl x3), some (.inl x4), some (.inl x5), some (.inl x6), some (.inl x7), some (.inl 1), z9], [.inl x1, .inr (sm_R (sm_putI (sm_putI M b_12 (x1).toNatClampNeg 0) b_18 (x1).toNatClampNeg ((sm_I (sm_putI M b_12 (x1).toNatClampNeg 0) b_18 (x1).toNatClampNeg) + x7)) a0 78), .inl 1, .inl x1, .inr (sm_R (sm_putI (sm_putI M b_12 (x1).toNatClampNeg 0) b_18 (x1).toNatClampNeg ((sm_I (sm_putI M b_12 (x1).toNatClampNeg 0) b_18 (x1).toNatClampNeg) + x7)) a0 78)], sm_putI (sm_putI M b_12 (x1).toNatClampNeg 0) b_18 (x1).toNatClampNeg ((sm_I (sm_putI M b_12 (x1).toNatClampNeg 0) b_18 (x1).toNatClampNeg) + x7))) sm_a184_593 rfl rfl rfl ?_
                  obtain ⟨b_23, hb_24, h⟩ := h
                  rw [hb_24]
                  obtain ⟨h_25, h⟩ := h
                  obtain ⟨h_26, h⟩ := h
                  refine ru_go (t := (595, [some (.inr (some a0)), some (.inl x1), some (.inl x2), some (.inl x3), some (.inl x4), some (.inl x5), some (.inl x6), some (.inl x7), some (.inl 1), z9], [.inl (sm_I (sm_putI (sm_putI M b_12 (x1).toNatClampNeg 0) b_18 (x1).toNatClampNeg ((sm_I (sm_putI M b_12 (x1).toNatClampNeg 0) b_18 (x1).toNatClampNeg) + x7)) b_23 (x1).toNatClampNeg), .inl 1, .inl x1, .inr (some b_23)], sm_putI (sm_putI M b_12 (x1).toNatClampNeg 0) b_18 (x1).toNatClampNeg ((sm_I (sm_putI M b_12 (x1).toNatClampNeg 0) b_18 (x1).toNatClampNeg) + x7))) sm_a184_594 rfl rfl (st_iald h_25 h_26) ?_
                  refine ru_go (t := (596, [some (.inr (some a0)), some (.inl x1), some (.inl x2), some (.inl x3), some (.inl x4), some (.inl x5), some (.inl x6), some (.inl x7), some (.inl 1), z9], [.inl (1 - (sm_I (sm_putI (sm_putI M b_12 (x1).toNatClampNeg 0) b_18 (x1).toNatClampNeg ((sm_I (sm_putI M b_12 (x1).toNatClampNeg 0) b_18 (x1).toNatClampNeg) + x7)) b_23 (x1).toNatClampNeg)), .inl x1, .inr (some b_23)], sm_putI (sm_putI M b_12 (x1).toNatClampNeg 0) b_18 (x1).toNatClampNeg ((sm_I (sm_putI M b_12 (x1).toNatClampNeg 0) b_18 (x1).toNatClampNeg) + x7))) sm_a184_595 rfl rfl rfl ?_
                  obtain ⟨h_27, h⟩ := h
                  refine ru_go (t := (597, [some (.inr (some a0)), some (.inl x1), some (.inl x2), some (.inl x3), some (.inl x4), some (.inl x5), some (.inl x6), some (.inl x7), some (.inl 1), z9], [], sm_putI (sm_putI (sm_putI M b_12 (x1).toNatClampNeg 0) b_18 (x1).toNatClampNeg ((sm_I (sm_putI M b_12 (x1).toNatClampNeg 0) b_18 (x1).toNatClampNeg) + x7)) b_23 (x1).toNatClampNeg (1 - (sm_I (sm_putI (sm_putI M b_12 (x1).toNatClampNeg 0) b_18 (x1).toNatClampNeg ((sm_I (sm_putI M b_12 (x1).toNatClampNeg 0) b_18 (x1).toNatClampNeg) + x7)) b_23 (x1).toNatClampNeg)))) sm_a184_596 rfl rfl (st_iast h_27 h_26) ?_
                  exact h
                · have h := h.2 hc_17
                  refine ru_go (t := (505, [some (.inr (some a0)), some (.inl x1), some (.inl x2), some (.inl x3), some (.inl x4), some (.inl x5), some (.inl x6), some (.inl x7), some (.inl 1), z9], [.inr (some a0)], sm_putI M b_12 (x1).toNatClampNeg 0)) sm_a184_504 rfl rfl rfl ?_
                  refine ru_go (t := (506, [some (.inr (some a0)), some (.inl x1), some (.inl x2), some (.inl x3), some (.inl x4), some (.inl x5), some (.inl x6), some (.inl x7), some (.inl 1), z9], [.inl x1, .inr (some a0)], sm_putI M b_12 (x1).toNatClampNeg 0)) sm_a184_505 rfl rfl rfl ?_
                  refine ru_go (t := (507, [some (.inr (some a0)), some (.inl x1), some (.inl x2), some (.inl x3), some (.inl x4), some (.inl x5), some (.inl x6), some (.inl x7), some (.inl 1), z9], [.inr (some a0), .inl x1, .inr (some a0)], sm_putI M b_12 (x1).toNatClampNeg 0)) sm_a184_506 rfl rfl rfl ?_
                  refine ru_go (t := (510, [some (.inr (some a0)), some (.inl x1), some (.inl x2), some (.inl x3), some (.inl x4), some (.inl x5), some (.inl x6), some (.inl x7), some (.inl 1), z9], [.inr (sm_R (sm_putI M b_12 (x1).toNatClampNeg 0) a0 78), .inl x1, .inr (some a0)], sm_putI M b_12 (x1).toNatClampNeg 0)) sm_a184_507 rfl rfl (st_getR h_1 rfl rfl) ?_
                  refine ru_go (t := (511, [some (.inr (some a0)), some (.inl x1), some (.inl x2), some (.inl x3), some (.inl x4), some (.inl x5), some (.inl x6), some (.inl x7), some (.inl 1), z9], [.inl x1, .inr (sm_R (sm_putI M b_12 (x1).toNatClampNeg 0) a0 78), .inl x1, .inr (some a0)], sm_putI M b_12 (x1).toNatClampNeg 0)) sm_a184_510 rfl rfl rfl ?_
                  obtain ⟨b_28, hb_29, h⟩ := h
                  rw [hb_29]
                  obtain ⟨h_30, h⟩ := h
                  obtain ⟨h_31, h⟩ := h
                  refine ru_go (t := (512, [some (.inr (some a0)), some (.inl x1), some (.inl x2), some (.inl x3), some (.inl x4), some (.inl x5), some (.inl x6), some (.inl x7), some (.inl 1), z9], [.inl (sm_I (sm_putI M b_12 (x1).toNatClampNeg 0) b_28 (x1).toNatClampNeg), .inl x1, .inr (some a0)], sm_putI M b_12 (x1).toNatClampNeg 0)) sm_a184_511 rfl rfl (st_iald h_30 h_31) ?_
                  refine ru_go (t := (513, [some (.inr (some a0)), some (.inl x1), some (.inl x2), some (.inl x3), some (.inl x4), some (.inl x5), some (.inl x6), some (.inl x7), some (.inl 1), z9], [.inr (some a0), .inl (sm_I (sm_putI M b_12 (x1).toNatClampNeg 0) b_28 (x1).toNatClampNeg), .inl x1, .inr (some a0)], sm_putI M b_12 (x1).toNatClampNeg 0)) sm_a184_512 rfl rfl rfl ?_
                  refine ru_go (t := (516, [some (.inr (some a0)), some (.inl x1), some (.inl x2), some (.inl x3), some (.inl x4), some (.inl x5), some (.inl x6), some (.inl x7), some (.inl 1), z9], [.inr (sm_R (sm_putI M b_12 (x1).toNatClampNeg 0) a0 58), .inl (sm_I (sm_putI M b_12 (x1).toNatClampNeg 0) b_28 (x1).toNatClampNeg), .inl x1, .inr (some a0)], sm_putI M b_12 (x1).toNatClampNeg 0)) sm_a184_513 rfl rfl (st_getR h_1 rfl rfl) ?_
                  refine ru_go (t := (517, [some (.inr (some a0)), some (.inl x1), some (.inl x2), some (.inl x3), some (.inl x4), some (.inl x5), some (.inl x6), some (.inl x7), some (.inl 1), z9], [.inl x2, .inr (sm_R (sm_putI M b_12 (x1).toNatClampNeg 0) a0 58), .inl (sm_I (sm_putI M b_12 (x1).toNatClampNeg 0) b_28 (x1).toNatClampNeg), .inl x1, .inr (some a0)], sm_putI M b_12 (x1).toNatClampNeg 0)) sm_a184_516 rfl rfl rfl ?_
                  obtain ⟨b_32, hb_33, h⟩ := h
                  rw [hb_33]
                  obtain ⟨h_34, h⟩ := h
                  obtain ⟨h_35, h⟩ := h
                  refine ru_go (t := (518, [some (.inr (some a0)), some (.inl x1), some (.inl x2), some (.inl x3), some (.inl x4), some (.inl x5), some (.inl x6), some (.inl x7), some (.inl 1), z9], [.inl (sm_I (sm_putI M b_12 (x1).toNatClampNeg 0) b_32 (x2).toNatClampNeg), .inl (sm_I (sm_putI M b_12 (x1).toNatClampNeg 0) b_28 (x1).toNatClampNeg), .inl x1, .inr (some a0)], sm_putI M b_12 (x1).toNatClampNeg 0)) sm_a184_517 rfl rfl (st_iald h_34 h_35) ?_
                  exact ru_call (p := 521) sm_a184_518 rfl (sc_virt (Or.inl rfl) rfl rfl h_1 (Nat.le_of_ble_eq_true rfl)) rfl h
              · have h := h.2 hc_16
                refine ru_go (t := (478, [some (.inr (some a0)), some (.inl x1), some (.inl x2), some (.inl x3), some (.inl x4), some (.inl x5), some (.inl x6), some (.inl x7), some (.inl 1), z9], [.inl x6], sm_putI M b_12 (x1).toNatClampNeg 0)) sm_a184_476 rfl rfl rfl ?_
                refine ru_if (pc := 478) (p := 489) (p2 := 481) sm_a184_478 (by decide) rfl ⟨fun hc_36 => ?_, fun hc_36 => ?_⟩
                · have h := h.1 hc_36
                  exact h
                · have h := h.2 hc_36
                  refine ru_go (t := (482, [some (.inr (some a0)), some (.inl x1), some (.inl x2), some (.inl x3), some (.inl x4), some (.inl x5), some (.inl x6), some (.inl x7), some (.inl 1), z9], [.inr (some a0)], sm_putI M b_12 (x1).toNatClampNeg 0)) sm_a184_481 rfl rfl rfl ?_
                  refine ru_go (t := (483, [some (.inr (some a0)), some (.inl x1), some (.inl x2), some (.inl x3), some (.inl x4), some (.inl x5), some (.inl x6), some (.inl x7), some (.inl 1), z9], [.inl 2, .inr (some a0)], sm_putI M b_12 (x1).toNatClampNeg 0)) sm_a184_482 rfl rfl (st_iconst (by decide)) ?_
                  refine ru_go (t := (484, [some (.inr (some a0)), some (.inl x1), some (.inl x2), some (.inl x3), some (.inl x4), some (.inl x5), some (.inl x6), some (.inl x7), some (.inl 1), z9], [.inl 0, .inl 2, .inr (some a0)], sm_putI M b_12 (x1).toNatClampNeg 0)) sm_a184_483 rfl rfl (st_iconst (by decide)) ?_
                  refine ru_go (t := (485, [some (.inr (some a0)), some (.inl x1), some (.inl x2), some (.inl x3), some (.inl x4), some (.inl x5), some (.inl x6), some (.inl x7), some (.inl 1), z9], [.inl 0, .inl 0, .inl 2, .inr (some a0)], sm_putI M b_12 (x1).toNatClampNeg 0)) sm_a184_484 rfl rfl (st_iconst (by decide)) ?_
                  refine ru_go (t := (486, [some (.inr (some a0)), some (.inl x1), some (.inl x2), some (.inl x3), some (.inl x4), some (.inl x5), some (.inl x6), some (.inl x7), some (.inl 1), z9], [.inl 0, .inl 0, .inl 0, .inl 2, .inr (some a0)], sm_putI M b_12 (x1).toNatClampNeg 0)) sm_a184_485 rfl rfl (st_iconst (by decide)) ?_
                  exact ru_call (p := 489) sm_a184_486 rfl (sc_virt (Or.inl rfl) rfl rfl h_1 (Nat.le_of_ble_eq_true rfl)) rfl h
        · have h := h.2 hc_5
          refine ru_go (t := (400, [some (.inr (some a0)), some (.inl x1), some (.inl x2), some (.inl x3), some (.inl x4), some (.inl x5), some (.inl x6), some (.inl x7), z8, z9], [.inr (some a0)], M)) sm_a184_399 rfl rfl rfl ?_
          refine ru_go (t := (403, [some (.inr (some a0)), some (.inl x1), some (.inl x2), some (.inl x3), some (.inl x4), some (.inl x5), some (.inl x6), some (.inl x7), z8, z9], [.inl (sm_I M a0 82)], M)) sm_a184_400 rfl rfl (st_getI h_1 rfl) ?_
          refine ru_go (t := (404, [some (.inr (some a0)), some (.inl x1), some (.inl x2), some (.inl x3), some (.inl x4), some (.inl x5), some (.inl x6), some (.inl x7), z8, z9], [.inl 3, .inl (sm_I M a0 82)], M)) sm_a184_403 rfl rfl (st_iconst (by decide)) ?_
          refine ru_icmp (pc := 404) (p := 416) (p2 := 407) sm_a184_404 (by decide) rfl ⟨fun hc_37 => ?_, fun hc_37 => ?_⟩
          · have h := h.1 hc_37
            exact h
          · have h := h.2 hc_37
            refine ru_go (t := (408, [some (.inr (some a0)), some (.inl x1), some (.inl x2), some (.inl x3), some (.inl x4), some (.inl x5), some (.inl x6), some (.inl x7), z8, z9], [.inr (some a0)], M)) sm_a184_407 rfl rfl rfl ?_
            refine ru_go (t := (411, [some (.inr (some a0)), some (.inl x1), some (.inl x2), some (.inl x3), some (.inl x4), some (.inl x5), some (.inl x6), some (.inl x7), z8, z9], [.inl (sm_I M a0 82)], M)) sm_a184_408 rfl rfl (st_getI h_1 rfl) ?_
            refine ru_go (t := (413, [some (.inr (some a0)), some (.inl x1), some (.inl x2), some (.inl x3), some (.inl x4), some (.inl x5), some (.inl x6), some (.inl x7), z8, z9], [.inl 11, .inl (sm_I M a0 82)], M)) sm_a184_411 rfl rfl (st_bipush (by decide)) ?_
            refine ru_icmp (pc := 413) (p := 420) (p2 := 416) sm_a184_413 (by decide) rfl ⟨fun hc_38 => ?_, fun hc_38 => ?_⟩
            · have h := h.1 hc_38
              refine ru_go (t := (421, [some (.inr (some a0)), some (.inl x1), some (.inl x2), some (.inl x3), some (.inl x4), some (.inl x5), some (.inl x6), some (.inl x7), z8, z9], [.inl 0], M)) sm_a184_420 rfl rfl (st_iconst (by decide)) ?_
              refine ru_go (t := (450, [some (.inr (some a0)), some (.inl x1), some (.inl x2), some (.inl x3), some (.inl x4), some (.inl x5), some (.inl x6), some (.inl x7), z8, z9], [.inl 0], M)) sm_a184_421 rfl rfl (st_goto (pc := 421) (by decide)) ?_
              refine ru_go (t := (452, [some (.inr (some a0)), some (.inl x1), some (.inl x2), some (.inl x3), some (.inl x4), some (.inl x5), some (.inl x6), some (.inl x7), some (.inl 0), z9], [], M)) sm_a184_450 rfl rfl rfl ?_
              refine ru_go (t := (454, [some (.inr (some a0)), some (.inl x1), some (.inl x2), some (.inl x3), some (.inl x4), some (.inl x5), some (.inl x6), some (.inl x7), some (.inl 0), z9], [.inl 0], M)) sm_a184_452 rfl rfl rfl ?_
              refine ru_if (pc := 454) (p := 464) (p2 := 457) sm_a184_454 (by decide) rfl ⟨fun hc => absurd (show ¬ (0 : Int32) = 0 from hc) (by decide), fun _ => ?_⟩
              refine ru_go (t := (458, [some (.inr (some a0)), some (.inl x1), some (.inl x2), some (.inl x3), some (.inl x4), some (.inl x5), some (.inl x6), some (.inl x7), some (.inl 0), z9], [.inr (some a0)], M)) sm_a184_457 rfl rfl rfl ?_
              refine ru_go (t := (459, [some (.inr (some a0)), some (.inl x1), some (.inl x2), some (.inl x3), some (.inl x4), some (.inl x5), some (.inl x6), some (.inl x7), some (.inl 0), z9], [.inl x1, .inr (some a0)], M)) sm_a184_458 rfl rfl rfl ?_
              exact ru_call (p := 462) sm_a184_459 rfl (sc_virt (Or.inl rfl) rfl rfl h_1 (Nat.le_of_ble_eq_true rfl)) rfl h
            · have h := h.2 hc_38
              exact h
      · have h := h.2 hc_4
        refine ru_go (t := (379, [some (.inr (some a0)), some (.inl x1), some (.inl x2), some (.inl x3), some (.inl x4), some (.inl x5), some (.inl x6), some (.inl x7), z8, z9], [.inr (some a0)], M)) sm_a184_378 rfl rfl rfl ?_
        refine ru_go (t := (382, [some (.inr (some a0)), some (.inl x1), some (.inl x2), some (.inl x3), some (.inl x4), some (.inl x5), some (.inl x6), some (.inl x7), z8, z9], [.inl (sm_I M a0 82)], M)) sm_a184_379 rfl rfl (st_getI h_1 rfl) ?_
        refine ru_go (t := (383, [some (.inr (some a0)), some (.inl x1), some (.inl x2), some (.inl x3), some (.inl x4), some (.inl x5), some (.inl x6), some (.inl x7), z8, z9], [.inl 2, .inl (sm_I M a0 82)], M)) sm_a184_382 rfl rfl (st_iconst (by decide)) ?_
        refine ru_icmp (pc := 383) (p := 390) (p2 := 386) sm_a184_383 (by decide) rfl ⟨fun hc_39 => ?_, fun hc_39 => ?_⟩
        · have h := h.1 hc_39
          refine ru_go (t := (391, [some (.inr (some a0)), some (.inl x1), some (.inl x2), some (.inl x3), some (.inl x4), some (.inl x5), some (.inl x6), some (.inl x7), z8, z9], [.inl 0], M)) sm_a184_390 rfl rfl (st_iconst (by decide)) ?_
          refine ru_go (t := (450, [some (.inr (some a0)), some (.inl x1), some (.inl x2), some (.inl x3), some (.inl x4), some (.inl x5), some (.inl x6), some (.inl x7), z8, z9], [.inl 0], M)) sm_a184_391 rfl rfl (st_goto (pc := 391) (by decide)) ?_
          refine ru_go (t := (452, [some (.inr (some a0)), some (.inl x1), some (.inl x2), some (.inl x3), some (.inl x4), some (.inl x5), some (.inl x6), some (.inl x7), some (.inl 0), z9], [], M)) sm_a184_450 rfl rfl rfl ?_
          refine ru_go (t := (454, [some (.inr (some a0)), some (.inl x1), some (.inl x2), some (.inl x3), some (.inl x4), some (.inl x5), some (.inl x6), some (.inl x7), some (.inl 0), z9], [.inl 0], M)) sm_a184_452 rfl rfl rfl ?_
          refine ru_if (pc := 454) (p := 464) (p2 := 457) sm_a184_454 (by decide) rfl ⟨fun hc => absurd (show ¬ (0 : Int32) = 0 from hc) (by decide), fun _ => ?_⟩
          refine ru_go (t := (458, [some (.inr (some a0)), some (.inl x1), some (.inl x2), some (.inl x3), some (.inl x4), some (.inl x5), some (.inl x6), some (.inl x7), some (.inl 0), z9], [.inr (some a0)], M)) sm_a184_457 rfl rfl rfl ?_
          refine ru_go (t := (459, [some (.inr (some a0)), some (.inl x1), some (.inl x2), some (.inl x3), some (.inl x4), some (.inl x5), some (.inl x6), some (.inl x7), some (.inl 0), z9], [.inl x1, .inr (some a0)], M)) sm_a184_458 rfl rfl rfl ?_
          exact ru_call (p := 462) sm_a184_459 rfl (sc_virt (Or.inl rfl) rfl rfl h_1 (Nat.le_of_ble_eq_true rfl)) rfl h
        · have h := h.2 hc_39
          refine ru_go (t := (387, [some (.inr (some a0)), some (.inl x1), some (.inl x2), some (.inl x3), some (.inl x4), some (.inl x5), some (.inl x6), some (.inl x7), z8, z9], [.inl 1], M)) sm_a184_386 rfl rfl (st_iconst (by decide)) ?_
          refine ru_go (t := (450, [some (.inr (some a0)), some (.inl x1), some (.inl x2), some (.inl x3), some (.inl x4), some (.inl x5), some (.inl x6), some (.inl x7), z8, z9], [.inl 1], M)) sm_a184_387 rfl rfl (st_goto (pc := 387) (by decide)) ?_
          refine ru_go (t := (452, [some (.inr (some a0)), some (.inl x1), some (.inl x2), some (.inl x3), some (.inl x4), some (.inl x5), some (.inl x6), some (.inl x7), some (.inl 1), z9], [], M)) sm_a184_450 rfl rfl rfl ?_
          refine ru_go (t := (454, [some (.inr (some a0)), some (.inl x1), some (.inl x2), some (.inl x3), some (.inl x4), some (.inl x5), some (.inl x6), some (.inl x7), some (.inl 1), z9], [.inl 1], M)) sm_a184_452 rfl rfl rfl ?_
          refine ru_if (pc := 454) (p := 464) (p2 := 457) sm_a184_454 (by decide) rfl ⟨fun _ => ?_, fun hc => absurd (show sm_cP .ne 1 0 from (by show ¬ (1 : Int32) = 0; decide)) hc⟩
          refine ru_go (t := (465, [some (.inr (some a0)), some (.inl x1), some (.inl x2), some (.inl x3), some (.inl x4), some (.inl x5), some (.inl x6), some (.inl x7), some (.inl 1), z9], [.inr (some a0)], M)) sm_a184_464 rfl rfl rfl ?_
          refine ru_go (t := (468, [some (.inr (some a0)), some (.inl x1), some (.inl x2), some (.inl x3), some (.inl x4), some (.inl x5), some (.inl x6), some (.inl x7), some (.inl 1), z9], [.inr (sm_R M a0 76)], M)) sm_a184_465 rfl rfl (st_getR h_1 rfl rfl) ?_
          refine ru_go (t := (469, [some (.inr (some a0)), some (.inl x1), some (.inl x2), some (.inl x3), some (.inl x4), some (.inl x5), some (.inl x6), some (.inl x7), some (.inl 1), z9], [.inl x1, .inr (sm_R M a0 76)], M)) sm_a184_468 rfl rfl rfl ?_
          refine ru_go (t := (470, [some (.inr (some a0)), some (.inl x1), some (.inl x2), some (.inl x3), some (.inl x4), some (.inl x5), some (.inl x6), some (.inl x7), some (.inl 1), z9], [.inl 0, .inl x1, .inr (sm_R M a0 76)], M)) sm_a184_469 rfl rfl (st_iconst (by decide)) ?_
          obtain ⟨b_40, hb_41, h⟩ := h
          rw [hb_41]
          obtain ⟨h_42, h⟩ := h
          obtain ⟨h_43, h⟩ := h
          refine ru_go (t := (471, [some (.inr (some a0)), some (.inl x1), some (.inl x2), some (.inl x3), some (.inl x4), some (.inl x5), some (.inl x6), some (.inl x7), some (.inl 1), z9], [], sm_putI M b_40 (x1).toNatClampNeg 0)) sm_a184_470 rfl rfl (st_iast h_42 h_43) ?_
          refine ru_go (t := (473, [some (.inr (some a0)), some (.inl x1), some (.inl x2), some (.inl x3), some (.inl x4), some (.inl x5), some (.inl x6), some (.inl x7), some (.inl 1), z9], [.inl x5], sm_putI M b_40 (x1).toNatClampNeg 0)) sm_a184_471 rfl rfl rfl ?_
          refine ru_if (pc := 473) (p := 499) (p2 := 476) sm_a184_473 (by decide) rfl ⟨fun hc_44 => ?_, fun hc_44 => ?_⟩
          · have h := h.1 hc_44
            refine ru_go (t := (501, [some (.inr (some a0)), some (.inl x1), some (.inl x2), some (.inl x3), some (.inl x4), some (.inl x5), some (.inl x6), some (.inl x7), some (.inl 1), z9], [.inl x6], sm_putI M b_40 (x1).toNatClampNeg 0)) sm_a184_499 rfl rfl rfl ?_
            refine ru_if (pc := 501) (p := 572) (p2 := 504) sm_a184_501 (by decide) rfl ⟨fun hc_45 => ?_, fun hc_45 => ?_⟩
            · have h := h.1 hc_45
              refine ru_go (t := (573, [some (.inr (some a0)), some (.inl x1), some (.inl x2), some (.inl x3), some (.inl x4), some (.inl x5), some (.inl x6), some (.inl x7), some (.inl 1), z9], [.inr (some a0)], sm_putI M b_40 (x1).toNatClampNeg 0)) sm_a184_572 rfl rfl rfl ?_
              refine ru_go (t := (576, [some (.inr (some a0)), some (.inl x1), some (.inl x2), some (.inl x3), some (.inl x4), some (.inl x5), some (.inl x6), some (.inl x7), some (.inl 1), z9], [.inr (sm_R (sm_putI M b_40 (x1).toNatClampNeg 0) a0 74)], sm_putI M b_40 (x1).toNatClampNeg 0)) sm_a184_573 rfl rfl (st_getR h_1 rfl rfl) ?_
              refine ru_go (t := (577, [some (.inr (some a0)), some (.inl x1), some (.inl x2), some (.inl x3), some (.inl x4), some (.inl x5), some (.inl x6), some (.inl x7), some (.inl 1), z9], [.inl x1, .inr (sm_R (sm_putI M b_40 (x1).toNatClampNeg 0) a0 74)], sm_putI M b_40 (x1).toNatClampNeg 0)) sm_a184_576 rfl rfl rfl ?_
              refine ru_go (t := (578, [some (.inr (some a0)), some (.inl x1), some (.inl x2), some (.inl x3), some (.inl x4), some (.inl x5), some (.inl x6), some (.inl x7), some (.inl 1), z9], [.inl x1, .inr (sm_R (sm_putI M b_40 (x1).toNatClampNeg 0) a0 74), .inl x1, .inr (sm_R (sm_putI M b_40 (x1).toNatClampNeg 0) a0 74)], sm_putI M b_40 (x1).toNatClampNeg 0)) sm_a184_577 rfl rfl rfl ?_
              obtain ⟨b_46, hb_47, h⟩ := h
              rw [hb_47]
              obtain ⟨h_48, h⟩ := h
              obtain ⟨h_49, h⟩ := h
              refine ru_go (t := (579, [some (.inr (some a0)), some (.inl x1), some (.inl x2), some (.inl x3), some (.inl x4), some (.inl x5), some (.inl x6), some (.inl x7), some (.inl 1), z9], [.inl (sm_I (sm_putI M b_40 (x1).toNatClampNeg 0) b_46 (x1).toNatClampNeg), .inl x1, .inr (some b_46)], sm_putI M b_40 (x1).toNatClampNeg 0)) sm_a184_578 rfl rfl (st_iald h_48 h_49) ?_
              refine ru_go (t := (581, [some (.inr (some a0)), some (.inl x1), some (.inl x2), some (.inl x3), some (.inl x4), some (.inl x5), some (.inl x6), some (.inl x7), some (.inl 1), z9], [.inl x7, .inl (sm_I (sm_putI M b_40 (x1).toNatClampNeg 0) b_46 (x1).toNatClampNeg), .inl x1, .inr (some b_46)], sm_putI M b_40 (x1).toNatClampNeg 0)) sm_a184_579 rfl rfl rfl ?_
              refine ru_go (t := (582, [some (.inr (some a0)), some (.inl x1), some (.inl x2), some (.inl x3), some (.inl x4), some (.inl x5), some (.inl x6), some (.inl x7), some (.inl 1), z9], [.inl ((sm_I (sm_putI M b_40 (x1).toNatClampNeg 0) b_46 (x1).toNatClampNeg) + x7), .inl x1, .inr (some b_46)], sm_putI M b_40 (x1).toNatClampNeg 0)) sm_a184_581 rfl rfl rfl ?_
              obtain ⟨h_50, h⟩ := h
              refine ru_go (t := (583, [some (.inr (some a0)), some (.inl x1), some (.inl x2), some (.inl x3), some (.inl x4), some (.inl x5), some (.inl x6), some (.inl x7), some (.inl 1), z9], [], sm_putI (sm_putI M b_40 (x1).toNatClampNeg 0) b_46 (x1).toNatClampNeg ((sm_I (sm_putI M b_40 (x1).toNatClampNeg 0) b_46 (x1).toNatClampNeg) + x7))) sm_a184_582 rfl rfl (st_iast h_50 h_49) ?_
              refine ru_go (t := (584, [some (.inr (some a0)), some (.inl x1), some (.inl x2), some (.inl x3), some (.inl x4), some (.inl x5), some (.inl x6), some (.inl x7), some (.inl 1), z9], [.inr (some a0)], sm_putI (sm_putI M b_40 (x1).toNatClampNeg 0) b_46 (x1).toNatClampNeg ((sm_I (sm_putI M b_40 (x1).toNatClampNeg 0) b_46 (x1).toNatClampNeg) + x7))) sm_a184_583 rfl rfl rfl ?_
              refine ru_go (t := (587, [some (.inr (some a0)), some (.inl x1), some (.inl x2), some (.inl x3), some (.inl x4), some (.inl x5), some (.inl x6), some (.inl x7), some (.inl 1), z9], [.inr (sm_R (sm_putI (sm_putI M b_40 (x1).toNatClampNeg 0) b_46 (x1).toNatClampNeg ((sm_I (sm_putI M b_40 (x1).toNatClampNeg 0) b_46 (x1).toNatClampNeg) + x7)) a0 78)], sm_putI (sm_putI M b_40 (x1).toNatClampNeg 0) b_46 (x1).toNatClampNeg ((sm_I (sm_putI M b_40 (x1).toNatClampNeg 0) b_46 (x1).toNatClampNeg) + x7))) sm_a184_584 rfl rfl (st_getR h_1 rfl rfl) ?_
              refine ru_go (t := (588, [some (.inr (some a0)), some (.inl x1), some (.inl x2), some (.inl x3), some (.inl x4), some (.inl x5), some (.inl x6), some (.inl x7), some (.inl 1), z9], [.inl x1, .inr (sm_R (sm_putI (sm_putI M b_40 (x1).toNatClampNeg 0) b_46 (x1).toNatClampNeg ((sm_I (sm_putI M b_40 (x1).toNatClampNeg 0) b_46 (x1).toNatClampNeg) + x7)) a0 78)], sm_putI (sm_putI M b_40 (x1).toNatClampNeg 0) b_46 (x1).toNatClampNeg ((sm_I (sm_putI M b_40 (x1).toNatClampNeg 0) b_46 (x1).toNatClampNeg) + x7))) sm_a184_587 rfl rfl rfl ?_
              refine ru_go (t := (589, [some (.inr (some a0)), some (.inl x1), some (.inl x2), some (.inl x3), some (.inl x4), some (.inl x5), some (.inl x6), some (.inl x7), some (.inl 1), z9], [.inl 1, .inl x1, .inr (sm_R (sm_putI (sm_putI M b_40 (x1).toNatClampNeg 0) b_46 (x1).toNatClampNeg ((sm_I (sm_putI M b_40 (x1).toNatClampNeg 0) b_46 (x1).toNatClampNeg) + x7)) a0 78)], sm_putI (sm_putI M b_40 (x1).toNatClampNeg 0) b_46 (x1).toNatClampNeg ((sm_I (sm_putI M b_40 (x1).toNatClampNeg 0) b_46 (x1).toNatClampNeg) + x7))) sm_a184_588 rfl rfl (st_iconst (by decide)) ?_
              refine ru_go (t := (590, [some (.inr (some a0)), some (.inl x1), some (.inl x2), some (.inl x3), some (.inl x4), some (.inl x5), some (.inl x6), some (.inl x7), some (.inl 1), z9], [.inr (some a0), .inl 1, .inl x1, .inr (sm_R (sm_putI (sm_putI M b_40 (x1).toNatClampNeg 0) b_46 (x1).toNatClampNeg ((sm_I (sm_putI M b_40 (x1).toNatClampNeg 0) b_46 (x1).toNatClampNeg) + x7)) a0 78)], sm_putI (sm_putI M b_40 (x1).toNatClampNeg 0) b_46 (x1).toNatClampNeg ((sm_I (sm_putI M b_40 (x1).toNatClampNeg 0) b_46 (x1).toNatClampNeg) + x7))) sm_a184_589 rfl rfl rfl ?_
              refine ru_go (t := (593, [some (.inr (some a0)), some (.inl x1), some (.inl x2), some (.inl x3), some (.inl x4), some (.inl x5), some (.inl x6), some (.inl x7), some (.inl 1), z9], [.inr (sm_R (sm_putI (sm_putI M b_40 (x1).toNatClampNeg 0) b_46 (x1).toNatClampNeg ((sm_I (sm_putI M b_40 (x1).toNatClampNeg 0) b_46 (x1).toNatClampNeg) + x7)) a0 78), .inl 1, .inl x1, .inr (sm_R (sm_putI (sm_putI M b_40 (x1).toNatClampNeg 0) b_46 (x1).toNatClampNeg ((sm_I (sm_putI M b_40 (x1).toNatClampNeg 0) b_46 (x1).toNatClampNeg) + x7)) a0 78)], sm_putI (sm_putI M b_40 (x1).toNatClampNeg 0) b_46 (x1).toNatClampNeg ((sm_I (sm_putI M b_40 (x1).toNatClampNeg 0) b_46 (x1).toNatClampNeg) + x7))) sm_a184_590 rfl rfl (st_getR h_1 rfl rfl) ?_
              refine ru_go (t := (594, [some (.inr (some a0)), some (.inl x1), some (.inl x2), some (.inl x3), some (.inl x4), some (.inl x5), some (.inl x6), some (.inl x7), some (.inl 1), z9], [.inl x1, .inr (sm_R (sm_putI (sm_putI M b_40 (x1).toNatClampNeg 0) b_46 (x1).toNatClampNeg ((sm_I (sm_putI M b_40 (x1).toNatClampNeg 0) b_46 (x1).toNatClampNeg) + x7)) a0 78), .inl 1, .inl x1, .inr (sm_R (sm_putI (sm_putI M b_40 (x1).toNatClampNeg 0) b_46 (x1).toNatClampNeg ((sm_I (sm_putI M b_40 (x1).toNatClampNeg 0) b_46 (x1).toNatClampNeg) + x7)) a0 78)], sm_putI (sm_putI M b_40 (x1).toNatClampNeg 0) b_46 (x1).toNatClampNeg ((sm_I (sm_putI M b_40 (x1).toNatClampNeg 0) b_46 (x1).toNatClampNeg) + x7))) sm_a184_593 rfl rfl rfl ?_
              obtain ⟨b_51, hb_52, h⟩ := h
              rw [hb_52]
              obtain ⟨h_53, h⟩ := h
              obtain ⟨h_54, h⟩ := h
              refine ru_go (t := (595, [some (.inr (some a0)), some (.inl x1), some (.inl x2), some (.inl x3), some (.inl x4), some (.inl x5), some (.inl x6), some (.inl x7), some (.inl 1), z9], [.inl (sm_I (sm_putI (sm_putI M b_40 (x1).toNatClampNeg 0) b_46 (x1).toNatClampNeg ((sm_I (sm_putI M b_40 (x1).toNatClampNeg 0) b_46 (x1).toNatClampNeg) + x7)) b_51 (x1).toNatClampNeg), .inl 1, .inl x1, .inr (some b_51)], sm_putI (sm_putI M b_40 (x1).toNatClampNeg 0) b_46 (x1).toNatClampNeg ((sm_I (sm_putI M b_40 (x1).toNatClampNeg 0) b_46 (x1).toNatClampNeg) + x7))) sm_a184_594 rfl rfl (st_iald h_53 h_54) ?_
              refine ru_go (t := (596, [some (.inr (some a0)), some (.inl x1), some (.inl x2), some (.inl x3), some (.inl x4), some (.inl x5), some (.inl x6), some (.inl x7), some (.inl 1), z9], [.inl (1 - (sm_I (sm_putI (sm_putI M b_40 (x1).toNatClampNeg 0) b_46 (x1).toNatClampNeg ((sm_I (sm_putI M b_40 (x1).toNatClampNeg 0) b_46 (x1).toNatClampNeg) + x7)) b_51 (x1).toNatClampNeg)), .inl x1, .inr (some b_51)], sm_putI (sm_putI M b_40 (x1).toNatClampNeg 0) b_46 (x1).toNatClampNeg ((sm_I (sm_putI M b_40 (x1).toNatClampNeg 0) b_46 (x1).toNatClampNeg) + x7))) sm_a184_595 rfl rfl rfl ?_
              obtain ⟨h_55, h⟩ := h
              refine ru_go (t := (597, [some (.inr (some a0)), some (.inl x1), some (.inl x2), some (.inl x3), some (.inl x4), some (.inl x5), some (.inl x6), some (.inl x7), some (.inl 1), z9], [], sm_putI (sm_putI (sm_putI M b_40 (x1).toNatClampNeg 0) b_46 (x1).toNatClampNeg ((sm_I (sm_putI M b_40 (x1).toNatClampNeg 0) b_46 (x1).toNatClampNeg) + x7)) b_51 (x1).toNatClampNeg (1 - (sm_I (sm_putI (sm_putI M b_40 (x1).toNatClampNeg 0) b_46 (x1).toNatClampNeg ((sm_I (sm_putI M b_40 (x1).toNatClampNeg 0) b_46 (x1).toNatClampNeg) + x7)) b_51 (x1).toNatClampNeg)))) sm_a184_596 rfl rfl (st_iast h_55 h_54) ?_
              exact h
            · have h := h.2 hc_45
              refine ru_go (t := (505, [some (.inr (some a0)), some (.inl x1), some (.inl x2), some (.inl x3), some (.inl x4), some (.inl x5), some (.inl x6), some (.inl x7), some (.inl 1), z9], [.inr (some a0)], sm_putI M b_40 (x1).toNatClampNeg 0)) sm_a184_504 rfl rfl rfl ?_
              refine ru_go (t := (506, [some (.inr (some a0)), some (.inl x1), some (.inl x2), some (.inl x3), some (.inl x4), some (.inl x5), some (.inl x6), some (.inl x7), some (.inl 1), z9], [.inl x1, .inr (some a0)], sm_putI M b_40 (x1).toNatClampNeg 0)) sm_a184_505 rfl rfl rfl ?_
              refine ru_go (t := (507, [some (.inr (some a0)), some (.inl x1), some (.inl x2), some (.inl x3), some (.inl x4), some (.inl x5), some (.inl x6), some (.inl x7), some (.inl 1), z9], [.inr (some a0), .inl x1, .inr (some a0)], sm_putI M b_40 (x1).toNatClampNeg 0)) sm_a184_506 rfl rfl rfl ?_
              refine ru_go (t := (510, [some (.inr (some a0)), some (.inl x1), some (.inl x2), some (.inl x3), some (.inl x4), some (.inl x5), some (.inl x6), some (.inl x7), some (.inl 1), z9], [.inr (sm_R (sm_putI M b_40 (x1).toNatClampNeg 0) a0 78), .inl x1, .inr (some a0)], sm_putI M b_40 (x1).toNatClampNeg 0)) sm_a184_507 rfl rfl (st_getR h_1 rfl rfl) ?_
              refine ru_go (t := (511, [some (.inr (some a0)), some (.inl x1), some (.inl x2), some (.inl x3), some (.inl x4), some (.inl x5), some (.inl x6), some (.inl x7), some (.inl 1), z9], [.inl x1, .inr (sm_R (sm_putI M b_40 (x1).toNatClampNeg 0) a0 78), .inl x1, .inr (some a0)], sm_putI M b_40 (x1).toNatClampNeg 0)) sm_a184_510 rfl rfl rfl ?_
              obtain ⟨b_56, hb_57, h⟩ := h
              rw [hb_57]
              obtain ⟨h_58, h⟩ := h
              obtain ⟨h_59, h⟩ := h
              refine ru_go (t := (512, [some (.inr (some a0)), some (.inl x1), some (.inl x2), some (.inl x3), some (.inl x4), some (.inl x5), some (.inl x6), some (.inl x7), some (.inl 1), z9], [.inl (sm_I (sm_putI M b_40 (x1).toNatClampNeg 0) b_56 (x1).toNatClampNeg), .inl x1, .inr (some a0)], sm_putI M b_40 (x1).toNatClampNeg 0)) sm_a184_511 rfl rfl (st_iald h_58 h_59) ?_
              refine ru_go (t := (513, [some (.inr (some a0)), some (.inl x1), some (.inl x2), some (.inl x3), some (.inl x4), some (.inl x5), some (.inl x6), some (.inl x7), some (.inl 1), z9], [.inr (some a0), .inl (sm_I (sm_putI M b_40 (x1).toNatClampNeg 0) b_56 (x1).toNatClampNeg), .inl x1, .inr (some a0)], sm_putI M b_40 (x1).toNatClampNeg 0)) sm_a184_512 rfl rfl rfl ?_
              refine ru_go (t := (516, [some (.inr (some a0)), some (.inl x1), some (.inl x2), some (.inl x3), some (.inl x4), some (.inl x5), some (.inl x6), some (.inl x7), some (.inl 1), z9], [.inr (sm_R (sm_putI M b_40 (x1).toNatClampNeg 0) a0 58), .inl (sm_I (sm_putI M b_40 (x1).toNatClampNeg 0) b_56 (x1).toNatClampNeg), .inl x1, .inr (some a0)], sm_putI M b_40 (x1).toNatClampNeg 0)) sm_a184_513 rfl rfl (st_getR h_1 rfl rfl) ?_
              refine ru_go (t := (517, [some (.inr (some a0)), some (.inl x1), some (.inl x2), some (.inl x3), some (.inl x4), some (.inl x5), some (.inl x6), some (.inl x7), some (.inl 1), z9], [.inl x2, .inr (sm_R (sm_putI M b_40 (x1).toNatClampNeg 0) a0 58), .inl (sm_I (sm_putI M b_40 (x1).toNatClampNeg 0) b_56 (x1).toNatClampNeg), .inl x1, .inr (some a0)], sm_putI M b_40 (x1).toNatClampNeg 0)) sm_a184_516 rfl rfl rfl ?_
              obtain ⟨b_60, hb_61, h⟩ := h
              rw [hb_61]
              obtain ⟨h_62, h⟩ := h
              obtain ⟨h_63, h⟩ := h
              refine ru_go (t := (518, [some (.inr (some a0)), some (.inl x1), some (.inl x2), some (.inl x3), some (.inl x4), some (.inl x5), some (.inl x6), some (.inl x7), some (.inl 1), z9], [.inl (sm_I (sm_putI M b_40 (x1).toNatClampNeg 0) b_60 (x2).toNatClampNeg), .inl (sm_I (sm_putI M b_40 (x1).toNatClampNeg 0) b_56 (x1).toNatClampNeg), .inl x1, .inr (some a0)], sm_putI M b_40 (x1).toNatClampNeg 0)) sm_a184_517 rfl rfl (st_iald h_62 h_63) ?_
              exact ru_call (p := 521) sm_a184_518 rfl (sc_virt (Or.inl rfl) rfl rfl h_1 (Nat.le_of_ble_eq_true rfl)) rfl h
          · have h := h.2 hc_44
            refine ru_go (t := (478, [some (.inr (some a0)), some (.inl x1), some (.inl x2), some (.inl x3), some (.inl x4), some (.inl x5), some (.inl x6), some (.inl x7), some (.inl 1), z9], [.inl x6], sm_putI M b_40 (x1).toNatClampNeg 0)) sm_a184_476 rfl rfl rfl ?_
            refine ru_if (pc := 478) (p := 489) (p2 := 481) sm_a184_478 (by decide) rfl ⟨fun hc_64 => ?_, fun hc_64 => ?_⟩
            · have h := h.1 hc_64
              exact h
            · have h := h.2 hc_64
              refine ru_go (t := (482, [some (.inr (some a0)), some (.inl x1), some (.inl x2), some (.inl x3), some (.inl x4), some (.inl x5), some (.inl x6), some (.inl x7), some (.inl 1), z9], [.inr (some a0)], sm_putI M b_40 (x1).toNatClampNeg 0)) sm_a184_481 rfl rfl rfl ?_
              refine ru_go (t := (483, [some (.inr (some a0)), some (.inl x1), some (.inl x2), some (.inl x3), some (.inl x4), some (.inl x5), some (.inl x6), some (.inl x7), some (.inl 1), z9], [.inl 2, .inr (some a0)], sm_putI M b_40 (x1).toNatClampNeg 0)) sm_a184_482 rfl rfl (st_iconst (by decide)) ?_
              refine ru_go (t := (484, [some (.inr (some a0)), some (.inl x1), some (.inl x2), some (.inl x3), some (.inl x4), some (.inl x5), some (.inl x6), some (.inl x7), some (.inl 1), z9], [.inl 0, .inl 2, .inr (some a0)], sm_putI M b_40 (x1).toNatClampNeg 0)) sm_a184_483 rfl rfl (st_iconst (by decide)) ?_
              refine ru_go (t := (485, [some (.inr (some a0)), some (.inl x1), some (.inl x2), some (.inl x3), some (.inl x4), some (.inl x5), some (.inl x6), some (.inl x7), some (.inl 1), z9], [.inl 0, .inl 0, .inl 2, .inr (some a0)], sm_putI M b_40 (x1).toNatClampNeg 0)) sm_a184_484 rfl rfl (st_iconst (by decide)) ?_
              refine ru_go (t := (486, [some (.inr (some a0)), some (.inl x1), some (.inl x2), some (.inl x3), some (.inl x4), some (.inl x5), some (.inl x6), some (.inl x7), some (.inl 1), z9], [.inl 0, .inl 0, .inl 0, .inl 2, .inr (some a0)], sm_putI M b_40 (x1).toNatClampNeg 0)) sm_a184_485 rfl rfl (st_iconst (by decide)) ?_
              exact ru_call (p := 489) sm_a184_486 rfl (sc_virt (Or.inl rfl) rfl rfl h_1 (Nat.le_of_ble_eq_true rfl)) rfl h
    · have h := h.2 hc_3
      exact h
theorem bb_184_331 {d : Nat} {M : sm_M} {Q : Option sm_V → sm_M → Prop} {a0 : Nat} {x1 : Int32} {x2 : Int32} {x3 : Int32} {x4 : Int32} {x5 : Int32} {x6 : Int32} {x7 : Int32} {z8 : Option sm_V} {z9 : Option sm_V}
    (h : sm_K M a0 = 39 ∧ ∃ b_2, sm_R M a0 76 = some b_2 ∧ sm_wA 1 M b_2 ∧ sm_in_ M b_2 x1 ∧ ((¬ (sm_I (sm_putI M b_2 (x1).toNatClampNeg 0) a0 82) = 14 → ∃ b_7, sm_R (sm_putI M b_2 (x1).toNatClampNeg 0) a0 73 = some b_7 ∧ sm_wA 1 M b_7 ∧ sm_in_ M b_7 x1 ∧ ((¬ (sm_I (sm_putI (sm_putI M b_2 (x1).toNatClampNeg 0) b_7 (x1).toNatClampNeg 0) a0 82) = 10 → Q (some (.inl 0)) (sm_putI (sm_putI M b_2 (x1).toNatClampNeg 0) b_7 (x1).toNatClampNeg 0)) ∧ (¬ (¬ (sm_I (sm_putI (sm_putI M b_2 (x1).toNatClampNeg 0) b_7 (x1).toNatClampNeg 0) a0 82) = 10) → Q (some (.inl 1)) (sm_putI (sm_putI M b_2 (x1).toNatClampNeg 0) b_7 (x1).toNatClampNeg 0)))) ∧ (¬ (¬ (sm_I (sm_putI M b_2 (x1).toNatClampNeg 0) a0 82) = 14) → ∃ b_12, sm_R (sm_putI M b_2 (x1).toNatClampNeg 0) a0 73 = some b_12 ∧ sm_wA 1 M b_12 ∧ sm_in_ M b_12 x1 ∧ ((¬ (sm_I (sm_putI (sm_putI M b_2 (x1).toNatClampNeg 0) b_12 (x1).toNatClampNeg 2) a0 82) = 10 → Q (some (.inl 0)) (sm_putI (sm_putI M b_2 (x1).toNatClampNeg 0) b_12 (x1).toNatClampNeg 2)) ∧ (¬ (¬ (sm_I (sm_putI (sm_putI M b_2 (x1).toNatClampNeg 0) b_12 (x1).toNatClampNeg 2) a0 82) = 10) → Q (some (.inl 1)) (sm_putI (sm_putI M b_2 (x1).toNatClampNeg 0) b_12 (x1).toNatClampNeg 2)))))) :
    sm_Run (d + 1) 184 331 [some (.inr (some a0)), some (.inl x1), some (.inl x2), some (.inl x3), some (.inl x4), some (.inl x5), some (.inl x6), some (.inl x7), z8, z9] [] M Q := by
  refine ru_go (t := (332, [some (.inr (some a0)), some (.inl x1), some (.inl x2), some (.inl x3), some (.inl x4), some (.inl x5), some (.inl x6), some (.inl x7), z8, z9], [.inr (some a0)], M)) sm_a184_331 rfl rfl rfl ?_
  obtain ⟨h_1, h⟩ := h
  refine ru_go (t := (335, [some (.inr (some a0)), some (.inl x1), some (.inl x2), some (.inl x3), some (.inl x4), some (.inl x5), some (.inl x6), some (.inl x7), z8, z9], [.inr (sm_R M a0 76)], M)) sm_a184_332 rfl rfl (st_getR h_1 rfl rfl) ?_
  refine ru_go (t := (336, [some (.inr (some a0)), some (.inl x1), some (.inl x2), some (.inl x3), some (.inl x4), some (.inl x5), some (.inl x6), some (.inl x7), z8, z9], [.inl x1, .inr (sm_R M a0 76)], M)) sm_a184_335 rfl rfl rfl ?_
  refine ru_go (t := (337, [some (.inr (some a0)), some (.inl x1), some (.inl x2), some (.inl x3), some (.inl x4), some (.inl x5), some (.inl x6), some (.inl x7), z8, z9], [.inl 0, .inl x1, .inr (sm_R M a0 76)], M)) sm_a184_336 rfl rfl (st_iconst (by decide)) ?_
  obtain ⟨b_2, hb_3, h⟩ := h
  rw [hb_3]
  obtain ⟨h_4, h⟩ := h
  obtain ⟨h_5, h⟩ := h
  refine ru_go (t := (338, [some (.inr (some a0)), some (.inl x1), some (.inl x2), some (.inl x3), some (.inl x4), some (.inl x5), some (.inl x6), some (.inl x7), z8, z9], [], sm_putI M b_2 (x1).toNatClampNeg 0)) sm_a184_337 rfl rfl (st_iast h_4 h_5) ?_
  refine ru_go (t := (339, [some (.inr (some a0)), some (.inl x1), some (.inl x2), some (.inl x3), some (.inl x4), some (.inl x5), some (.inl x6), some (.inl x7), z8, z9], [.inr (some a0)], sm_putI M b_2 (x1).toNatClampNeg 0)) sm_a184_338 rfl rfl rfl ?_
  refine ru_go (t := (342, [some (.inr (some a0)), some (.inl x1), some (.inl x2), some (.inl x3), some (.inl x4), some (.inl x5), some (.inl x6), some (.inl x7), z8, z9], [.inr (sm_R (sm_putI M b_2 (x1).toNatClampNeg 0) a0 73)], sm_putI M b_2 (x1).toNatClampNeg 0)) sm_a184_339 rfl rfl (st_getR h_1 rfl rfl) ?_
  refine ru_go (t := (343, [some (.inr (some a0)), some (.inl x1), some (.inl x2), some (.inl x3), some (.inl x4), some (.inl x5), some (.inl x6), some (.inl x7), z8, z9], [.inl x1, .inr (sm_R (sm_putI M b_2 (x1).toNatClampNeg 0) a0 73)], sm_putI M b_2 (x1).toNatClampNeg 0)) sm_a184_342 rfl rfl rfl ?_
  refine ru_go (t := (344, [some (.inr (some a0)), some (.inl x1), some (.inl x2), some (.inl x3), some (.inl x4), some (.inl x5), some (.inl x6), some (.inl x7), z8, z9], [.inr (some a0), .inl x1, .inr (sm_R (sm_putI M b_2 (x1).toNatClampNeg 0) a0 73)], sm_putI M b_2 (x1).toNatClampNeg 0)) sm_a184_343 rfl rfl rfl ?_
  refine ru_go (t := (347, [some (.inr (some a0)), some (.inl x1), some (.inl x2), some (.inl x3), some (.inl x4), some (.inl x5), some (.inl x6), some (.inl x7), z8, z9], [.inl (sm_I (sm_putI M b_2 (x1).toNatClampNeg 0) a0 82), .inl x1, .inr (sm_R (sm_putI M b_2 (x1).toNatClampNeg 0) a0 73)], sm_putI M b_2 (x1).toNatClampNeg 0)) sm_a184_344 rfl rfl (st_getI h_1 rfl) ?_
  refine ru_go (t := (349, [some (.inr (some a0)), some (.inl x1), some (.inl x2), some (.inl x3), some (.inl x4), some (.inl x5), some (.inl x6), some (.inl x7), z8, z9], [.inl 14, .inl (sm_I (sm_putI M b_2 (x1).toNatClampNeg 0) a0 82), .inl x1, .inr (sm_R (sm_putI M b_2 (x1).toNatClampNeg 0) a0 73)], sm_putI M b_2 (x1).toNatClampNeg 0)) sm_a184_347 rfl rfl (st_bipush (by decide)) ?_
  refine ru_icmp (pc := 349) (p := 356) (p2 := 352) sm_a184_349 (by decide) rfl ⟨fun hc_6 => ?_, fun hc_6 => ?_⟩
  · have h := h.1 hc_6
    refine ru_go (t := (357, [some (.inr (some a0)), some (.inl x1), some (.inl x2), some (.inl x3), some (.inl x4), some (.inl x5), some (.inl x6), some (.inl x7), z8, z9], [.inl 0, .inl x1, .inr (sm_R (sm_putI M b_2 (x1).toNatClampNeg 0) a0 73)], sm_putI M b_2 (x1).toNatClampNeg 0)) sm_a184_356 rfl rfl (st_iconst (by decide)) ?_
    obtain ⟨b_7, hb_8, h⟩ := h
    rw [hb_8]
    obtain ⟨h_9, h⟩ := h
    obtain ⟨h_10, h⟩ := h
    refine ru_go (t := (358, [some (.inr (some a0)), some (.inl x1), some (.inl x2), some (.inl x3), some (.inl x4), some (.inl x5), some (.inl x6), some (.inl x7), z8, z9], [], sm_putI (sm_putI M b_2 (x1).toNatClampNeg 0) b_7 (x1).toNatClampNeg 0)) sm_a184_357 rfl rfl (st_iast h_9 h_10) ?_
    refine ru_go (t := (359, [some (.inr (some a0)), some (.inl x1), some (.inl x2), some (.inl x3), some (.inl x4), some (.inl x5), some (.inl x6), some (.inl x7), z8, z9], [.inr (some a0)], sm_putI (sm_putI M b_2 (x1).toNatClampNeg 0) b_7 (x1).toNatClampNeg 0)) sm_a184_358 rfl rfl rfl ?_
    refine ru_go (t := (362, [some (.inr (some a0)), some (.inl x1), some (.inl x2), some (.inl x3), some (.inl x4), some (.inl x5), some (.inl x6), some (.inl x7), z8, z9], [.inl (sm_I (sm_putI (sm_putI M b_2 (x1).toNatClampNeg 0) b_7 (x1).toNatClampNeg 0) a0 82)], sm_putI (sm_putI M b_2 (x1).toNatClampNeg 0) b_7 (x1).toNatClampNeg 0)) sm_a184_359 rfl rfl (st_getI h_1 rfl) ?_
    refine ru_go (t := (364, [some (.inr (some a0)), some (.inl x1), some (.inl x2), some (.inl x3), some (.inl x4), some (.inl x5), some (.inl x6), some (.inl x7), z8, z9], [.inl 10, .inl (sm_I (sm_putI (sm_putI M b_2 (x1).toNatClampNeg 0) b_7 (x1).toNatClampNeg 0) a0 82)], sm_putI (sm_putI M b_2 (x1).toNatClampNeg 0) b_7 (x1).toNatClampNeg 0)) sm_a184_362 rfl rfl (st_bipush (by decide)) ?_
    refine ru_icmp (pc := 364) (p := 371) (p2 := 367) sm_a184_364 (by decide) rfl ⟨fun hc_11 => ?_, fun hc_11 => ?_⟩
    · have h := h.1 hc_11
      refine ru_go (t := (372, [some (.inr (some a0)), some (.inl x1), some (.inl x2), some (.inl x3), some (.inl x4), some (.inl x5), some (.inl x6), some (.inl x7), z8, z9], [.inl 0], sm_putI (sm_putI M b_2 (x1).toNatClampNeg 0) b_7 (x1).toNatClampNeg 0)) sm_a184_371 rfl rfl (st_iconst (by decide)) ?_
      exact ru_ret sm_a184_372 (sm_rvz rfl (by decide)) h
    · have h := h.2 hc_11
      refine ru_go (t := (368, [some (.inr (some a0)), some (.inl x1), some (.inl x2), some (.inl x3), some (.inl x4), some (.inl x5), some (.inl x6), some (.inl x7), z8, z9], [.inl 1], sm_putI (sm_putI M b_2 (x1).toNatClampNeg 0) b_7 (x1).toNatClampNeg 0)) sm_a184_367 rfl rfl (st_iconst (by decide)) ?_
      refine ru_go (t := (372, [some (.inr (some a0)), some (.inl x1), some (.inl x2), some (.inl x3), some (.inl x4), some (.inl x5), some (.inl x6), some (.inl x7), z8, z9], [.inl 1], sm_putI (sm_putI M b_2 (x1).toNatClampNeg 0) b_7 (x1).toNatClampNeg 0)) sm_a184_368 rfl rfl (st_goto (pc := 368) (by decide)) ?_
      exact ru_ret sm_a184_372 (sm_rvz rfl (by decide)) h
  · have h := h.2 hc_6
    refine ru_go (t := (353, [some (.inr (some a0)), some (.inl x1), some (.inl x2), some (.inl x3), some (.inl x4), some (.inl x5), some (.inl x6), some (.inl x7), z8, z9], [.inl 2, .inl x1, .inr (sm_R (sm_putI M b_2 (x1).toNatClampNeg 0) a0 73)], sm_putI M b_2 (x1).toNatClampNeg 0)) sm_a184_352 rfl rfl (st_iconst (by decide)) ?_
    refine ru_go (t := (357, [some (.inr (some a0)), some (.inl x1), some (.inl x2), some (.inl x3), some (.inl x4), some (.inl x5), some (.inl x6), some (.inl x7), z8, z9], [.inl 2, .inl x1, .inr (sm_R (sm_putI M b_2 (x1).toNatClampNeg 0) a0 73)], sm_putI M b_2 (x1).toNatClampNeg 0)) sm_a184_353 rfl rfl (st_goto (pc := 353) (by decide)) ?_
    obtain ⟨b_12, hb_13, h⟩ := h
    rw [hb_13]
    obtain ⟨h_14, h⟩ := h
    obtain ⟨h_15, h⟩ := h
    refine ru_go (t := (358, [some (.inr (some a0)), some (.inl x1), some (.inl x2), some (.inl x3), some (.inl x4), some (.inl x5), some (.inl x6), some (.inl x7), z8, z9], [], sm_putI (sm_putI M b_2 (x1).toNatClampNeg 0) b_12 (x1).toNatClampNeg 2)) sm_a184_357 rfl rfl (st_iast h_14 h_15) ?_
    refine ru_go (t := (359, [some (.inr (some a0)), some (.inl x1), some (.inl x2), some (.inl x3), some (.inl x4), some (.inl x5), some (.inl x6), some (.inl x7), z8, z9], [.inr (some a0)], sm_putI (sm_putI M b_2 (x1).toNatClampNeg 0) b_12 (x1).toNatClampNeg 2)) sm_a184_358 rfl rfl rfl ?_
    refine ru_go (t := (362, [some (.inr (some a0)), some (.inl x1), some (.inl x2), some (.inl x3), some (.inl x4), some (.inl x5), some (.inl x6), some (.inl x7), z8, z9], [.inl (sm_I (sm_putI (sm_putI M b_2 (x1).toNatClampNeg 0) b_12 (x1).toNatClampNeg 2) a0 82)], sm_putI (sm_putI M b_2 (x1).toNatClampNeg 0) b_12 (x1).toNatClampNeg 2)) sm_a184_359 rfl rfl (st_getI h_1 rfl) ?_
    refine ru_go (t := (364, [some (.inr (some a0)), some (.inl x1), some (.inl x2), some (.inl x3), some (.inl x4), some (.inl x5), some (.inl x6), some (.inl x7), z8, z9], [.inl 10, .inl (sm_I (sm_putI (sm_putI M b_2 (x1).toNatClampNeg 0) b_12 (x1).toNatClampNeg 2) a0 82)], sm_putI (sm_putI M b_2 (x1).toNatClampNeg 0) b_12 (x1).toNatClampNeg 2)) sm_a184_362 rfl rfl (st_bipush (by decide)) ?_
    refine ru_icmp (pc := 364) (p := 371) (p2 := 367) sm_a184_364 (by decide) rfl ⟨fun hc_16 => ?_, fun hc_16 => ?_⟩
    · have h := h.1 hc_16
      refine ru_go (t := (372, [some (.inr (some a0)), some (.inl x1), some (.inl x2), some (.inl x3), some (.inl x4), some (.inl x5), some (.inl x6), some (.inl x7), z8, z9], [.inl 0], sm_putI (sm_putI M b_2 (x1).toNatClampNeg 0) b_12 (x1).toNatClampNeg 2)) sm_a184_371 rfl rfl (st_iconst (by decide)) ?_
      exact ru_ret sm_a184_372 (sm_rvz rfl (by decide)) h
    · have h := h.2 hc_16
      refine ru_go (t := (368, [some (.inr (some a0)), some (.inl x1), some (.inl x2), some (.inl x3), some (.inl x4), some (.inl x5), some (.inl x6), some (.inl x7), z8, z9], [.inl 1], sm_putI (sm_putI M b_2 (x1).toNatClampNeg 0) b_12 (x1).toNatClampNeg 2)) sm_a184_367 rfl rfl (st_iconst (by decide)) ?_
      refine ru_go (t := (372, [some (.inr (some a0)), some (.inl x1), some (.inl x2), some (.inl x3), some (.inl x4), some (.inl x5), some (.inl x6), some (.inl x7), z8, z9], [.inl 1], sm_putI (sm_putI M b_2 (x1).toNatClampNeg 0) b_12 (x1).toNatClampNeg 2)) sm_a184_368 rfl rfl (st_goto (pc := 368) (by decide)) ?_
      exact ru_ret sm_a184_372 (sm_rvz rfl (by decide)) h
theorem bb_184_416 {d : Nat} {M : sm_M} {Q : Option sm_V → sm_M → Prop} {a0 : Nat} {x1 : Int32} {x2 : Int32} {x3 : Int32} {x4 : Int32} {x5 : Int32} {x6 : Int32} {x7 : Int32} {z8 : Option sm_V} {z9 : Option sm_V}
    (h : sm_K M a0 = 39 ∧ ∃ b_2, sm_R M a0 76 = some b_2 ∧ sm_wA 1 M b_2 ∧ sm_in_ M b_2 x1 ∧ ((¬ x5 = 0 → ((x6 = 0 → ∃ b_8, sm_R (sm_putI M b_2 (x1).toNatClampNeg 0) a0 74 = some b_8 ∧ sm_iA M b_8 ∧ sm_in_ M b_8 x1 ∧ sm_wA 1 M b_8 ∧ ∃ b_13, sm_R (sm_putI (sm_putI M b_2 (x1).toNatClampNeg 0) b_8 (x1).toNatClampNeg ((sm_I (sm_putI M b_2 (x1).toNatClampNeg 0) b_8 (x1).toNatClampNeg) + x7)) a0 78 = some b_13 ∧ sm_iA M b_13 ∧ sm_in_ M b_13 x1 ∧ sm_wA 1 M b_13 ∧ sm_Run (d + 1) 184 597 [some (.inr (some a0)), some (.inl x1), some (.inl x2), some (.inl x3), some (.inl x4), some (.inl x5), some (.inl x6), some (.inl x7), some (.inl 1), z9] [] (sm_putI (sm_putI (sm_putI M b_2 (x1).toNatClampNeg 0) b_8 (x1).toNatClampNeg ((sm_I (sm_putI M b_2 (x1).toNatClampNeg 0) b_8 (x1).toNatClampNeg) + x7)) b_13 (x1).toNatClampNeg (1 - (sm_I (sm_putI (sm_putI M b_2 (x1).toNatClampNeg 0) b_8 (x1).toNatClampNeg ((sm_I (sm_putI M b_2 (x1).toNatClampNeg 0) b_8 (x1).toNatClampNeg) + x7)) b_13 (x1).toNatClampNeg))) Q) ∧ (¬ (x6 = 0) → ∃ b_18, sm_R (sm_putI M b_2 (x1).toNatClampNeg 0) a0 78 = some b_18 ∧ sm_iA M b_18 ∧ sm_in_ M b_18 x1 ∧ ∃ b_22, sm_R (sm_putI M b_2 (x1).toNatClampNeg 0) a0 58 = some b_22 ∧ sm_iA M b_22 ∧ sm_in_ M b_22 x2 ∧ sm_Run d 183 0 (sm_ent 183 [.inr (some a0), .inl x1, .inl (sm_I (sm_putI M b_2 (x1).toNatClampNeg 0) b_18 (x1).toNatClampNeg), .inl (sm_I (sm_putI M b_2 (x1).toNatClampNeg 0) b_22 (x2).toNatClampNeg)]) [] (sm_putI M b_2 (x1).toNatClampNeg 0) (fun v M1 => sm_Run (d + 1) 184 521 [some (.inr (some a0)), some (.inl x1), some (.inl x2), some (.inl x3), some (.inl x4), some (.inl x5), some (.inl x6), some (.inl x7), some (.inl 1), z9] (v.toList ++ []) M1 Q)))) ∧ (¬ (¬ x5 = 0) → ((x6 = 0 → sm_Run (d + 1) 184 489 [some (.inr (some a0)), some (.inl x1), some (.inl x2), some (.inl x3), some (.inl x4), some (.inl x5), some (.inl x6), some (.inl x7), some (.inl 1), z9] [] (sm_putI M b_2 (x1).toNatClampNeg 0) Q) ∧ (¬ (x6 = 0) → sm_Run d 178 0 (sm_ent 178 [.inr (some a0), .inl 2, .inl 0, .inl 0, .inl 0]) [] (sm_putI M b_2 (x1).toNatClampNeg 0) (fun v M1 => sm_Run (d + 1) 184 489 [some (.inr (some a0)), some (.inl x1), some (.inl x2), some (.inl x3), some (.inl x4), some (.inl x5), some (.inl x6), some (.inl x7), some (.inl 1), z9] (v.toList ++ []) M1 Q)))))) :
    sm_Run (d + 1) 184 416 [some (.inr (some a0)), some (.inl x1), some (.inl x2), some (.inl x3), some (.inl x4), some (.inl x5), some (.inl x6), some (.inl x7), z8, z9] [] M Q := by
  refine ru_go (t := (417, [some (.inr (some a0)), some (.inl x1), some (.inl x2), some (.inl x3), some (.inl x4), some (.inl x5), some (.inl x6), some (.inl x7), z8, z9], [.inl 1], M)) sm_a184_416 rfl rfl (st_iconst (by decide)) ?_
  refine ru_go (t := (450, [some (.inr (some a0)), some (.inl x1), some (.inl x2), some (.inl x3), some (.inl x4), some (.inl x5), some (.inl x6), some (.inl x7), z8, z9], [.inl 1], M)) sm_a184_417 rfl rfl (st_goto (pc := 417) (by decide)) ?_
  refine ru_go (t := (452, [some (.inr (some a0)), some (.inl x1), some (.inl x2), some (.inl x3), some (.inl x4), some (.inl x5), some (.inl x6), some (.inl x7), some (.inl 1), z9], [], M)) sm_a184_450 rfl rfl rfl ?_
  refine ru_go (t := (454, [some (.inr (some a0)), some (.inl x1), some (.inl x2), some (.inl x3), some (.inl x4), some (.inl x5), some (.inl x6), some (.inl x7), some (.inl 1), z9], [.inl 1], M)) sm_a184_452 rfl rfl rfl ?_
  refine ru_if (pc := 454) (p := 464) (p2 := 457) sm_a184_454 (by decide) rfl ⟨fun _ => ?_, fun hc => absurd (show sm_cP .ne 1 0 from (by show ¬ (1 : Int32) = 0; decide)) hc⟩
  refine ru_go (t := (465, [some (.inr (some a0)), some (.inl x1), some (.inl x2), some (.inl x3), some (.inl x4), some (.inl x5), some (.inl x6), some (.inl x7), some (.inl 1), z9], [.inr (some a0)], M)) sm_a184_464 rfl rfl rfl ?_
  obtain ⟨h_1, h⟩ := h
  refine ru_go (t := (468, [some (.inr (some a0)), some (.inl x1), some (.inl x2), some (.inl x3), some (.inl x4), some (.inl x5), some (.inl x6), some (.inl x7), some (.inl 1), z9], [.inr (sm_R M a0 76)], M)) sm_a184_465 rfl rfl (st_getR h_1 rfl rfl) ?_
  refine ru_go (t := (469, [some (.inr (some a0)), some (.inl x1), some (.inl x2), some (.inl x3), some (.inl x4), some (.inl x5), some (.inl x6), some (.inl x7), some (.inl 1), z9], [.inl x1, .inr (sm_R M a0 76)], M)) sm_a184_468 rfl rfl rfl ?_
  refine ru_go (t := (470, [some (.inr (some a0)), some (.inl x1), some (.inl x2), some (.inl x3), some (.inl x4), some (.inl x5), some (.inl x6), some (.inl x7), some (.inl 1), z9], [.inl 0, .inl x1, .inr (sm_R M a0 76)], M)) sm_a184_469 rfl rfl (st_iconst (by decide)) ?_
  obtain ⟨b_2, hb_3, h⟩ := h
  rw [hb_3]
  obtain ⟨h_4, h⟩ := h
  obtain ⟨h_5, h⟩ := h
  refine ru_go (t := (471, [some (.inr (some a0)), some (.inl x1), some (.inl x2), some (.inl x3), some (.inl x4), some (.inl x5), some (.inl x6), some (.inl x7), some (.inl 1), z9], [], sm_putI M b_2 (x1).toNatClampNeg 0)) sm_a184_470 rfl rfl (st_iast h_4 h_5) ?_
  refine ru_go (t := (473, [some (.inr (some a0)), some (.inl x1), some (.inl x2), some (.inl x3), some (.inl x4), some (.inl x5), some (.inl x6), some (.inl x7), some (.inl 1), z9], [.inl x5], sm_putI M b_2 (x1).toNatClampNeg 0)) sm_a184_471 rfl rfl rfl ?_
  refine ru_if (pc := 473) (p := 499) (p2 := 476) sm_a184_473 (by decide) rfl ⟨fun hc_6 => ?_, fun hc_6 => ?_⟩
  · have h := h.1 hc_6
    refine ru_go (t := (501, [some (.inr (some a0)), some (.inl x1), some (.inl x2), some (.inl x3), some (.inl x4), some (.inl x5), some (.inl x6), some (.inl x7), some (.inl 1), z9], [.inl x6], sm_putI M b_2 (x1).toNatClampNeg 0)) sm_a184_499 rfl rfl rfl ?_
    refine ru_if (pc := 501) (p := 572) (p2 := 504) sm_a184_501 (by decide) rfl ⟨fun hc_7 => ?_, fun hc_7 => ?_⟩
    · have h := h.1 hc_7
      refine ru_go (t := (573, [some (.inr (some a0)), some (.inl x1), some (.inl x2), some (.inl x3), some (.inl x4), some (.inl x5), some (.inl x6), some (.inl x7), some (.inl 1), z9], [.inr (some a0)], sm_putI M b_2 (x1).toNatClampNeg 0)) sm_a184_572 rfl rfl rfl ?_
      refine ru_go (t := (576, [some (.inr (some a0)), some (.inl x1), some (.inl x2), some (.inl x3), some (.inl x4), some (.inl x5), some (.inl x6), some (.inl x7), some (.inl 1), z9], [.inr (sm_R (sm_putI M b_2 (x1).toNatClampNeg 0) a0 74)], sm_putI M b_2 (x1).toNatClampNeg 0)) sm_a184_573 rfl rfl (st_getR h_1 rfl rfl) ?_
      refine ru_go (t := (577, [some (.inr (some a0)), some (.inl x1), some (.inl x2), some (.inl x3), some (.inl x4), some (.inl x5), some (.inl x6), some (.inl x7), some (.inl 1), z9], [.inl x1, .inr (sm_R (sm_putI M b_2 (x1).toNatClampNeg 0) a0 74)], sm_putI M b_2 (x1).toNatClampNeg 0)) sm_a184_576 rfl rfl rfl ?_
      refine ru_go (t := (578, [some (.inr (some a0)), some (.inl x1), some (.inl x2), some (.inl x3), some (.inl x4), some (.inl x5), some (.inl x6), some (.inl x7), some (.inl 1), z9], [.inl x1, .inr (sm_R (sm_putI M b_2 (x1).toNatClampNeg 0) a0 74), .inl x1, .inr (sm_R (sm_putI M b_2 (x1).toNatClampNeg 0) a0 74)], sm_putI M b_2 (x1).toNatClampNeg 0)) sm_a184_577 rfl rfl rfl ?_
      obtain ⟨b_8, hb_9, h⟩ := h
      rw [hb_9]
      obtain ⟨h_10, h⟩ := h
      obtain ⟨h_11, h⟩ := h
      refine ru_go (t := (579, [some (.inr (some a0)), some (.inl x1), some (.inl x2), some (.inl x3), some (.inl x4), some (.inl x5), some (.inl x6), some (.inl x7), some (.inl 1), z9], [.inl (sm_I (sm_putI M b_2 (x1).toNatClampNeg 0) b_8 (x1).toNatClampNeg), .inl x1, .inr (some b_8)], sm_putI M b_2 (x1).toNatClampNeg 0)) sm_a184_578 rfl rfl (st_iald h_10 h_11) ?_
      refine ru_go (t := (581, [some (.inr (some a0)), some (.inl x1), some (.inl x2), some (.inl x3), some (.inl x4), some (.inl x5), some (.inl x6), some (.inl x7), some (.inl 1), z9], [.inl x7, .inl (sm_I (sm_putI M b_2 (x1).toNatClampNeg 0) b_8 (x1).toNatClampNeg), .inl x1, .inr (some b_8)], sm_putI M b_2 (x1).toNatClampNeg 0)) sm_a184_579 rfl rfl rfl ?_
      refine ru_go (t := (582, [some (.inr (some a0)), some (.inl x1), some (.inl x2), some (.inl x3), some (.inl x4), some (.inl x5), some (.inl x6), some (.inl x7), some (.inl 1), z9], [.inl ((sm_I (sm_putI M b_2 (x1).toNatClampNeg 0) b_8 (x1).toNatClampNeg) + x7), .inl x1, .inr (some b_8)], sm_putI M b_2 (x1).toNatClampNeg 0)) sm_a184_581 rfl rfl rfl ?_
      obtain ⟨h_12, h⟩ := h
      refine ru_go (t := (583, [some (.inr (some a0)), some (.inl x1), some (.inl x2), some (.inl x3), some (.inl x4), some (.inl x5), some (.inl x6), some (.inl x7), some (.inl 1), z9], [], sm_putI (sm_putI M b_2 (x1).toNatClampNeg 0) b_8 (x1).toNatClampNeg ((sm_I (sm_putI M b_2 (x1).toNatClampNeg 0) b_8 (x1).toNatClampNeg) + x7))) sm_a184_582 rfl rfl (st_iast h_12 h_11) ?_
      refine ru_go (t := (584, [some (.inr (some a0)), some (.inl x1), some (.inl x2), some (.inl x3), some (.inl x4), some (.inl x5), some (.inl x6), some (.inl x7), some (.inl 1), z9], [.inr (some a0)], sm_putI (sm_putI M b_2 (x1).toNatClampNeg 0) b_8 (x1).toNatClampNeg ((sm_I (sm_putI M b_2 (x1).toNatClampNeg 0) b_8 (x1).toNatClampNeg) + x7))) sm_a184_583 rfl rfl rfl ?_
      refine ru_go (t := (587, [some (.inr (some a0)), some (.inl x1), some (.inl x2), some (.inl x3), some (.inl x4), some (.inl x5), some (.inl x6), some (.inl x7), some (.inl 1), z9], [.inr (sm_R (sm_putI (sm_putI M b_2 (x1).toNatClampNeg 0) b_8 (x1).toNatClampNeg ((sm_I (sm_putI M b_2 (x1).toNatClampNeg 0) b_8 (x1).toNatClampNeg) + x7)) a0 78)], sm_putI (sm_putI M b_2 (x1).toNatClampNeg 0) b_8 (x1).toNatClampNeg ((sm_I (sm_putI M b_2 (x1).toNatClampNeg 0) b_8 (x1).toNatClampNeg) + x7))) sm_a184_584 rfl rfl (st_getR h_1 rfl rfl) ?_
      refine ru_go (t := (588, [some (.inr (some a0)), some (.inl x1), some (.inl x2), some (.inl x3), some (.inl x4), some (.inl x5), some (.inl x6), some (.inl x7), some (.inl 1), z9], [.inl x1, .inr (sm_R (sm_putI (sm_putI M b_2 (x1).toNatClampNeg 0) b_8 (x1).toNatClampNeg ((sm_I (sm_putI M b_2 (x1).toNatClampNeg 0) b_8 (x1).toNatClampNeg) + x7)) a0 78)], sm_putI (sm_putI M b_2 (x1).toNatClampNeg 0) b_8 (x1).toNatClampNeg ((sm_I (sm_putI M b_2 (x1).toNatClampNeg 0) b_8 (x1).toNatClampNeg) + x7))) sm_a184_587 rfl rfl rfl ?_
      refine ru_go (t := (589, [some (.inr (some a0)), some (.inl x1), some (.inl x2), some (.inl x3), some (.inl x4), some (.inl x5), some (.inl x6), some (.inl x7), some (.inl 1), z9], [.inl 1, .inl x1, .inr (sm_R (sm_putI (sm_putI M b_2 (x1).toNatClampNeg 0) b_8 (x1).toNatClampNeg ((sm_I (sm_putI M b_2 (x1).toNatClampNeg 0) b_8 (x1).toNatClampNeg) + x7)) a0 78)], sm_putI (sm_putI M b_2 (x1).toNatClampNeg 0) b_8 (x1).toNatClampNeg ((sm_I (sm_putI M b_2 (x1).toNatClampNeg 0) b_8 (x1).toNatClampNeg) + x7))) sm_a184_588 rfl rfl (st_iconst (by decide)) ?_
      refine ru_go (t := (590, [some (.inr (some a0)), some (.inl x1), some (.inl x2), some (.inl x3), some (.inl x4), some (.inl x5), some (.inl x6), some (.inl x7), some (.inl 1), z9], [.inr (some a0), .inl 1, .inl x1, .inr (sm_R (sm_putI (sm_putI M b_2 (x1).toNatClampNeg 0) b_8 (x1).toNatClampNeg ((sm_I (sm_putI M b_2 (x1).toNatClampNeg 0) b_8 (x1).toNatClampNeg) + x7)) a0 78)], sm_putI (sm_putI M b_2 (x1).toNatClampNeg 0) b_8 (x1).toNatClampNeg ((sm_I (sm_putI M b_2 (x1).toNatClampNeg 0) b_8 (x1).toNatClampNeg) + x7))) sm_a184_589 rfl rfl rfl ?_
      refine ru_go (t := (593, [some (.inr (some a0)), some (.inl x1), some (.inl x2), some (.inl x3), some (.inl x4), some (.inl x5), some (.inl x6), some (.inl x7), some (.inl 1), z9], [.inr (sm_R (sm_putI (sm_putI M b_2 (x1).toNatClampNeg 0) b_8 (x1).toNatClampNeg ((sm_I (sm_putI M b_2 (x1).toNatClampNeg 0) b_8 (x1).toNatClampNeg) + x7)) a0 78), .inl 1, .inl x1, .inr (sm_R (sm_putI (sm_putI M b_2 (x1).toNatClampNeg 0) b_8 (x1).toNatClampNeg ((sm_I (sm_putI M b_2 (x1).toNatClampNeg 0) b_8 (x1).toNatClampNeg) + x7)) a0 78)], sm_putI (sm_putI M b_2 (x1).toNatClampNeg 0) b_8 (x1).toNatClampNeg ((sm_I (sm_putI M b_2 (x1).toNatClampNeg 0) b_8 (x1).toNatClampNeg) + x7))) sm_a184_590 rfl rfl (st_getR h_1 rfl rfl) ?_
      refine ru_go (t := (594, [some (.inr (some a0)), some (.inl x1), some (.inl x2), some (.inl x3), some (.inl x4), some (.inl x5), some (.inl x6), some (.inl x7), some (.inl 1), z9], [.inl x1, .inr (sm_R (sm_putI (sm_putI M b_2 (x1).toNatClampNeg 0) b_8 (x1).toNatClampNeg ((sm_I (sm_putI M b_2 (x1).toNatClampNeg 0) b_8 (x1).toNatClampNeg) + x7)) a0 78), .inl 1, .inl x1, .inr (sm_R (sm_putI (sm_putI M b_2 (x1).toNatClampNeg 0) b_8 (x1).toNatClampNeg ((sm_I (sm_putI M b_2 (x1).toNatClampNeg 0) b_8 (x1).toNatClampNeg) + x7)) a0 78)], sm_putI (sm_putI M b_2 (x1).toNatClampNeg 0) b_8 (x1).toNatClampNeg ((sm_I (sm_putI M b_2 (x1).toNatClampNeg 0) b_8 (x1).toNatClampNeg) + x7))) sm_a184_593 rfl rfl rfl ?_
      obtain ⟨b_13, hb_14, h⟩ := h
      rw [hb_14]
      obtain ⟨h_15, h⟩ := h
      obtain ⟨h_16, h⟩ := h
      refine ru_go (t := (595, [some (.inr (some a0)), some (.inl x1), some (.inl x2), some (.inl x3), some (.inl x4), some (.inl x5), some (.inl x6), some (.inl x7), some (.inl 1), z9], [.inl (sm_I (sm_putI (sm_putI M b_2 (x1).toNatClampNeg 0) b_8 (x1).toNatClampNeg ((sm_I (sm_putI M b_2 (x1).toNatClampNeg 0) b_8 (x1).toNatClampNeg) + x7)) b_13 (x1).toNatClampNeg), .inl 1, .inl x1, .inr (some b_13)], sm_putI (sm_putI M b_2 (x1).toNatClampNeg 0) b_8 (x1).toNatClampNeg ((sm_I (sm_putI M b_2 (x1).toNatClampNeg 0) b_8 (x1).toNatClampNeg) + x7))) sm_a184_594 rfl rfl (st_iald h_15 h_16) ?_
      refine ru_go (t := (596, [some (.inr (some a0)), some (.inl x1), some (.inl x2), some (.inl x3), some (.inl x4), some (.inl x5), some (.inl x6), some (.inl x7), some (.inl 1), z9], [.inl (1 - (sm_I (sm_putI (sm_putI M b_2 (x1).toNatClampNeg 0) b_8 (x1).toNatClampNeg ((sm_I (sm_putI M b_2 (x1).toNatClampNeg 0) b_8 (x1).toNatClampNeg) + x7)) b_13 (x1).toNatClampNeg)), .inl x1, .inr (some b_13)], sm_putI (sm_putI M b_2 (x1).toNatClampNeg 0) b_8 (x1).toNatClampNeg ((sm_I (sm_putI M b_2 (x1).toNatClampNeg 0) b_8 (x1).toNatClampNeg) + x7))) sm_a184_595 rfl rfl rfl ?_
      obtain ⟨h_17, h⟩ := h
      refine ru_go (t := (597, [some (.inr (some a0)), some (.inl x1), some (.inl x2), some (.inl x3), some (.inl x4), some (.inl x5), some (.inl x6), some (.inl x7), some (.inl 1), z9], [], sm_putI (sm_putI (sm_putI M b_2 (x1).toNatClampNeg 0) b_8 (x1).toNatClampNeg ((sm_I (sm_putI M b_2 (x1).toNatClampNeg 0) b_8 (x1).toNatClampNeg) + x7)) b_13 (x1).toNatClampNeg (1 - (sm_I (sm_putI (sm_putI M b_2 (x1).toNatClampNeg 0) b_8 (x1).toNatClampNeg ((sm_I (sm_putI M b_2 (x1).toNatClampNeg 0) b_8 (x1).toNatClampNeg) + x7)) b_13 (x1).toNatClampNeg)))) sm_a184_596 rfl rfl (st_iast h_17 h_16) ?_
      exact h
    · have h := h.2 hc_7
      refine ru_go (t := (505, [some (.inr (some a0)), some (.inl x1), some (.inl x2), some (.inl x3), some (.inl x4), some (.inl x5), some (.inl x6), some (.inl x7), some (.inl 1), z9], [.inr (some a0)], sm_putI M b_2 (x1).toNatClampNeg 0)) sm_a184_504 rfl rfl rfl ?_
      refine ru_go (t := (506, [some (.inr (some a0)), some (.inl x1), some (.inl x2), some (.inl x3), some (.inl x4), some (.inl x5), some (.inl x6), some (.inl x7), some (.inl 1), z9], [.inl x1, .inr (some a0)], sm_putI M b_2 (x1).toNatClampNeg 0)) sm_a184_505 rfl rfl rfl ?_
      refine ru_go (t := (507, [some (.inr (some a0)), some (.inl x1), some (.inl x2), some (.inl x3), some (.inl x4), some (.inl x5), some (.inl x6), some (.inl x7), some (.inl 1), z9], [.inr (some a0), .inl x1, .inr (some a0)], sm_putI M b_2 (x1).toNatClampNeg 0)) sm_a184_506 rfl rfl rfl ?_
      refine ru_go (t := (510, [some (.inr (some a0)), some (.inl x1), some (.inl x2), some (.inl x3), some (.inl x4), some (.inl x5), some (.inl x6), some (.inl x7), some (.inl 1), z9], [.inr (sm_R (sm_putI M b_2 (x1).toNatClampNeg 0) a0 78), .inl x1, .inr (some a0)], sm_putI M b_2 (x1).toNatClampNeg 0)) sm_a184_507 rfl rfl (st_getR h_1 rfl rfl) ?_
      refine ru_go (t := (511, [some (.inr (some a0)), some (.inl x1), some (.inl x2), some (.inl x3), some (.inl x4), some (.inl x5), some (.inl x6), some (.inl x7), some (.inl 1), z9], [.inl x1, .inr (sm_R (sm_putI M b_2 (x1).toNatClampNeg 0) a0 78), .inl x1, .inr (some a0)], sm_putI M b_2 (x1).toNatClampNeg 0)) sm_a184_510 rfl rfl rfl ?_
      obtain ⟨b_18, hb_19, h⟩ := h
      rw [hb_19]
      obtain ⟨h_20, h⟩ := h
      obtain ⟨h_21, h⟩ := h
      refine ru_go (t := (512, [some (.inr (some a0)), some (.inl x1), some (.inl x2), some (.inl x3), some (.inl x4), some (.inl x5), some (.inl x6), some (.inl x7), some (.inl 1), z9], [.inl (sm_I (sm_putI M b_2 (x1).toNatClampNeg 0) b_18 (x1).toNatClampNeg), .inl x1, .inr (some a0)], sm_putI M b_2 (x1).toNatClampNeg 0)) sm_a184_511 rfl rfl (st_iald h_20 h_21) ?_
      refine ru_go (t := (513, [some (.inr (some a0)), some (.inl x1), some (.inl x2), some (.inl x3), some (.inl x4), some (.inl x5), some (.inl x6), some (.inl x7), some (.inl 1), z9], [.inr (some a0), .inl (sm_I (sm_putI M b_2 (x1).toNatClampNeg 0) b_18 (x1).toNatClampNeg), .inl x1, .inr (some a0)], sm_putI M b_2 (x1).toNatClampNeg 0)) sm_a184_512 rfl rfl rfl ?_
      refine ru_go (t := (516, [some (.inr (some a0)), some (.inl x1), some (.inl x2), some (.inl x3), some (.inl x4), some (.inl x5), some (.inl x6), some (.inl x7), some (.inl 1), z9], [.inr (sm_R (sm_putI M b_2 (x1).toNatClampNeg 0) a0 58), .inl (sm_I (sm_putI M b_2 (x1).toNatClampNeg 0) b_18 (x1).toNatClampNeg), .inl x1, .inr (some a0)], sm_putI M b_2 (x1).toNatClampNeg 0)) sm_a184_513 rfl rfl (st_getR h_1 rfl rfl) ?_
      refine ru_go (t := (517, [some (.inr (some a0)), some (.inl x1), some (.inl x2), some (.inl x3), some (.inl x4), some (.inl x5), some (.inl x6), some (.inl x7), some (.inl 1), z9], [.inl x2, .inr (sm_R (sm_putI M b_2 (x1).toNatClampNeg 0) a0 58), .inl (sm_I (sm_putI M b_2 (x1).toNatClampNeg 0) b_18 (x1).toNatClampNeg), .inl x1, .inr (some a0)], sm_putI M b_2 (x1).toNatClampNeg 0)) sm_a184_516 rfl rfl rfl ?_
      obtain ⟨b_22, hb_23, h⟩ := h
      rw [hb_23]
      obtain ⟨h_24, h⟩ := h
      obtain ⟨h_25, h⟩ := h
      refine ru_go (t := (518, [some (.inr (some a0)), some (.inl x1), some (.inl x2), some (.inl x3), some (.inl x4), some (.inl x5), some (.inl x6), some (.inl x7), some (.inl 1), z9], [.inl (sm_I (sm_putI M b_2 (x1).toNatClampNeg 0) b_22 (x2).toNatClampNeg), .inl (sm_I (sm_putI M b_2 (x1).toNatClampNeg 0) b_18 (x1).toNatClampNeg), .inl x1, .inr (some a0)], sm_putI M b_2 (x1).toNatClampNeg 0)) sm_a184_517 rfl rfl (st_iald h_24 h_25) ?_
      exact ru_call (p := 521) sm_a184_518 rfl (sc_virt (Or.inl rfl) rfl rfl h_1 (Nat.le_of_ble_eq_true rfl)) rfl h
  · have h := h.2 hc_6
    refine ru_go (t := (478, [some (.inr (some a0)), some (.inl x1), some (.inl x2), some (.inl x3), some (.inl x4), some (.inl x5), some (.inl x6), some (.inl x7), some (.inl 1), z9], [.inl x6], sm_putI M b_2 (x1).toNatClampNeg 0)) sm_a184_476 rfl rfl rfl ?_
    refine ru_if (pc := 478) (p := 489) (p2 := 481) sm_a184_478 (by decide) rfl ⟨fun hc_26 => ?_, fun hc_26 => ?_⟩
    · have h := h.1 hc_26
      exact h
    · have h := h.2 hc_26
      refine ru_go (t := (482, [some (.inr (some a0)), some (.inl x1), some (.inl x2), some (.inl x3), some (.inl x4), some (.inl x5), some (.inl x6), some (.inl x7), some (.inl 1), z9], [.inr (some a0)], sm_putI M b_2 (x1).toNatClampNeg 0)) sm_a184_481 rfl rfl rfl ?_
      refine ru_go (t := (483, [some (.inr (some a0)), some (.inl x1), some (.inl x2), some (.inl x3), some (.inl x4), some (.inl x5), some (.inl x6), some (.inl x7), some (.inl 1), z9], [.inl 2, .inr (some a0)], sm_putI M b_2 (x1).toNatClampNeg 0)) sm_a184_482 rfl rfl (st_iconst (by decide)) ?_
      refine ru_go (t := (484, [some (.inr (some a0)), some (.inl x1), some (.inl x2), some (.inl x3), some (.inl x4), some (.inl x5), some (.inl x6), some (.inl x7), some (.inl 1), z9], [.inl 0, .inl 2, .inr (some a0)], sm_putI M b_2 (x1).toNatClampNeg 0)) sm_a184_483 rfl rfl (st_iconst (by decide)) ?_
      refine ru_go (t := (485, [some (.inr (some a0)), some (.inl x1), some (.inl x2), some (.inl x3), some (.inl x4), some (.inl x5), some (.inl x6), some (.inl x7), some (.inl 1), z9], [.inl 0, .inl 0, .inl 2, .inr (some a0)], sm_putI M b_2 (x1).toNatClampNeg 0)) sm_a184_484 rfl rfl (st_iconst (by decide)) ?_
      refine ru_go (t := (486, [some (.inr (some a0)), some (.inl x1), some (.inl x2), some (.inl x3), some (.inl x4), some (.inl x5), some (.inl x6), some (.inl x7), some (.inl 1), z9], [.inl 0, .inl 0, .inl 0, .inl 2, .inr (some a0)], sm_putI M b_2 (x1).toNatClampNeg 0)) sm_a184_485 rfl rfl (st_iconst (by decide)) ?_
      exact ru_call (p := 489) sm_a184_486 rfl (sc_virt (Or.inl rfl) rfl rfl h_1 (Nat.le_of_ble_eq_true rfl)) rfl h
theorem bb_184_449 {d : Nat} {M : sm_M} {Q : Option sm_V → sm_M → Prop} {a0 : Nat} {x1 : Int32} {x2 : Int32} {x3 : Int32} {x4 : Int32} {x5 : Int32} {x6 : Int32} {x7 : Int32} {z8 : Option sm_V} {z9 : Option sm_V}
    (h : sm_K M a0 = 39 ∧ sm_Run d 182 0 (sm_ent 182 [.inr (some a0), .inl x1]) [] M (fun v M1 => sm_Run (d + 1) 184 462 [some (.inr (some a0)), some (.inl x1), some (.inl x2), some (.inl x3), some (.inl x4), some (.inl x5), some (.inl x6), some (.inl x7), some (.inl 0), z9] (v.toList ++ []) M1 Q)) :
    sm_Run (d + 1) 184 449 [some (.inr (some a0)), some (.inl x1), some (.inl x2), some (.inl x3), some (.inl x4), some (.inl x5), some (.inl x6), some (.inl x7), z8, z9] [] M Q := by
  refine ru_go (t := (450, [some (.inr (some a0)), some (.inl x1), some (.inl x2), some (.inl x3), some (.inl x4), some (.inl x5), some (.inl x6), some (.inl x7), z8, z9], [.inl 0], M)) sm_a184_449 rfl rfl (st_iconst (by decide)) ?_
  refine ru_go (t := (452, [some (.inr (some a0)), some (.inl x1), some (.inl x2), some (.inl x3), some (.inl x4), some (.inl x5), some (.inl x6), some (.inl x7), some (.inl 0), z9], [], M)) sm_a184_450 rfl rfl rfl ?_
  refine ru_go (t := (454, [some (.inr (some a0)), some (.inl x1), some (.inl x2), some (.inl x3), some (.inl x4), some (.inl x5), some (.inl x6), some (.inl x7), some (.inl 0), z9], [.inl 0], M)) sm_a184_452 rfl rfl rfl ?_
  refine ru_if (pc := 454) (p := 464) (p2 := 457) sm_a184_454 (by decide) rfl ⟨fun hc => absurd (show ¬ (0 : Int32) = 0 from hc) (by decide), fun _ => ?_⟩
  refine ru_go (t := (458, [some (.inr (some a0)), some (.inl x1), some (.inl x2), some (.inl x3), some (.inl x4), some (.inl x5), some (.inl x6), some (.inl x7), some (.inl 0), z9], [.inr (some a0)], M)) sm_a184_457 rfl rfl rfl ?_
  refine ru_go (t := (459, [some (.inr (some a0)), some (.inl x1), some (.inl x2), some (.inl x3), some (.inl x4), some (.inl x5), some (.inl x6), some (.inl x7), some (.inl 0), z9], [.inl x1, .inr (some a0)], M)) sm_a184_458 rfl rfl rfl ?_
  obtain ⟨h_1, h⟩ := h
  exact ru_call (p := 462) sm_a184_459 rfl (sc_virt (Or.inl rfl) rfl rfl h_1 (Nat.le_of_ble_eq_true rfl)) rfl h
theorem bb_184_462 {d : Nat} {M : sm_M} {Q : Option sm_V → sm_M → Prop} {a0 : Nat} {x1 : Int32} {x2 : Int32} {x3 : Int32} {x4 : Int32} {x5 : Int32} {x6 : Int32} {x7 : Int32} {x8 : Int32} {z9 : Option sm_V}
    (h : Q (some (.inl 0)) M) :
    sm_Run (d + 1) 184 462 [some (.inr (some a0)), some (.inl x1), some (.inl x2), some (.inl x3), some (.inl x4), some (.inl x5), some (.inl x6), some (.inl x7), some (.inl x8), z9] [] M Q := by
  refine ru_go (t := (463, [some (.inr (some a0)), some (.inl x1), some (.inl x2), some (.inl x3), some (.inl x4), some (.inl x5), some (.inl x6), some (.inl x7), some (.inl x8), z9], [.inl 0], M)) sm_a184_462 rfl rfl (st_iconst (by decide)) ?_
  exact ru_ret sm_a184_463 (sm_rvz rfl (by decide)) h
theorem bb_184_489 {d : Nat} {M : sm_M} {Q : Option sm_V → sm_M → Prop} {a0 : Nat} {x1 : Int32} {x2 : Int32} {x3 : Int32} {x4 : Int32} {x5 : Int32} {x6 : Int32} {x7 : Int32} {x8 : Int32} {z9 : Option sm_V}
    (h : sm_K M a0 = 39 ∧ ∃ b_2, sm_R M a0 73 = some b_2 ∧ sm_wA 1 M b_2 ∧ sm_in_ M b_2 x1 ∧ Q (some (.inl 0)) (sm_putI M b_2 (x1).toNatClampNeg 1)) :
    sm_Run (d + 1) 184 489 [some (.inr (some a0)), some (.inl x1), some (.inl x2), some (.inl x3), some (.inl x4), some (.inl x5), some (.inl x6), some (.inl x7), some (.inl x8), z9] [] M Q := by
  refine ru_go (t := (490, [some (.inr (some a0)), some (.inl x1), some (.inl x2), some (.inl x3), some (.inl x4), some (.inl x5), some (.inl x6), some (.inl x7), some (.inl x8), z9], [.inr (some a0)], M)) sm_a184_489 rfl rfl rfl ?_
  obtain ⟨h_1, h⟩ := h
  refine ru_go (t := (493, [some (.inr (some a0)), some (.inl x1), some (.inl x2), some (.inl x3), some (.inl x4), some (.inl x5), some (.inl x6), some (.inl x7), some (.inl x8), z9], [.inr (sm_R M a0 73)], M)) sm_a184_490 rfl rfl (st_getR h_1 rfl rfl) ?_
  refine ru_go (t := (494, [some (.inr (some a0)), some (.inl x1), some (.inl x2), some (.inl x3), some (.inl x4), some (.inl x5), some (.inl x6), some (.inl x7), some (.inl x8), z9], [.inl x1, .inr (sm_R M a0 73)], M)) sm_a184_493 rfl rfl rfl ?_
  refine ru_go (t := (495, [some (.inr (some a0)), some (.inl x1), some (.inl x2), some (.inl x3), some (.inl x4), some (.inl x5), some (.inl x6), some (.inl x7), some (.inl x8), z9], [.inl 1, .inl x1, .inr (sm_R M a0 73)], M)) sm_a184_494 rfl rfl (st_iconst (by decide)) ?_
  obtain ⟨b_2, hb_3, h⟩ := h
  rw [hb_3]
  obtain ⟨h_4, h⟩ := h
  obtain ⟨h_5, h⟩ := h
  refine ru_go (t := (496, [some (.inr (some a0)), some (.inl x1), some (.inl x2), some (.inl x3), some (.inl x4), some (.inl x5), some (.inl x6), some (.inl x7), some (.inl x8), z9], [], sm_putI M b_2 (x1).toNatClampNeg 1)) sm_a184_495 rfl rfl (st_iast h_4 h_5) ?_
  refine ru_go (t := (623, [some (.inr (some a0)), some (.inl x1), some (.inl x2), some (.inl x3), some (.inl x4), some (.inl x5), some (.inl x6), some (.inl x7), some (.inl x8), z9], [], sm_putI M b_2 (x1).toNatClampNeg 1)) sm_a184_496 rfl rfl (st_goto (pc := 496) (by decide)) ?_
  refine ru_go (t := (624, [some (.inr (some a0)), some (.inl x1), some (.inl x2), some (.inl x3), some (.inl x4), some (.inl x5), some (.inl x6), some (.inl x7), some (.inl x8), z9], [.inl 0], sm_putI M b_2 (x1).toNatClampNeg 1)) sm_a184_623 rfl rfl (st_iconst (by decide)) ?_
  exact ru_ret sm_a184_624 (sm_rvz rfl (by decide)) h
theorem bb_184_521 {d : Nat} {M : sm_M} {Q : Option sm_V → sm_M → Prop} {a0 : Nat} {x1 : Int32} {x2 : Int32} {x3 : Int32} {x4 : Int32} {x5 : Int32} {x6 : Int32} {x7 : Int32} {x8 : Int32} {z9 : Option sm_V} {y0 : Int32}
    (h : sm_K M a0 = 39 ∧ (((sm_I M a0 84) = 0 → ∃ b_3, sm_R M a0 78 = some b_3 ∧ sm_iA M b_3 ∧ sm_in_ M b_3 x1 ∧ sm_wA 1 M b_3 ∧ ((y0 = 0 → ∃ b_9, sm_R (sm_putI M b_3 (x1).toNatClampNeg (sm_I M b_3 (x1).toNatClampNeg)) a0 77 = some b_9 ∧ sm_wA 1 M b_9 ∧ sm_in_ M b_9 x1 ∧ Q (some (.inl 0)) (sm_putI (sm_putI M b_3 (x1).toNatClampNeg (sm_I M b_3 (x1).toNatClampNeg)) b_9 (x1).toNatClampNeg 1)) ∧ (¬ (y0 = 0) → ∃ b_13, sm_R (sm_putI M b_3 (x1).toNatClampNeg (sm_I M b_3 (x1).toNatClampNeg)) a0 77 = some b_13 ∧ sm_wA 1 M b_13 ∧ sm_in_ M b_13 x1 ∧ Q (some (.inl 0)) (sm_putI (sm_putI M b_3 (x1).toNatClampNeg (sm_I M b_3 (x1).toNatClampNeg)) b_13 (x1).toNatClampNeg 2)))) ∧ (¬ ((sm_I M a0 84) = 0) → ∃ b_17, sm_R M a0 78 = some b_17 ∧ sm_iA M b_17 ∧ sm_in_ M b_17 x1 ∧ sm_wA 1 M b_17 ∧ ((y0 = 0 → ∃ b_23, sm_R (sm_putI M b_17 (x1).toNatClampNeg (1 - (sm_I M b_17 (x1).toNatClampNeg))) a0 77 = some b_23 ∧ sm_wA 1 M b_23 ∧ sm_in_ M b_23 x1 ∧ Q (some (.inl 0)) (sm_putI (sm_putI M b_17 (x1).toNatClampNeg (1 - (sm_I M b_17 (x1).toNatClampNeg))) b_23 (x1).toNatClampNeg 1)) ∧ (¬ (y0 = 0) → ∃ b_27, sm_R (sm_putI M b_17 (x1).toNatClampNeg (1 - (sm_I M b_17 (x1).toNatClampNeg))) a0 77 = some b_27 ∧ sm_wA 1 M b_27 ∧ sm_in_ M b_27 x1 ∧ Q (some (.inl 0)) (sm_putI (sm_putI M b_17 (x1).toNatClampNeg (1 - (sm_I M b_17 (x1).toNatClampNeg))) b_27 (x1).toNatClampNeg 2)))))) :
    sm_Run (d + 1) 184 521 [some (.inr (some a0)), some (.inl x1), some (.inl x2), some (.inl x3), some (.inl x4), some (.inl x5), some (.inl x6), some (.inl x7), some (.inl x8), z9] [.inl y0] M Q := by
  refine ru_go (t := (523, [some (.inr (some a0)), some (.inl x1), some (.inl x2), some (.inl x3), some (.inl x4), some (.inl x5), some (.inl x6), some (.inl x7), some (.inl x8), some (.inl y0)], [], M)) sm_a184_521 rfl rfl rfl ?_
  refine ru_go (t := (524, [some (.inr (some a0)), some (.inl x1), some (.inl x2), some (.inl x3), some (.inl x4), some (.inl x5), some (.inl x6), some (.inl x7), some (.inl x8), some (.inl y0)], [.inr (some a0)], M)) sm_a184_523 rfl rfl rfl ?_
  obtain ⟨h_1, h⟩ := h
  refine ru_go (t := (527, [some (.inr (some a0)), some (.inl x1), some (.inl x2), some (.inl x3), some (.inl x4), some (.inl x5), some (.inl x6), some (.inl x7), some (.inl x8), some (.inl y0)], [.inr (sm_R M a0 78)], M)) sm_a184_524 rfl rfl (st_getR h_1 rfl rfl) ?_
  refine ru_go (t := (528, [some (.inr (some a0)), some (.inl x1), some (.inl x2), some (.inl x3), some (.inl x4), some (.inl x5), some (.inl x6), some (.inl x7), some (.inl x8), some (.inl y0)], [.inl x1, .inr (sm_R M a0 78)], M)) sm_a184_527 rfl rfl rfl ?_
  refine ru_go (t := (529, [some (.inr (some a0)), some (.inl x1), some (.inl x2), some (.inl x3), some (.inl x4), some (.inl x5), some (.inl x6), some (.inl x7), some (.inl x8), some (.inl y0)], [.inr (some a0), .inl x1, .inr (sm_R M a0 78)], M)) sm_a184_528 rfl rfl rfl ?_
  refine ru_go (t := (532, [some (.inr (some a0)), some (.inl x1), some (.inl x2), some (.inl x3), some (.inl x4), some (.inl x5), some (.inl x6), some (.inl x7), some (.inl x8), some (.inl y0)], [.inl (sm_I M a0 84), .inl x1, .inr (sm_R M a0 78)], M)) sm_a184_529 rfl rfl (st_getI h_1 rfl) ?_
  refine ru_if (pc := 532) (p := 546) (p2 := 535) sm_a184_532 (by decide) rfl ⟨fun hc_2 => ?_, fun hc_2 => ?_⟩
  · have h := h.1 hc_2
    refine ru_go (t := (547, [some (.inr (some a0)), some (.inl x1), some (.inl x2), some (.inl x3), some (.inl x4), some (.inl x5), some (.inl x6), some (.inl x7), some (.inl x8), some (.inl y0)], [.inr (some a0), .inl x1, .inr (sm_R M a0 78)], M)) sm_a184_546 rfl rfl rfl ?_
    refine ru_go (t := (550, [some (.inr (some a0)), some (.inl x1), some (.inl x2), some (.inl x3), some (.inl x4), some (.inl x5), some (.inl x6), some (.inl x7), some (.inl x8), some (.inl y0)], [.inr (sm_R M a0 78), .inl x1, .inr (sm_R M a0 78)], M)) sm_a184_547 rfl rfl (st_getR h_1 rfl rfl) ?_
    refine ru_go (t := (551, [some (.inr (some a0)), some (.inl x1), some (.inl x2), some (.inl x3), some (.inl x4), some (.inl x5), some (.inl x6), some (.inl x7), some (.inl x8), some (.inl y0)], [.inl x1, .inr (sm_R M a0 78), .inl x1, .inr (sm_R M a0 78)], M)) sm_a184_550 rfl rfl rfl ?_
    obtain ⟨b_3, hb_4, h⟩ := h
    rw [hb_4]
    obtain ⟨h_5, h⟩ := h
    obtain ⟨h_6, h⟩ := h
    refine ru_go (t := (552, [some (.inr (some a0)), some (.inl x1), some (.inl x2), some (.inl x3), some (.inl x4), some (.inl x5), some (.inl x6), some (.inl x7), some (.inl x8), some (.inl y0)], [.inl (sm_I M b_3 (x1).toNatClampNeg), .inl x1, .inr (some b_3)], M)) sm_a184_551 rfl rfl (st_iald h_5 h_6) ?_
    obtain ⟨h_7, h⟩ := h
    refine ru_go (t := (553, [some (.inr (some a0)), some (.inl x1), some (.inl x2), some (.inl x3), some (.inl x4), some (.inl x5), some (.inl x6), some (.inl x7), some (.inl x8), some (.inl y0)], [], sm_putI M b_3 (x1).toNatClampNeg (sm_I M b_3 (x1).toNatClampNeg))) sm_a184_552 rfl rfl (st_iast h_7 h_6) ?_
    refine ru_go (t := (554, [some (.inr (some a0)), some (.inl x1), some (.inl x2), some (.inl x3), some (.inl x4), some (.inl x5), some (.inl x6), some (.inl x7), some (.inl x8), some (.inl y0)], [.inr (some a0)], sm_putI M b_3 (x1).toNatClampNeg (sm_I M b_3 (x1).toNatClampNeg))) sm_a184_553 rfl rfl rfl ?_
    refine ru_go (t := (557, [some (.inr (some a0)), some (.inl x1), some (.inl x2), some (.inl x3), some (.inl x4), some (.inl x5), some (.inl x6), some (.inl x7), some (.inl x8), some (.inl y0)], [.inr (sm_R (sm_putI M b_3 (x1).toNatClampNeg (sm_I M b_3 (x1).toNatClampNeg)) a0 77)], sm_putI M b_3 (x1).toNatClampNeg (sm_I M b_3 (x1).toNatClampNeg))) sm_a184_554 rfl rfl (st_getR h_1 rfl rfl) ?_
    refine ru_go (t := (558, [some (.inr (some a0)), some (.inl x1), some (.inl x2), some (.inl x3), some (.inl x4), some (.inl x5), some (.inl x6), some (.inl x7), some (.inl x8), some (.inl y0)], [.inl x1, .inr (sm_R (sm_putI M b_3 (x1).toNatClampNeg (sm_I M b_3 (x1).toNatClampNeg)) a0 77)], sm_putI M b_3 (x1).toNatClampNeg (sm_I M b_3 (x1).toNatClampNeg))) sm_a184_557 rfl rfl rfl ?_
    refine ru_go (t := (560, [some (.inr (some a0)), some (.inl x1), some (.inl x2), some (.inl x3), some (.inl x4), some (.inl x5), some (.inl x6), some (.inl x7), some (.inl x8), some (.inl y0)], [.inl y0, .inl x1, .inr (sm_R (sm_putI M b_3 (x1).toNatClampNeg (sm_I M b_3 (x1).toNatClampNeg)) a0 77)], sm_putI M b_3 (x1).toNatClampNeg (sm_I M b_3 (x1).toNatClampNeg))) sm_a184_558 rfl rfl rfl ?_
    refine ru_if (pc := 560) (p := 567) (p2 := 563) sm_a184_560 (by decide) rfl ⟨fun hc_8 => ?_, fun hc_8 => ?_⟩
    · have h := h.1 hc_8
      refine ru_go (t := (568, [some (.inr (some a0)), some (.inl x1), some (.inl x2), some (.inl x3), some (.inl x4), some (.inl x5), some (.inl x6), some (.inl x7), some (.inl x8), some (.inl y0)], [.inl 1, .inl x1, .inr (sm_R (sm_putI M b_3 (x1).toNatClampNeg (sm_I M b_3 (x1).toNatClampNeg)) a0 77)], sm_putI M b_3 (x1).toNatClampNeg (sm_I M b_3 (x1).toNatClampNeg))) sm_a184_567 rfl rfl (st_iconst (by decide)) ?_
      obtain ⟨b_9, hb_10, h⟩ := h
      rw [hb_10]
      obtain ⟨h_11, h⟩ := h
      obtain ⟨h_12, h⟩ := h
      refine ru_go (t := (569, [some (.inr (some a0)), some (.inl x1), some (.inl x2), some (.inl x3), some (.inl x4), some (.inl x5), some (.inl x6), some (.inl x7), some (.inl x8), some (.inl y0)], [], sm_putI (sm_putI M b_3 (x1).toNatClampNeg (sm_I M b_3 (x1).toNatClampNeg)) b_9 (x1).toNatClampNeg 1)) sm_a184_568 rfl rfl (st_iast h_11 h_12) ?_
      refine ru_go (t := (623, [some (.inr (some a0)), some (.inl x1), some (.inl x2), some (.inl x3), some (.inl x4), some (.inl x5), some (.inl x6), some (.inl x7), some (.inl x8), some (.inl y0)], [], sm_putI (sm_putI M b_3 (x1).toNatClampNeg (sm_I M b_3 (x1).toNatClampNeg)) b_9 (x1).toNatClampNeg 1)) sm_a184_569 rfl rfl (st_goto (pc := 569) (by decide)) ?_
      refine ru_go (t := (624, [some (.inr (some a0)), some (.inl x1), some (.inl x2), some (.inl x3), some (.inl x4), some (.inl x5), some (.inl x6), some (.inl x7), some (.inl x8), some (.inl y0)], [.inl 0], sm_putI (sm_putI M b_3 (x1).toNatClampNeg (sm_I M b_3 (x1).toNatClampNeg)) b_9 (x1).toNatClampNeg 1)) sm_a184_623 rfl rfl (st_iconst (by decide)) ?_
      exact ru_ret sm_a184_624 (sm_rvz rfl (by decide)) h
    · have h := h.2 hc_8
      refine ru_go (t := (564, [some (.inr (some a0)), some (.inl x1), some (.inl x2), some (.inl x3), some (.inl x4), some (.inl x5), some (.inl x6), some (.inl x7), some (.inl x8), some (.inl y0)], [.inl 2, .inl x1, .inr (sm_R (sm_putI M b_3 (x1).toNatClampNeg (sm_I M b_3 (x1).toNatClampNeg)) a0 77)], sm_putI M b_3 (x1).toNatClampNeg (sm_I M b_3 (x1).toNatClampNeg))) sm_a184_563 rfl rfl (st_iconst (by decide)) ?_
      refine ru_go (t := (568, [some (.inr (some a0)), some (.inl x1), some (.inl x2), some (.inl x3), some (.inl x4), some (.inl x5), some (.inl x6), some (.inl x7), some (.inl x8), some (.inl y0)], [.inl 2, .inl x1, .inr (sm_R (sm_putI M b_3 (x1).toNatClampNeg (sm_I M b_3 (x1).toNatClampNeg)) a0 77)], sm_putI M b_3 (x1).toNatClampNeg (sm_I M b_3 (x1).toNatClampNeg))) sm_a184_564 rfl rfl (st_goto (pc := 564) (by decide)) ?_
      obtain ⟨b_13, hb_14, h⟩ := h
      rw [hb_14]
      obtain ⟨h_15, h⟩ := h
      obtain ⟨h_16, h⟩ := h
      refine ru_go (t := (569, [some (.inr (some a0)), some (.inl x1), some (.inl x2), some (.inl x3), some (.inl x4), some (.inl x5), some (.inl x6), some (.inl x7), some (.inl x8), some (.inl y0)], [], sm_putI (sm_putI M b_3 (x1).toNatClampNeg (sm_I M b_3 (x1).toNatClampNeg)) b_13 (x1).toNatClampNeg 2)) sm_a184_568 rfl rfl (st_iast h_15 h_16) ?_
      refine ru_go (t := (623, [some (.inr (some a0)), some (.inl x1), some (.inl x2), some (.inl x3), some (.inl x4), some (.inl x5), some (.inl x6), some (.inl x7), some (.inl x8), some (.inl y0)], [], sm_putI (sm_putI M b_3 (x1).toNatClampNeg (sm_I M b_3 (x1).toNatClampNeg)) b_13 (x1).toNatClampNeg 2)) sm_a184_569 rfl rfl (st_goto (pc := 569) (by decide)) ?_
      refine ru_go (t := (624, [some (.inr (some a0)), some (.inl x1), some (.inl x2), some (.inl x3), some (.inl x4), some (.inl x5), some (.inl x6), some (.inl x7), some (.inl x8), some (.inl y0)], [.inl 0], sm_putI (sm_putI M b_3 (x1).toNatClampNeg (sm_I M b_3 (x1).toNatClampNeg)) b_13 (x1).toNatClampNeg 2)) sm_a184_623 rfl rfl (st_iconst (by decide)) ?_
      exact ru_ret sm_a184_624 (sm_rvz rfl (by decide)) h
  · have h := h.2 hc_2
    refine ru_go (t := (536, [some (.inr (some a0)), some (.inl x1), some (.inl x2), some (.inl x3), some (.inl x4), some (.inl x5), some (.inl x6), some (.inl x7), some (.inl x8), some (.inl y0)], [.inl 1, .inl x1, .inr (sm_R M a0 78)], M)) sm_a184_535 rfl rfl (st_iconst (by decide)) ?_
    refine ru_go (t := (537, [some (.inr (some a0)), some (.inl x1), some (.inl x2), some (.inl x3), some (.inl x4), some (.inl x5), some (.inl x6), some (.inl x7), some (.inl x8), some (.inl y0)], [.inr (some a0), .inl 1, .inl x1, .inr (sm_R M a0 78)], M)) sm_a184_536 rfl rfl rfl ?_
    refine ru_go (t := (540, [some (.inr (some a0)), some (.inl x1), some (.inl x2), some (.inl x3), some (.inl x4), some (.inl x5), some (.inl x6), some (.inl x7), some (.inl x8), some (.inl y0)], [.inr (sm_R M a0 78), .inl 1, .inl x1, .inr (sm_R M a0 78)], M)) sm_a184_537 rfl rfl (st_getR h_1 rfl rfl) ?_
    refine ru_go (t := (541, [some (.inr (some a0)), some (.inl x1), some (.inl x2), some (.inl x3), some (.inl x4), some (.inl x5), some (.inl x6), some (.inl x7), some (.inl x8), some (.inl y0)], [.inl x1, .inr (sm_R M a0 78), .inl 1, .inl x1, .inr (sm_R M a0 78)], M)) sm_a184_540 rfl rfl rfl ?_
    obtain ⟨b_17, hb_18, h⟩ := h
    rw [hb_18]
    obtain ⟨h_19, h⟩ := h
    obtain ⟨h_20, h⟩ := h
    refine ru_go (t := (542, [some (.inr (some a0)), some (.inl x1), some (.inl x2), some (.inl x3), some (.inl x4), some (.inl x5), some (.inl x6), some (.inl x7), some (.inl x8), some (.inl y0)], [.inl (sm_I M b_17 (x1).toNatClampNeg), .inl 1, .inl x1, .inr (some b_17)], M)) sm_a184_541 rfl rfl (st_iald h_19 h_20) ?_
    refine ru_go (t := (543, [some (.inr (some a0)), some (.inl x1), some (.inl x2), some (.inl x3), some (.inl x4), some (.inl x5), some (.inl x6), some (.inl x7), some (.inl x8), some (.inl y0)], [.inl (1 - (sm_I M b_17 (x1).toNatClampNeg)), .inl x1, .inr (some b_17)], M)) sm_a184_542 rfl rfl rfl ?_
    refine ru_go (t := (552, [some (.inr (some a0)), some (.inl x1), some (.inl x2), some (.inl x3), some (.inl x4), some (.inl x5), some (.inl x6), some (.inl x7), some (.inl x8), some (.inl y0)], [.inl (1 - (sm_I M b_17 (x1).toNatClampNeg)), .inl x1, .inr (some b_17)], M)) sm_a184_543 rfl rfl (st_goto (pc := 543) (by decide)) ?_
    obtain ⟨h_21, h⟩ := h
    refine ru_go (t := (553, [some (.inr (some a0)), some (.inl x1), some (.inl x2), some (.inl x3), some (.inl x4), some (.inl x5), some (.inl x6), some (.inl x7), some (.inl x8), some (.inl y0)], [], sm_putI M b_17 (x1).toNatClampNeg (1 - (sm_I M b_17 (x1).toNatClampNeg)))) sm_a184_552 rfl rfl (st_iast h_21 h_20) ?_
    refine ru_go (t := (554, [some (.inr (some a0)), some (.inl x1), some (.inl x2), some (.inl x3), some (.inl x4), some (.inl x5), some (.inl x6), some (.inl x7), some (.inl x8), some (.inl y0)], [.inr (some a0)], sm_putI M b_17 (x1).toNatClampNeg (1 - (sm_I M b_17 (x1).toNatClampNeg)))) sm_a184_553 rfl rfl rfl ?_
    refine ru_go (t := (557, [some (.inr (some a0)), some (.inl x1), some (.inl x2), some (.inl x3), some (.inl x4), some (.inl x5), some (.inl x6), some (.inl x7), some (.inl x8), some (.inl y0)], [.inr (sm_R (sm_putI M b_17 (x1).toNatClampNeg (1 - (sm_I M b_17 (x1).toNatClampNeg))) a0 77)], sm_putI M b_17 (x1).toNatClampNeg (1 - (sm_I M b_17 (x1).toNatClampNeg)))) sm_a184_554 rfl rfl (st_getR h_1 rfl rfl) ?_
    refine ru_go (t := (558, [some (.inr (some a0)), some (.inl x1), some (.inl x2), some (.inl x3), some (.inl x4), some (.inl x5), some (.inl x6), some (.inl x7), some (.inl x8), some (.inl y0)], [.inl x1, .inr (sm_R (sm_putI M b_17 (x1).toNatClampNeg (1 - (sm_I M b_17 (x1).toNatClampNeg))) a0 77)], sm_putI M b_17 (x1).toNatClampNeg (1 - (sm_I M b_17 (x1).toNatClampNeg)))) sm_a184_557 rfl rfl rfl ?_
    refine ru_go (t := (560, [some (.inr (some a0)), some (.inl x1), some (.inl x2), some (.inl x3), some (.inl x4), some (.inl x5), some (.inl x6), some (.inl x7), some (.inl x8), some (.inl y0)], [.inl y0, .inl x1, .inr (sm_R (sm_putI M b_17 (x1).toNatClampNeg (1 - (sm_I M b_17 (x1).toNatClampNeg))) a0 77)], sm_putI M b_17 (x1).toNatClampNeg (1 - (sm_I M b_17 (x1).toNatClampNeg)))) sm_a184_558 rfl rfl rfl ?_
    refine ru_if (pc := 560) (p := 567) (p2 := 563) sm_a184_560 (by decide) rfl ⟨fun hc_22 => ?_, fun hc_22 => ?_⟩
    · have h := h.1 hc_22
      refine ru_go (t := (568, [some (.inr (some a0)), some (.inl x1), some (.inl x2), some (.inl x3), some (.inl x4), some (.inl x5), some (.inl x6), some (.inl x7), some (.inl x8), some (.inl y0)], [.inl 1, .inl x1, .inr (sm_R (sm_putI M b_17 (x1).toNatClampNeg (1 - (sm_I M b_17 (x1).toNatClampNeg))) a0 77)], sm_putI M b_17 (x1).toNatClampNeg (1 - (sm_I M b_17 (x1).toNatClampNeg)))) sm_a184_567 rfl rfl (st_iconst (by decide)) ?_
      obtain ⟨b_23, hb_24, h⟩ := h
      rw [hb_24]
      obtain ⟨h_25, h⟩ := h
      obtain ⟨h_26, h⟩ := h
      refine ru_go (t := (569, [some (.inr (some a0)), some (.inl x1), some (.inl x2), some (.inl x3), some (.inl x4), some (.inl x5), some (.inl x6), some (.inl x7), some (.inl x8), some (.inl y0)], [], sm_putI (sm_putI M b_17 (x1).toNatClampNeg (1 - (sm_I M b_17 (x1).toNatClampNeg))) b_23 (x1).toNatClampNeg 1)) sm_a184_568 rfl rfl (st_iast h_25 h_26) ?_
      refine ru_go (t := (623, [some (.inr (some a0)), some (.inl x1), some (.inl x2), some (.inl x3), some (.inl x4), some (.inl x5), some (.inl x6), some (.inl x7), some (.inl x8), some (.inl y0)], [], sm_putI (sm_putI M b_17 (x1).toNatClampNeg (1 - (sm_I M b_17 (x1).toNatClampNeg))) b_23 (x1).toNatClampNeg 1)) sm_a184_569 rfl rfl (st_goto (pc := 569) (by decide)) ?_
      refine ru_go (t := (624, [some (.inr (some a0)), some (.inl x1), some (.inl x2), some (.inl x3), some (.inl x4), some (.inl x5), some (.inl x6), some (.inl x7), some (.inl x8), some (.inl y0)], [.inl 0], sm_putI (sm_putI M b_17 (x1).toNatClampNeg (1 - (sm_I M b_17 (x1).toNatClampNeg))) b_23 (x1).toNatClampNeg 1)) sm_a184_623 rfl rfl (st_iconst (by decide)) ?_
      exact ru_ret sm_a184_624 (sm_rvz rfl (by decide)) h
    · have h := h.2 hc_22
      refine ru_go (t := (564, [some (.inr (some a0)), some (.inl x1), some (.inl x2), some (.inl x3), some (.inl x4), some (.inl x5), some (.inl x6), some (.inl x7), some (.inl x8), some (.inl y0)], [.inl 2, .inl x1, .inr (sm_R (sm_putI M b_17 (x1).toNatClampNeg (1 - (sm_I M b_17 (x1).toNatClampNeg))) a0 77)], sm_putI M b_17 (x1).toNatClampNeg (1 - (sm_I M b_17 (x1).toNatClampNeg)))) sm_a184_563 rfl rfl (st_iconst (by decide)) ?_
      refine ru_go (t := (568, [some (.inr (some a0)), some (.inl x1), some (.inl x2), some (.inl x3), some (.inl x4), some (.inl x5), some (.inl x6), some (.inl x7), some (.inl x8), some (.inl y0)], [.inl 2, .inl x1, .inr (sm_R (sm_putI M b_17 (x1).toNatClampNeg (1 - (sm_I M b_17 (x1).toNatClampNeg))) a0 77)], sm_putI M b_17 (x1).toNatClampNeg (1 - (sm_I M b_17 (x1).toNatClampNeg)))) sm_a184_564 rfl rfl (st_goto (pc := 564) (by decide)) ?_
      obtain ⟨b_27, hb_28, h⟩ := h
      rw [hb_28]
      obtain ⟨h_29, h⟩ := h
      obtain ⟨h_30, h⟩ := h
      refine ru_go (t := (569, [some (.inr (some a0)), some (.inl x1), some (.inl x2), some (.inl x3), some (.inl x4), some (.inl x5), some (.inl x6), some (.inl x7), some (.inl x8), some (.inl y0)], [], sm_putI (sm_putI M b_17 (x1).toNatClampNeg (1 - (sm_I M b_17 (x1).toNatClampNeg))) b_27 (x1).toNatClampNeg 2)) sm_a184_568 rfl rfl (st_iast h_29 h_30) ?_
      refine ru_go (t := (623, [some (.inr (some a0)), some (.inl x1), some (.inl x2), some (.inl x3), some (.inl x4), some (.inl x5), some (.inl x6), some (.inl x7), some (.inl x8), some (.inl y0)], [], sm_putI (sm_putI M b_17 (x1).toNatClampNeg (1 - (sm_I M b_17 (x1).toNatClampNeg))) b_27 (x1).toNatClampNeg 2)) sm_a184_569 rfl rfl (st_goto (pc := 569) (by decide)) ?_
      refine ru_go (t := (624, [some (.inr (some a0)), some (.inl x1), some (.inl x2), some (.inl x3), some (.inl x4), some (.inl x5), some (.inl x6), some (.inl x7), some (.inl x8), some (.inl y0)], [.inl 0], sm_putI (sm_putI M b_17 (x1).toNatClampNeg (1 - (sm_I M b_17 (x1).toNatClampNeg))) b_27 (x1).toNatClampNeg 2)) sm_a184_623 rfl rfl (st_iconst (by decide)) ?_
      exact ru_ret sm_a184_624 (sm_rvz rfl (by decide)) h
theorem bb_184_597 {d : Nat} {M : sm_M} {Q : Option sm_V → sm_M → Prop} {a0 : Nat} {x1 : Int32} {x2 : Int32} {x3 : Int32} {x4 : Int32} {x5 : Int32} {x6 : Int32} {x7 : Int32} {x8 : Int32} {z9 : Option sm_V}
    (h : sm_K M a0 = 39 ∧ ∃ b_2, sm_R M a0 74 = some b_2 ∧ sm_iA M b_2 ∧ sm_in_ M b_2 x1 ∧ ∃ b_6, sm_R M a0 75 = some b_6 ∧ sm_iA M b_6 ∧ sm_in_ M b_6 x1 ∧ ((¬ (sm_I M b_2 (x1).toNatClampNeg) = (sm_I M b_6 (x1).toNatClampNeg) → ∃ b_11, sm_R M a0 77 = some b_11 ∧ sm_wA 1 M b_11 ∧ sm_in_ M b_11 x1 ∧ Q (some (.inl 0)) (sm_putI M b_11 (x1).toNatClampNeg 1)) ∧ (¬ (¬ (sm_I M b_2 (x1).toNatClampNeg) = (sm_I M b_6 (x1).toNatClampNeg)) → ∃ b_15, sm_R M a0 77 = some b_15 ∧ sm_wA 1 M b_15 ∧ sm_in_ M b_15 x1 ∧ Q (some (.inl 0)) (sm_putI M b_15 (x1).toNatClampNeg 2)))) :
    sm_Run (d + 1) 184 597 [some (.inr (some a0)), some (.inl x1), some (.inl x2), some (.inl x3), some (.inl x4), some (.inl x5), some (.inl x6), some (.inl x7), some (.inl x8), z9] [] M Q := by
  refine ru_go (t := (598, [some (.inr (some a0)), some (.inl x1), some (.inl x2), some (.inl x3), some (.inl x4), some (.inl x5), some (.inl x6), some (.inl x7), some (.inl x8), z9], [.inr (some a0)], M)) sm_a184_597 rfl rfl rfl ?_
  obtain ⟨h_1, h⟩ := h
  refine ru_go (t := (601, [some (.inr (some a0)), some (.inl x1), some (.inl x2), some (.inl x3), some (.inl x4), some (.inl x5), some (.inl x6), some (.inl x7), some (.inl x8), z9], [.inr (sm_R M a0 77)], M)) sm_a184_598 rfl rfl (st_getR h_1 rfl rfl) ?_
  refine ru_go (t := (602, [some (.inr (some a0)), some (.inl x1), some (.inl x2), some (.inl x3), some (.inl x4), some (.inl x5), some (.inl x6), some (.inl x7), some (.inl x8), z9], [.inl x1, .inr (sm_R M a0 77)], M)) sm_a184_601 rfl rfl rfl ?_
  refine ru_go (t := (603, [some (.inr (some a0)), some (.inl x1), some (.inl x2), some (.inl x3), some (.inl x4), some (.inl x5), some (.inl x6), some (.inl x7), some (.inl x8), z9], [.inr (some a0), .inl x1, .inr (sm_R M a0 77)], M)) sm_a184_602 rfl rfl rfl ?_
  refine ru_go (t := (606, [some (.inr (some a0)), some (.inl x1), some (.inl x2), some (.inl x3), some (.inl x4), some (.inl x5), some (.inl x6), some (.inl x7), some (.inl x8), z9], [.inr (sm_R M a0 74), .inl x1, .inr (sm_R M a0 77)], M)) sm_a184_603 rfl rfl (st_getR h_1 rfl rfl) ?_
  refine ru_go (t := (607, [some (.inr (some a0)), some (.inl x1), some (.inl x2), some (.inl x3), some (.inl x4), some (.inl x5), some (.inl x6), some (.inl x7), some (.inl x8), z9], [.inl x1, .inr (sm_R M a0 74), .inl x1, .inr (sm_R M a0 77)], M)) sm_a184_606 rfl rfl rfl ?_
  obtain ⟨b_2, hb_3, h⟩ := h
  rw [hb_3]
  obtain ⟨h_4, h⟩ := h
  obtain ⟨h_5, h⟩ := h
  refine ru_go (t := (608, [some (.inr (some a0)), some (.inl x1), some (.inl x2), some (.inl x3), some (.inl x4), some (.inl x5), some (.inl x6), some (.inl x7), some (.inl x8), z9], [.inl (sm_I M b_2 (x1).toNatClampNeg), .inl x1, .inr (sm_R M a0 77)], M)) sm_a184_607 rfl rfl (st_iald h_4 h_5) ?_
  refine ru_go (t := (609, [some (.inr (some a0)), some (.inl x1), some (.inl x2), some (.inl x3), some (.inl x4), some (.inl x5), some (.inl x6), some (.inl x7), some (.inl x8), z9], [.inr (some a0), .inl (sm_I M b_2 (x1).toNatClampNeg), .inl x1, .inr (sm_R M a0 77)], M)) sm_a184_608 rfl rfl rfl ?_
  refine ru_go (t := (612, [some (.inr (some a0)), some (.inl x1), some (.inl x2), some (.inl x3), some (.inl x4), some (.inl x5), some (.inl x6), some (.inl x7), some (.inl x8), z9], [.inr (sm_R M a0 75), .inl (sm_I M b_2 (x1).toNatClampNeg), .inl x1, .inr (sm_R M a0 77)], M)) sm_a184_609 rfl rfl (st_getR h_1 rfl rfl) ?_
  refine ru_go (t := (613, [some (.inr (some a0)), some (.inl x1), some (.inl x2), some (.inl x3), some (.inl x4), some (.inl x5), some (.inl x6), some (.inl x7), some (.inl x8), z9], [.inl x1, .inr (sm_R M a0 75), .inl (sm_I M b_2 (x1).toNatClampNeg), .inl x1, .inr (sm_R M a0 77)], M)) sm_a184_612 rfl rfl rfl ?_
  obtain ⟨b_6, hb_7, h⟩ := h
  rw [hb_7]
  obtain ⟨h_8, h⟩ := h
  obtain ⟨h_9, h⟩ := h
  refine ru_go (t := (614, [some (.inr (some a0)), some (.inl x1), some (.inl x2), some (.inl x3), some (.inl x4), some (.inl x5), some (.inl x6), some (.inl x7), some (.inl x8), z9], [.inl (sm_I M b_6 (x1).toNatClampNeg), .inl (sm_I M b_2 (x1).toNatClampNeg), .inl x1, .inr (sm_R M a0 77)], M)) sm_a184_613 rfl rfl (st_iald h_8 h_9) ?_
  refine ru_icmp (pc := 614) (p := 621) (p2 := 617) sm_a184_614 (by decide) rfl ⟨fun hc_10 => ?_, fun hc_10 => ?_⟩
  · have h := h.1 hc_10
    refine ru_go (t := (622, [some (.inr (some a0)), some (.inl x1), some (.inl x2), some (.inl x3), some (.inl x4), some (.inl x5), some (.inl x6), some (.inl x7), some (.inl x8), z9], [.inl 1, .inl x1, .inr (sm_R M a0 77)], M)) sm_a184_621 rfl rfl (st_iconst (by decide)) ?_
    obtain ⟨b_11, hb_12, h⟩ := h
    rw [hb_12]
    obtain ⟨h_13, h⟩ := h
    obtain ⟨h_14, h⟩ := h
    refine ru_go (t := (623, [some (.inr (some a0)), some (.inl x1), some (.inl x2), some (.inl x3), some (.inl x4), some (.inl x5), some (.inl x6), some (.inl x7), some (.inl x8), z9], [], sm_putI M b_11 (x1).toNatClampNeg 1)) sm_a184_622 rfl rfl (st_iast h_13 h_14) ?_
    refine ru_go (t := (624, [some (.inr (some a0)), some (.inl x1), some (.inl x2), some (.inl x3), some (.inl x4), some (.inl x5), some (.inl x6), some (.inl x7), some (.inl x8), z9], [.inl 0], sm_putI M b_11 (x1).toNatClampNeg 1)) sm_a184_623 rfl rfl (st_iconst (by decide)) ?_
    exact ru_ret sm_a184_624 (sm_rvz rfl (by decide)) h
  · have h := h.2 hc_10
    refine ru_go (t := (618, [some (.inr (some a0)), some (.inl x1), some (.inl x2), some (.inl x3), some (.inl x4), some (.inl x5), some (.inl x6), some (.inl x7), some (.inl x8), z9], [.inl 2, .inl x1, .inr (sm_R M a0 77)], M)) sm_a184_617 rfl rfl (st_iconst (by decide)) ?_
    refine ru_go (t := (622, [some (.inr (some a0)), some (.inl x1), some (.inl x2), some (.inl x3), some (.inl x4), some (.inl x5), some (.inl x6), some (.inl x7), some (.inl x8), z9], [.inl 2, .inl x1, .inr (sm_R M a0 77)], M)) sm_a184_618 rfl rfl (st_goto (pc := 618) (by decide)) ?_
    obtain ⟨b_15, hb_16, h⟩ := h
    rw [hb_16]
    obtain ⟨h_17, h⟩ := h
    obtain ⟨h_18, h⟩ := h
    refine ru_go (t := (623, [some (.inr (some a0)), some (.inl x1), some (.inl x2), some (.inl x3), some (.inl x4), some (.inl x5), some (.inl x6), some (.inl x7), some (.inl x8), z9], [], sm_putI M b_15 (x1).toNatClampNeg 2)) sm_a184_622 rfl rfl (st_iast h_17 h_18) ?_
    refine ru_go (t := (624, [some (.inr (some a0)), some (.inl x1), some (.inl x2), some (.inl x3), some (.inl x4), some (.inl x5), some (.inl x6), some (.inl x7), some (.inl x8), z9], [.inl 0], sm_putI M b_15 (x1).toNatClampNeg 2)) sm_a184_623 rfl rfl (st_iconst (by decide)) ?_
    exact ru_ret sm_a184_624 (sm_rvz rfl (by decide)) h

/-! WireBusModel.pipe:(II)Z -/
theorem sm_a185_0 : sm_at 185 0 = some (.iload_n 1, 1, (0, 0, 0, 0)) := by decide +kernel
theorem sm_a185_1 : sm_at 185 1 = some (.bipush 10, 2, (0, 0, 0, 0)) := by decide +kernel
theorem sm_a185_3 : sm_at 185 3 = some (.idiv, 1, (0, 0, 0, 0)) := by decide +kernel
theorem sm_a185_4 : sm_at 185 4 = some (.istore_n 3, 1, (0, 0, 0, 0)) := by decide +kernel
theorem sm_a185_5 : sm_at 185 5 = some (.aload_n 0, 1, (0, 0, 0, 0)) := by decide +kernel
theorem sm_a185_6 : sm_at 185 6 = some (.getfield 164, 3, (12, 62, 0, 1245)) := by decide +kernel
theorem sm_a185_9 : sm_at 185 9 = some (.iload_n 1, 1, (0, 0, 0, 0)) := by decide +kernel
theorem sm_a185_10 : sm_at 185 10 = some (.iaload, 1, (0, 0, 0, 0)) := by decide +kernel
theorem sm_a185_11 : sm_at 185 11 = some (.bipush 15, 2, (0, 0, 0, 0)) := by decide +kernel
theorem sm_a185_13 : sm_at 185 13 = some (.iand, 1, (0, 0, 0, 0)) := by decide +kernel
theorem sm_a185_14 : sm_at 185 14 = some (.istore 4, 2, (0, 0, 0, 0)) := by decide +kernel
theorem sm_a185_16 : sm_at 185 16 = some (.aload_n 0, 1, (0, 0, 0, 0)) := by decide +kernel
theorem sm_a185_17 : sm_at 185 17 = some (.getfield 164, 3, (12, 62, 0, 1245)) := by decide +kernel
theorem sm_a185_20 : sm_at 185 20 = some (.iload_n 1, 1, (0, 0, 0, 0)) := by decide +kernel
theorem sm_a185_21 : sm_at 185 21 = some (.iaload, 1, (0, 0, 0, 0)) := by decide +kernel
theorem sm_a185_22 : sm_at 185 22 = some (.sipush 128, 3, (0, 0, 0, 0)) := by decide +kernel
theorem sm_a185_25 : sm_at 185 25 = some (.if_icmp .lt 7, 3, (0, 0, 0, 0)) := by decide +kernel
theorem sm_a185_28 : sm_at 185 28 = some (.iconst 1, 1, (0, 0, 0, 0)) := by decide +kernel
theorem sm_a185_29 : sm_at 185 29 = some (.goto 4, 3, (0, 0, 0, 0)) := by decide +kernel
theorem sm_a185_32 : sm_at 185 32 = some (.iconst 0, 1, (0, 0, 0, 0)) := by decide +kernel
theorem sm_a185_33 : sm_at 185 33 = some (.istore 5, 2, (0, 0, 0, 0)) := by decide +kernel
theorem sm_a185_35 : sm_at 185 35 = some (.iconst 0, 1, (0, 0, 0, 0)) := by decide +kernel
theorem sm_a185_36 : sm_at 185 36 = some (.istore 6, 2, (0, 0, 0, 0)) := by decide +kernel
theorem sm_a185_38 : sm_at 185 38 = some (.iload 5, 2, (0, 0, 0, 0)) := by decide +kernel
theorem sm_a185_40 : sm_at 185 40 = some (.ifCond .eq 18, 3, (0, 0, 0, 0)) := by decide +kernel
theorem sm_a185_43 : sm_at 185 43 = some (.aload_n 0, 1, (0, 0, 0, 0)) := by decide +kernel
theorem sm_a185_44 : sm_at 185 44 = some (.aload_n 0, 1, (0, 0, 0, 0)) := by decide +kernel
theorem sm_a185_45 : sm_at 185 45 = some (.getfield 155, 3, (12, 59, 0, 1242)) := by decide +kernel
theorem sm_a185_48 : sm_at 185 48 = some (.iload_n 3, 1, (0, 0, 0, 0)) := by decide +kernel
theorem sm_a185_49 : sm_at 185 49 = some (.iaload, 1, (0, 0, 0, 0)) := by decide +kernel
theorem sm_a185_50 : sm_at 185 50 = some (.iload 4, 2, (0, 0, 0, 0)) := by decide +kernel
theorem sm_a185_52 : sm_at 185 52 = some (.invokevirtual 366, 3, (10, 180, 12, 1616)) := by decide +kernel
theorem sm_a185_55 : sm_at 185 55 = some (.goto 100, 3, (0, 0, 0, 0)) := by decide +kernel
theorem sm_a185_58 : sm_at 185 58 = some (.aload_n 0, 1, (0, 0, 0, 0)) := by decide +kernel
theorem sm_a185_59 : sm_at 185 59 = some (.getfield 170, 3, (12, 64, 0, 1247)) := by decide +kernel
theorem sm_a185_62 : sm_at 185 62 = some (.iload_n 1, 1, (0, 0, 0, 0)) := by decide +kernel
theorem sm_a185_63 : sm_at 185 63 = some (.iaload, 1, (0, 0, 0, 0)) := by decide +kernel
theorem sm_a185_64 : sm_at 185 64 = some (.aload_n 0, 1, (0, 0, 0, 0)) := by decide +kernel
theorem sm_a185_65 : sm_at 185 65 = some (.getfield 197, 3, (12, 75, 0, 1258)) := by decide +kernel
theorem sm_a185_68 : sm_at 185 68 = some (.iload_n 2, 1, (0, 0, 0, 0)) := by decide +kernel
theorem sm_a185_69 : sm_at 185 69 = some (.iaload, 1, (0, 0, 0, 0)) := by decide +kernel
theorem sm_a185_70 : sm_at 185 70 = some (.aload_n 0, 1, (0, 0, 0, 0)) := by decide +kernel
theorem sm_a185_71 : sm_at 185 71 = some (.getfield 194, 3, (12, 74, 0, 1257)) := by decide +kernel
theorem sm_a185_74 : sm_at 185 74 = some (.iload_n 2, 1, (0, 0, 0, 0)) := by decide +kernel
theorem sm_a185_75 : sm_at 185 75 = some (.iaload, 1, (0, 0, 0, 0)) := by decide +kernel
theorem sm_a185_76 : sm_at 185 76 = some (.isub, 1, (0, 0, 0, 0)) := by decide +kernel
theorem sm_a185_77 : sm_at 185 77 = some (.invokestatic 369, 3, (3, 0, 0, 1624)) := by decide +kernel
theorem sm_a185_80 : sm_at 185 80 = some (.istore 6, 2, (0, 0, 0, 0)) := by decide +kernel
theorem sm_a185_82 : sm_at 185 82 = some (.iconst 0, 1, (0, 0, 0, 0)) := by decide +kernel
theorem sm_a185_83 : sm_at 185 83 = some (.istore 7, 2, (0, 0, 0, 0)) := by decide +kernel
theorem sm_a185_85 : sm_at 185 85 = some (.iload 7, 2, (0, 0, 0, 0)) := by decide +kernel
theorem sm_a185_87 : sm_at 185 87 = some (.iload 6, 2, (0, 0, 0, 0)) := by decide +kernel
theorem sm_a185_89 : sm_at 185 89 = some (.if_icmp .ge 35, 3, (0, 0, 0, 0)) := by decide +kernel
theorem sm_a185_92 : sm_at 185 92 = some (.aload_n 0, 1, (0, 0, 0, 0)) := by decide +kernel
theorem sm_a185_93 : sm_at 185 93 = some (.getfield 219, 3, (12, 83, 0, 1266)) := by decide +kernel
theorem sm_a185_96 : sm_at 185 96 = some (.iload 7, 2, (0, 0, 0, 0)) := by decide +kernel
theorem sm_a185_98 : sm_at 185 98 = some (.aload_n 0, 1, (0, 0, 0, 0)) := by decide +kernel
theorem sm_a185_99 : sm_at 185 99 = some (.getfield 216, 3, (12, 81, 0, 1264)) := by decide +kernel
theorem sm_a185_102 : sm_at 185 102 = some (.bipush 100, 2, (0, 0, 0, 0)) := by decide +kernel
theorem sm_a185_104 : sm_at 185 104 = some (.iload_n 2, 1, (0, 0, 0, 0)) := by decide +kernel
theorem sm_a185_105 : sm_at 185 105 = some (.imul, 1, (0, 0, 0, 0)) := by decide +kernel
theorem sm_a185_106 : sm_at 185 106 = some (.aload_n 0, 1, (0, 0, 0, 0)) := by decide +kernel
theorem sm_a185_107 : sm_at 185 107 = some (.getfield 194, 3, (12, 74, 0, 1257)) := by decide +kernel
theorem sm_a185_110 : sm_at 185 110 = some (.iload_n 2, 1, (0, 0, 0, 0)) := by decide +kernel
theorem sm_a185_111 : sm_at 185 111 = some (.iaload, 1, (0, 0, 0, 0)) := by decide +kernel
theorem sm_a185_112 : sm_at 185 112 = some (.iadd, 1, (0, 0, 0, 0)) := by decide +kernel
theorem sm_a185_113 : sm_at 185 113 = some (.iload 7, 2, (0, 0, 0, 0)) := by decide +kernel
theorem sm_a185_115 : sm_at 185 115 = some (.iadd, 1, (0, 0, 0, 0)) := by decide +kernel
theorem sm_a185_116 : sm_at 185 116 = some (.iaload, 1, (0, 0, 0, 0)) := by decide +kernel
theorem sm_a185_117 : sm_at 185 117 = some (.iastore, 1, (1, 0, 0, 0)) := by decide +kernel
theorem sm_a185_118 : sm_at 185 118 = some (.iinc 7 1, 3, (0, 0, 0, 0)) := by decide +kernel
theorem sm_a185_121 : sm_at 185 121 = some (.goto (-36), 3, (0, 0, 0, 0)) := by decide +kernel
theorem sm_a185_124 : sm_at 185 124 = some (.aload_n 0, 1, (0, 0, 0, 0)) := by decide +kernel
theorem sm_a185_125 : sm_at 185 125 = some (.iconst 1, 1, (0, 0, 0, 0)) := by decide +kernel
theorem sm_a185_126 : sm_at 185 126 = some (.aload_n 0, 1, (0, 0, 0, 0)) := by decide +kernel
theorem sm_a185_127 : sm_at 185 127 = some (.getfield 155, 3, (12, 59, 0, 1242)) := by decide +kernel
theorem sm_a185_130 : sm_at 185 130 = some (.iload_n 3, 1, (0, 0, 0, 0)) := by decide +kernel
theorem sm_a185_131 : sm_at 185 131 = some (.iaload, 1, (0, 0, 0, 0)) := by decide +kernel
theorem sm_a185_132 : sm_at 185 132 = some (.iload 4, 2, (0, 0, 0, 0)) := by decide +kernel
theorem sm_a185_134 : sm_at 185 134 = some (.aload_n 0, 1, (0, 0, 0, 0)) := by decide +kernel
theorem sm_a185_135 : sm_at 185 135 = some (.getfield 176, 3, (12, 66, 0, 1249)) := by decide +kernel
theorem sm_a185_138 : sm_at 185 138 = some (.iload_n 1, 1, (0, 0, 0, 0)) := by decide +kernel
theorem sm_a185_139 : sm_at 185 139 = some (.iaload, 1, (0, 0, 0, 0)) := by decide +kernel
theorem sm_a185_140 : sm_at 185 140 = some (.iconst 1, 1, (0, 0, 0, 0)) := by decide +kernel
theorem sm_a185_141 : sm_at 185 141 = some (.if_icmp .ne 8, 3, (0, 0, 0, 0)) := by decide +kernel
theorem sm_a185_144 : sm_at 185 144 = some (.bipush 11, 2, (0, 0, 0, 0)) := by decide +kernel
theorem sm_a185_146 : sm_at 185 146 = some (.goto 4, 3, (0, 0, 0, 0)) := by decide +kernel
theorem sm_a185_149 : sm_at 185 149 = some (.iconst 3, 1, (0, 0, 0, 0)) := by decide +kernel
theorem sm_a185_150 : sm_at 185 150 = some (.iload 6, 2, (0, 0, 0, 0)) := by decide +kernel
theorem sm_a185_152 : sm_at 185 152 = some (.invokevirtual 359, 3, (10, 181, 12, 1625)) := by decide +kernel
theorem sm_a185_155 : sm_at 185 155 = some (.aload_n 0, 1, (0, 0, 0, 0)) := by decide +kernel
theorem sm_a185_156 : sm_at 185 156 = some (.getfield 346, 3, (12, 82, 0, 1265)) := by decide +kernel
theorem sm_a185_159 : sm_at 185 159 = some (.bipush 10, 2, (0, 0, 0, 0)) := by decide +kernel
theorem sm_a185_161 : sm_at 185 161 = some (.if_icmp .ne 7, 3, (0, 0, 0, 0)) := by decide +kernel
theorem sm_a185_164 : sm_at 185 164 = some (.iconst 1, 1, (0, 0, 0, 0)) := by decide +kernel
theorem sm_a185_165 : sm_at 185 165 = some (.goto 4, 3, (0, 0, 0, 0)) := by decide +kernel
theorem sm_a185_168 : sm_at 185 168 = some (.iconst 0, 1, (0, 0, 0, 0)) := by decide +kernel
theorem sm_a185_169 : sm_at 185 169 = some (.istore 7, 2, (0, 0, 0, 0)) := by decide +kernel
theorem sm_a185_171 : sm_at 185 171 = some (.iload 5, 2, (0, 0, 0, 0)) := by decide +kernel
theorem sm_a185_173 : sm_at 185 173 = some (.ifCond .eq 28, 3, (0, 0, 0, 0)) := by decide +kernel
theorem sm_a185_176 : sm_at 185 176 = some (.aload_n 0, 1, (0, 0, 0, 0)) := by decide +kernel
theorem sm_a185_177 : sm_at 185 177 = some (.getfield 346, 3, (12, 82, 0, 1265)) := by decide +kernel
theorem sm_a185_180 : sm_at 185 180 = some (.iconst 3, 1, (0, 0, 0, 0)) := by decide +kernel
theorem sm_a185_181 : sm_at 185 181 = some (.if_icmp .eq 12, 3, (0, 0, 0, 0)) := by decide +kernel
theorem sm_a185_184 : sm_at 185 184 = some (.aload_n 0, 1, (0, 0, 0, 0)) := by decide +kernel
theorem sm_a185_185 : sm_at 185 185 = some (.getfield 346, 3, (12, 82, 0, 1265)) := by decide +kernel
theorem sm_a185_188 : sm_at 185 188 = some (.bipush 11, 2, (0, 0, 0, 0)) := by decide +kernel
theorem sm_a185_190 : sm_at 185 190 = some (.if_icmp .ne 7, 3, (0, 0, 0, 0)) := by decide +kernel
theorem sm_a185_193 : sm_at 185 193 = some (.iconst 1, 1, (0, 0, 0, 0)) := by decide +kernel
theorem sm_a185_194 : sm_at 185 194 = some (.goto 20, 3, (0, 0, 0, 0)) := by decide +kernel
theorem sm_a185_197 : sm_at 185 197 = some (.iconst 0, 1, (0, 0, 0, 0)) := by decide +kernel
theorem sm_a185_198 : sm_at 185 198 = some (.goto 16, 3, (0, 0, 0, 0)) := by decide +kernel
theorem sm_a185_201 : sm_at 185 201 = some (.aload_n 0, 1, (0, 0, 0, 0)) := by decide +kernel
theorem sm_a185_202 : sm_at 185 202 = some (.getfield 346, 3, (12, 82, 0, 1265)) := by decide +kernel
theorem sm_a185_205 : sm_at 185 205 = some (.iconst 2, 1, (0, 0, 0, 0)) := by decide +kernel
theorem sm_a185_206 : sm_at 185 206 = some (.if_icmp .ne 7, 3, (0, 0, 0, 0)) := by decide +kernel
theorem sm_a185_209 : sm_at 185 209 = some (.iconst 1, 1, (0, 0, 0, 0)) := by decide +kernel
theorem sm_a185_210 : sm_at 185 210 = some (.goto 4, 3, (0, 0, 0, 0)) := by decide +kernel
theorem sm_a185_213 : sm_at 185 213 = some (.iconst 0, 1, (0, 0, 0, 0)) := by decide +kernel
theorem sm_a185_214 : sm_at 185 214 = some (.istore 8, 2, (0, 0, 0, 0)) := by decide +kernel
theorem sm_a185_216 : sm_at 185 216 = some (.iload 7, 2, (0, 0, 0, 0)) := by decide +kernel
theorem sm_a185_218 : sm_at 185 218 = some (.ifCond .ne 12, 3, (0, 0, 0, 0)) := by decide +kernel
theorem sm_a185_221 : sm_at 185 221 = some (.aload_n 0, 1, (0, 0, 0, 0)) := by decide +kernel
theorem sm_a185_222 : sm_at 185 222 = some (.getfield 346, 3, (12, 82, 0, 1265)) := by decide +kernel
theorem sm_a185_225 : sm_at 185 225 = some (.bipush 14, 2, (0, 0, 0, 0)) := by decide +kernel
theorem sm_a185_227 : sm_at 185 227 = some (.if_icmp .ne 29, 3, (0, 0, 0, 0)) := by decide +kernel
theorem sm_a185_230 : sm_at 185 230 = some (.aload_n 0, 1, (0, 0, 0, 0)) := by decide +kernel
theorem sm_a185_231 : sm_at 185 231 = some (.getfield 200, 3, (12, 76, 0, 1259)) := by decide +kernel
theorem sm_a185_234 : sm_at 185 234 = some (.iload_n 2, 1, (0, 0, 0, 0)) := by decide +kernel
theorem sm_a185_235 : sm_at 185 235 = some (.iconst 0, 1, (0, 0, 0, 0)) := by decide +kernel
theorem sm_a185_236 : sm_at 185 236 = some (.iastore, 1, (1, 0, 0, 0)) := by decide +kernel
theorem sm_a185_237 : sm_at 185 237 = some (.aload_n 0, 1, (0, 0, 0, 0)) := by decide +kernel
theorem sm_a185_238 : sm_at 185 238 = some (.getfield 191, 3, (12, 73, 0, 1256)) := by decide +kernel
theorem sm_a185_241 : sm_at 185 241 = some (.iload_n 2, 1, (0, 0, 0, 0)) := by decide +kernel
theorem sm_a185_242 : sm_at 185 242 = some (.iload 7, 2, (0, 0, 0, 0)) := by decide +kernel
theorem sm_a185_244 : sm_at 185 244 = some (.ifCond .eq 7, 3, (0, 0, 0, 0)) := by decide +kernel
theorem sm_a185_247 : sm_at 185 247 = some (.iconst 0, 1, (0, 0, 0, 0)) := by decide +kernel
theorem sm_a185_248 : sm_at 185 248 = some (.goto 4, 3, (0, 0, 0, 0)) := by decide +kernel
theorem sm_a185_251 : sm_at 185 251 = some (.iconst 2, 1, (0, 0, 0, 0)) := by decide +kernel
theorem sm_a185_252 : sm_at 185 252 = some (.iastore, 1, (1, 0, 0, 0)) := by decide +kernel
theorem sm_a185_253 : sm_at 185 253 = some (.goto 159, 3, (0, 0, 0, 0)) := by decide +kernel
theorem sm_a185_256 : sm_at 185 256 = some (.iload 8, 2, (0, 0, 0, 0)) := by decide +kernel
theorem sm_a185_258 : sm_at 185 258 = some (.ifCond .ne 11, 3, (0, 0, 0, 0)) := by decide +kernel
theorem sm_a185_261 : sm_at 185 261 = some (.aload_n 0, 1, (0, 0, 0, 0)) := by decide +kernel
theorem sm_a185_262 : sm_at 185 262 = some (.iload_n 2, 1, (0, 0, 0, 0)) := by decide +kernel
theorem sm_a185_263 : sm_at 185 263 = some (.invokevirtual 363, 3, (10, 182, 12, 1629)) := by decide +kernel
theorem sm_a185_266 : sm_at 185 266 = some (.goto 146, 3, (0, 0, 0, 0)) := by decide +kernel
theorem sm_a185_269 : sm_at 185 269 = some (.iload 5, 2, (0, 0, 0, 0)) := by decide +kernel
theorem sm_a185_271 : sm_at 185 271 = some (.ifCond .eq 83, 3, (0, 0, 0, 0)) := by decide +kernel
theorem sm_a185_274 : sm_at 185 274 = some (.aload_n 0, 1, (0, 0, 0, 0)) := by decide +kernel
theorem sm_a185_275 : sm_at 185 275 = some (.getfield 200, 3, (12, 76, 0, 1259)) := by decide +kernel
theorem sm_a185_278 : sm_at 185 278 = some (.iload_n 2, 1, (0, 0, 0, 0)) := by decide +kernel
theorem sm_a185_279 : sm_at 185 279 = some (.iconst 0, 1, (0, 0, 0, 0)) := by decide +kernel
theorem sm_a185_280 : sm_at 185 280 = some (.iastore, 1, (1, 0, 0, 0)) := by decide +kernel
theorem sm_a185_281 : sm_at 185 281 = some (.aload_n 0, 1, (0, 0, 0, 0)) := by decide +kernel
theorem sm_a185_282 : sm_at 185 282 = some (.iload_n 2, 1, (0, 0, 0, 0)) := by decide +kernel
theorem sm_a185_283 : sm_at 185 283 = some (.aload_n 0, 1, (0, 0, 0, 0)) := by decide +kernel
theorem sm_a185_284 : sm_at 185 284 = some (.getfield 176, 3, (12, 66, 0, 1249)) := by decide +kernel
theorem sm_a185_287 : sm_at 185 287 = some (.iload_n 1, 1, (0, 0, 0, 0)) := by decide +kernel
theorem sm_a185_288 : sm_at 185 288 = some (.iaload, 1, (0, 0, 0, 0)) := by decide +kernel
theorem sm_a185_289 : sm_at 185 289 = some (.aload_n 0, 1, (0, 0, 0, 0)) := by decide +kernel
theorem sm_a185_290 : sm_at 185 290 = some (.getfield 170, 3, (12, 64, 0, 1247)) := by decide +kernel
theorem sm_a185_293 : sm_at 185 293 = some (.iload_n 1, 1, (0, 0, 0, 0)) := by decide +kernel
theorem sm_a185_294 : sm_at 185 294 = some (.iaload, 1, (0, 0, 0, 0)) := by decide +kernel
theorem sm_a185_295 : sm_at 185 295 = some (.invokevirtual 374, 3, (10, 183, 12, 1633)) := by decide +kernel
theorem sm_a185_298 : sm_at 185 298 = some (.istore 9, 2, (0, 0, 0, 0)) := by decide +kernel
theorem sm_a185_300 : sm_at 185 300 = some (.aload_n 0, 1, (0, 0, 0, 0)) := by decide +kernel
theorem sm_a185_301 : sm_at 185 301 = some (.getfield 176, 3, (12, 66, 0, 1249)) := by decide +kernel
theorem sm_a185_304 : sm_at 185 304 = some (.iload_n 1, 1, (0, 0, 0, 0)) := by decide +kernel
theorem sm_a185_305 : sm_at 185 305 = some (.aload_n 0, 1, (0, 0, 0, 0)) := by decide +kernel
theorem sm_a185_306 : sm_at 185 306 = some (.getfield 355, 3, (12, 84, 0, 1267)) := by decide +kernel
theorem sm_a185_309 : sm_at 185 309 = some (.ifCond .eq 14, 3, (0, 0, 0, 0)) := by decide +kernel
theorem sm_a185_312 : sm_at 185 312 = some (.iconst 1, 1, (0, 0, 0, 0)) := by decide +kernel
theorem sm_a185_313 : sm_at 185 313 = some (.aload_n 0, 1, (0, 0, 0, 0)) := by decide +kernel
theorem sm_a185_314 : sm_at 185 314 = some (.getfield 176, 3, (12, 66, 0, 1249)) := by decide +kernel
theorem sm_a185_317 : sm_at 185 317 = some (.iload_n 1, 1, (0, 0, 0, 0)) := by decide +kernel
theorem sm_a185_318 : sm_at 185 318 = some (.iaload, 1, (0, 0, 0, 0)) := by decide +kernel
theorem sm_a185_319 : sm_at 185 319 = some (.isub, 1, (0, 0, 0, 0)) := by decide +kernel
theorem sm_a185_320 : sm_at 185 320 = some (.goto 9, 3, (0, 0, 0, 0)) := by decide +kernel
theorem sm_a185_323 : sm_at 185 323 = some (.aload_n 0, 1, (0, 0, 0, 0)) := by decide +kernel
theorem sm_a185_324 : sm_at 185 324 = some (.getfield 176, 3, (12, 66, 0, 1249)) := by decide +kernel
theorem sm_a185_327 : sm_at 185 327 = some (.iload_n 1, 1, (0, 0, 0, 0)) := by decide +kernel
theorem sm_a185_328 : sm_at 185 328 = some (.iaload, 1, (0, 0, 0, 0)) := by decide +kernel
theorem sm_a185_329 : sm_at 185 329 = some (.iastore, 1, (1, 0, 0, 0)) := by decide +kernel
theorem sm_a185_330 : sm_at 185 330 = some (.aload_n 0, 1, (0, 0, 0, 0)) := by decide +kernel
theorem sm_a185_331 : sm_at 185 331 = some (.getfield 191, 3, (12, 73, 0, 1256)) := by decide +kernel
theorem sm_a185_334 : sm_at 185 334 = some (.iload_n 2, 1, (0, 0, 0, 0)) := by decide +kernel
theorem sm_a185_335 : sm_at 185 335 = some (.iload 9, 2, (0, 0, 0, 0)) := by decide +kernel
theorem sm_a185_337 : sm_at 185 337 = some (.ifCond .eq 7, 3, (0, 0, 0, 0)) := by decide +kernel
theorem sm_a185_340 : sm_at 185 340 = some (.iconst 1, 1, (0, 0, 0, 0)) := by decide +kernel
theorem sm_a185_341 : sm_at 185 341 = some (.goto 9, 3, (0, 0, 0, 0)) := by decide +kernel
theorem sm_a185_344 : sm_at 185 344 = some (.aload_n 0, 1, (0, 0, 0, 0)) := by decide +kernel
theorem sm_a185_345 : sm_at 185 345 = some (.getfield 191, 3, (12, 73, 0, 1256)) := by decide +kernel
theorem sm_a185_348 : sm_at 185 348 = some (.iload_n 2, 1, (0, 0, 0, 0)) := by decide +kernel
theorem sm_a185_349 : sm_at 185 349 = some (.iaload, 1, (0, 0, 0, 0)) := by decide +kernel
theorem sm_a185_350 : sm_at 185 350 = some (.iastore, 1, (1, 0, 0, 0)) := by decide +kernel
theorem sm_a185_351 : sm_at 185 351 = some (.goto 61, 3, (0, 0, 0, 0)) := by decide +kernel
theorem sm_a185_354 : sm_at 185 354 = some (.aload_n 0, 1, (0, 0, 0, 0)) := by decide +kernel
theorem sm_a185_355 : sm_at 185 355 = some (.getfield 200, 3, (12, 76, 0, 1259)) := by decide +kernel
theorem sm_a185_358 : sm_at 185 358 = some (.iload_n 2, 1, (0, 0, 0, 0)) := by decide +kernel
theorem sm_a185_359 : sm_at 185 359 = some (.iconst 0, 1, (0, 0, 0, 0)) := by decide +kernel
theorem sm_a185_360 : sm_at 185 360 = some (.iastore, 1, (1, 0, 0, 0)) := by decide +kernel
theorem sm_a185_361 : sm_at 185 361 = some (.aload_n 0, 1, (0, 0, 0, 0)) := by decide +kernel
theorem sm_a185_362 : sm_at 185 362 = some (.getfield 194, 3, (12, 74, 0, 1257)) := by decide +kernel
theorem sm_a185_365 : sm_at 185 365 = some (.iload_n 2, 1, (0, 0, 0, 0)) := by decide +kernel
theorem sm_a185_366 : sm_at 185 366 = some (.dup2, 1, (0, 0, 0, 0)) := by decide +kernel
theorem sm_a185_367 : sm_at 185 367 = some (.iaload, 1, (0, 0, 0, 0)) := by decide +kernel
theorem sm_a185_368 : sm_at 185 368 = some (.iload 6, 2, (0, 0, 0, 0)) := by decide +kernel
theorem sm_a185_370 : sm_at 185 370 = some (.iadd, 1, (0, 0, 0, 0)) := by decide +kernel
theorem sm_a185_371 : sm_at 185 371 = some (.iastore, 1, (1, 0, 0, 0)) := by decide +kernel
theorem sm_a185_372 : sm_at 185 372 = some (.aload_n 0, 1, (0, 0, 0, 0)) := by decide +kernel
theorem sm_a185_373 : sm_at 185 373 = some (.getfield 176, 3, (12, 66, 0, 1249)) := by decide +kernel
theorem sm_a185_376 : sm_at 185 376 = some (.iload_n 1, 1, (0, 0, 0, 0)) := by decide +kernel
theorem sm_a185_377 : sm_at 185 377 = some (.iconst 1, 1, (0, 0, 0, 0)) := by decide +kernel
theorem sm_a185_378 : sm_at 185 378 = some (.aload_n 0, 1, (0, 0, 0, 0)) := by decide +kernel
theorem sm_a185_379 : sm_at 185 379 = some (.getfield 176, 3, (12, 66, 0, 1249)) := by decide +kernel
theorem sm_a185_382 : sm_at 185 382 = some (.iload_n 1, 1, (0, 0, 0, 0)) := by decide +kernel
theorem sm_a185_383 : sm_at 185 383 = some (.iaload, 1, (0, 0, 0, 0)) := by decide +kernel
theorem sm_a185_384 : sm_at 185 384 = some (.isub, 1, (0, 0, 0, 0)) := by decide +kernel
theorem sm_a185_385 : sm_at 185 385 = some (.iastore, 1, (1, 0, 0, 0)) := by decide +kernel
theorem sm_a185_386 : sm_at 185 386 = some (.aload_n 0, 1, (0, 0, 0, 0)) := by decide +kernel
theorem sm_a185_387 : sm_at 185 387 = some (.getfield 191, 3, (12, 73, 0, 1256)) := by decide +kernel
theorem sm_a185_390 : sm_at 185 390 = some (.iload_n 2, 1, (0, 0, 0, 0)) := by decide +kernel
theorem sm_a185_391 : sm_at 185 391 = some (.aload_n 0, 1, (0, 0, 0, 0)) := by decide +kernel
theorem sm_a185_392 : sm_at 185 392 = some (.getfield 194, 3, (12, 74, 0, 1257)) := by decide +kernel
theorem sm_a185_395 : sm_at 185 395 = some (.iload_n 2, 1, (0, 0, 0, 0)) := by decide +kernel
theorem sm_a185_396 : sm_at 185 396 = some (.iaload, 1, (0, 0, 0, 0)) := by decide +kernel
theorem sm_a185_397 : sm_at 185 397 = some (.aload_n 0, 1, (0, 0, 0, 0)) := by decide +kernel
theorem sm_a185_398 : sm_at 185 398 = some (.getfield 197, 3, (12, 75, 0, 1258)) := by decide +kernel
theorem sm_a185_401 : sm_at 185 401 = some (.iload_n 2, 1, (0, 0, 0, 0)) := by decide +kernel
theorem sm_a185_402 : sm_at 185 402 = some (.iaload, 1, (0, 0, 0, 0)) := by decide +kernel
theorem sm_a185_403 : sm_at 185 403 = some (.if_icmp .ne 7, 3, (0, 0, 0, 0)) := by decide +kernel
theorem sm_a185_406 : sm_at 185 406 = some (.iconst 1, 1, (0, 0, 0, 0)) := by decide +kernel
theorem sm_a185_407 : sm_at 185 407 = some (.goto 4, 3, (0, 0, 0, 0)) := by decide +kernel
theorem sm_a185_410 : sm_at 185 410 = some (.iconst 0, 1, (0, 0, 0, 0)) := by decide +kernel
theorem sm_a185_411 : sm_at 185 411 = some (.iastore, 1, (1, 0, 0, 0)) := by decide +kernel
theorem sm_a185_412 : sm_at 185 412 = some (.aload_n 0, 1, (0, 0, 0, 0)) := by decide +kernel
theorem sm_a185_413 : sm_at 185 413 = some (.getfield 191, 3, (12, 73, 0, 1256)) := by decide +kernel
theorem sm_a185_416 : sm_at 185 416 = some (.iload_n 2, 1, (0, 0, 0, 0)) := by decide +kernel
theorem sm_a185_417 : sm_at 185 417 = some (.iaload, 1, (0, 0, 0, 0)) := by decide +kernel
theorem sm_a185_418 : sm_at 185 418 = some (.iconst 1, 1, (0, 0, 0, 0)) := by decide +kernel
theorem sm_a185_419 : sm_at 185 419 = some (.if_icmp .le 10, 3, (0, 0, 0, 0)) := by decide +kernel
theorem sm_a185_422 : sm_at 185 422 = some (.aload_n 0, 1, (0, 0, 0, 0)) := by decide +kernel
theorem sm_a185_423 : sm_at 185 423 = some (.getfield 179, 3, (12, 67, 0, 1250)) := by decide +kernel
theorem sm_a185_426 : sm_at 185 426 = some (.iload_n 1, 1, (0, 0, 0, 0)) := by decide +kernel
theorem sm_a185_427 : sm_at 185 427 = some (.iconst 0, 1, (0, 0, 0, 0)) := by decide +kernel
theorem sm_a185_428 : sm_at 185 428 = some (.bastore, 1, (1, 0, 0, 0)) := by decide +kernel
theorem sm_a185_429 : sm_at 185 429 = some (.iload 7, 2, (0, 0, 0, 0)) := by decide +kernel
theorem sm_a185_431 : sm_at 185 431 = some (.ireturn, 1, (0, 0, 0, 0)) := by decide +kernel
theorem bb_185_0 {d : Nat} {M : sm_M} {Q : Option sm_V → sm_M → Prop} {a0 : Nat} {x1 : Int32} {x2 : Int32} {z3 : Option sm_V} {z4 : Option sm_V} {z5 : Option sm_V} {z6 : Option sm_V} {z7 : Option sm_V} {z8 : Option sm_V} {z9 : Option sm_V}
    (h : sm_K M a0 = 39 ∧ ∃ b_2, sm_R M a0 62 = some b_2 ∧ sm_iA M b_2 ∧ sm_in_ M b_2 x1 ∧ ∃ b_6, sm_R M a0 62 = some b_6 ∧ sm_iA M b_6 ∧ sm_in_ M b_6 x1 ∧ (((sm_I M b_6 (x1).toNatClampNeg) < 128 → ∃ b_11, sm_R M a0 64 = some b_11 ∧ sm_iA M b_11 ∧ sm_in_ M b_11 x1 ∧ ∃ b_15, sm_R M a0 75 = some b_15 ∧ sm_iA M b_15 ∧ sm_in_ M b_15 x2 ∧ ∃ b_19, sm_R M a0 74 = some b_19 ∧ sm_iA M b_19 ∧ sm_in_ M b_19 x2 ∧ sm_Run (d + 1) 185 85 [some (.inr (some a0)), some (.inl x1), some (.inl x2), some (.inl (x1 / 10)), some (.inl ((sm_I M b_2 (x1).toNatClampNeg) &&& 15)), some (.inl 0), some (.inl (if (sm_I M b_15 (x2).toNatClampNeg) - (sm_I M b_19 (x2).toNatClampNeg) < sm_I M b_11 (x1).toNatClampNeg then (sm_I M b_15 (x2).toNatClampNeg) - (sm_I M b_19 (x2).toNatClampNeg) else sm_I M b_11 (x1).toNatClampNeg)), some (.inl 0), z8, z9] [] M Q) ∧ (¬ ((sm_I M b_6 (x1).toNatClampNeg) < 128) → ∃ b_23, sm_R M a0 59 = some b_23 ∧ sm_iA M b_23 ∧ sm_in_ M b_23 (x1 / 10) ∧ sm_Run d 180 0 (sm_ent 180 [.inr (some a0), .inl (sm_I M b_23 (x1 / 10).toNatClampNeg), .inl ((sm_I M b_2 (x1).toNatClampNeg) &&& 15)]) [] M (fun v M1 => sm_Run (d + 1) 185 55 [some (.inr (some a0)), some (.inl x1), some (.inl x2), some (.inl (x1 / 10)), some (.inl ((sm_I M b_2 (x1).toNatClampNeg) &&& 15)), some (.inl 1), some (.inl 0), z7, z8, z9] (v.toList ++ []) M1 Q)))) :
    sm_Run (d + 1) 185 0 [some (.inr (some a0)), some (.inl x1), some (.inl x2), z3, z4, z5, z6, z7, z8, z9] [] M Q := by
  refine ru_go (t := (1, [some (.inr (some a0)), some (.inl x1), some (.inl x2), z3, z4, z5, z6, z7, z8, z9], [.inl x1], M)) sm_a185_0 rfl rfl rfl ?_
  refine ru_go (t := (3, [some (.inr (some a0)), some (.inl x1), some (.inl x2), z3, z4, z5, z6, z7, z8, z9], [.inl 10, .inl x1], M)) sm_a185_1 rfl rfl (st_bipush (by decide)) ?_
  refine ru_go (t := (4, [some (.inr (some a0)), some (.inl x1), some (.inl x2), z3, z4, z5, z6, z7, z8, z9], [.inl (x1 / 10)], M)) sm_a185_3 rfl rfl (st_div (by decide)) ?_
  refine ru_go (t := (5, [some (.inr (some a0)), some (.inl x1), some (.inl x2), some (.inl (x1 / 10)), z4, z5, z6, z7, z8, z9], [], M)) sm_a185_4 rfl rfl rfl ?_
  refine ru_go (t := (6, [some (.inr (some a0)), some (.inl x1), some (.inl x2), some (.inl (x1 / 10)), z4, z5, z6, z7, z8, z9], [.inr (some a0)], M)) sm_a185_5 rfl rfl rfl ?_
  obtain ⟨h_1, h⟩ := h
  refine ru_go (t := (9, [some (.inr (some a0)), some (.inl x1), some (.inl x2), some (.inl (x1 / 10)), z4, z5, z6, z7, z8, z9], [.inr (sm_R M a0 62)], M)) sm_a185_6 rfl rfl (st_getR h_1 rfl rfl) ?_
  refine ru_go (t := (10, [some (.inr (some a0)), some (.inl x1), some (.inl x2), some (.inl (x1 / 10)), z4, z5, z6, z7, z8, z9], [.inl x1, .inr (sm_R M a0 62)], M)) sm_a185_9 rfl rfl rfl ?_
  obtain ⟨b_2, hb_3, h⟩ := h
  rw [hb_3]
  obtain ⟨h_4, h⟩ := h
  obtain ⟨h_5, h⟩ := h
  refine ru_go (t := (11, [some (.inr (some a0)), some (.inl x1), some (.inl x2), some (.inl (x1 / 10)), z4, z5, z6, z7, z8, z9], [.inl (sm_I M b_2 (x1).toNatClampNeg)], M)) sm_a185_10 rfl rfl (st_iald h_4 h_5) ?_
  refine ru_go (t := (13, [some (.inr (some a0)), some (.inl x1), some (.inl x2), some (.inl (x1 / 10)), z4, z5, z6, z7, z8, z9], [.inl 15, .inl (sm_I M b_2 (x1).toNatClampNeg)], M)) sm_a185_11 rfl rfl (st_bipush (by decide)) ?_
  refine ru_go (t := (14, [some (.inr (some a0)), some (.inl x1), some (.inl x2), some (.inl (x1 / 10)), z4, z5, z6, z7, z8, z9], [.inl ((sm_I M b_2 (x1).toNatClampNeg) &&& 15)], M)) sm_a185_13 rfl rfl rfl ?_
  refine ru_go (t := (16, [some (.inr (some a0)), some (.inl x1), some (.inl x2), some (.inl (x1 / 10)), some (.inl ((sm_I M b_2 (x1).toNatClampNeg) &&& 15)), z5, z6, z7, z8, z9], [], M)) sm_a185_14 rfl rfl rfl ?_
  refine ru_go (t := (17, [some (.inr (some a0)), some (.inl x1), some (.inl x2), some (.inl (x1 / 10)), some (.inl ((sm_I M b_2 (x1).toNatClampNeg) &&& 15)), z5, z6, z7, z8, z9], [.inr (some a0)], M)) sm_a185_16 rfl rfl rfl ?_
  refine ru_go (t := (20, [some (.inr (some a0)), some (.inl x1), some (.inl x2), some (.inl (x1 / 10)), some (.inl ((sm_I M b_2 (x1).toNatClampNeg) &&& 15)), z5, z6, z7, z8, z9], [.inr (sm_R M a0 62)], M)) sm_a185_17 rfl rfl (st_getR h_1 rfl rfl) ?_
  refine ru_go (t := (21, [some (.inr (some a0)), some (.inl x1), some (.inl x2), some (.inl (x1 / 10)), some (.inl ((sm_I M b_2 (x1).toNatClampNeg) &&& 15)), z5, z6, z7, z8, z9], [.inl x1, .inr (sm_R M a0 62)], M)) sm_a185_20 rfl rfl rfl ?_
  obtain ⟨b_6, hb_7, h⟩ := h
  rw [hb_7]
  obtain ⟨h_8, h⟩ := h
  obtain ⟨h_9, h⟩ := h
  refine ru_go (t := (22, [some (.inr (some a0)), some (.inl x1), some (.inl x2), some (.inl (x1 / 10)), some (.inl ((sm_I M b_2 (x1).toNatClampNeg) &&& 15)), z5, z6, z7, z8, z9], [.inl (sm_I M b_6 (x1).toNatClampNeg)], M)) sm_a185_21 rfl rfl (st_iald h_8 h_9) ?_
  refine ru_go (t := (25, [some (.inr (some a0)), some (.inl x1), some (.inl x2), some (.inl (x1 / 10)), some (.inl ((sm_I M b_2 (x1).toNatClampNeg) &&& 15)), z5, z6, z7, z8, z9], [.inl 128, .inl (sm_I M b_6 (x1).toNatClampNeg)], M)) sm_a185_22 rfl rfl (st_sipush (by decide)) ?_
  refine ru_icmp (pc := 25) (p := 32) (p2 := 28) sm_a185_25 (by decide) rfl ⟨fun hc_10 => ?_, fun hc_10 => ?_⟩
  · have h := h.1 hc_10
    refine ru_go (t := (33, [some (.inr (some a0)), some (.inl x1), some (.inl x2), some (.inl (x1 / 10)), some (.inl ((sm_I M b_2 (x1).toNatClampNeg) &&& 15)), z5, z6, z7, z8, z9], [.inl 0], M)) sm_a185_32 rfl rfl (st_iconst (by decide)) ?_
    refine ru_go (t := (35, [some (.inr (some a0)), some (.inl x1), some (.inl x2), some (.inl (x1 / 10)), some (.inl ((sm_I M b_2 (x1).toNatClampNeg) &&& 15)), some (.inl 0), z6, z7, z8, z9], [], M)) sm_a185_33 rfl rfl rfl ?_
    refine ru_go (t := (36, [some (.inr (some a0)), some (.inl x1), some (.inl x2), some (.inl (x1 / 10)), some (.inl ((sm_I M b_2 (x1).toNatClampNeg) &&& 15)), some (.inl 0), z6, z7, z8, z9], [.inl 0], M)) sm_a185_35 rfl rfl (st_iconst (by decide)) ?_
    refine ru_go (t := (38, [some (.inr (some a0)), some (.inl x1), some (.inl x2), some (.inl (x1 / 10)), some (.inl ((sm_I M b_2 (x1).toNatClampNeg) &&& 15)), some (.inl 0), some (.inl 0), z7, z8, z9], [], M)) sm_a185_36 rfl rfl rfl ?_
    refine ru_go (t := (40, [some (.inr (some a0)), some (.inl x1), some (.inl x2), some (.inl (x1 / 10)), some (.inl ((sm_I M b_2 (x1).toNatClampNeg) &&& 15)), some (.inl 0), some (.inl 0), z7, z8, z9], [.inl 0], M)) sm_a185_38 rfl rfl rfl ?_
    refine ru_if (pc := 40) (p := 58) (p2 := 43) sm_a185_40 (by decide) rfl ⟨fun _ => ?_, fun hc => absurd (show sm_cP .eq 0 0 from (by show (0 : Int32) = 0; decide)) hc⟩
    refine ru_go (t := (59, [some (.inr (some a0)), some (.inl x1), some (.inl x2), some (.inl (x1 / 10)), some (.inl ((sm_I M b_2 (x1).toNatClampNeg) &&& 15)), some (.inl 0), some (.inl 0), z7, z8, z9], [.inr (some a0)], M)) sm_a185_58 rfl rfl rfl ?_
    refine ru_go (t := (62, [some (.inr (some a0)), some (.inl x1), some (.inl x2), some (.inl (x1 / 10)), some (.inl ((sm_I M b_2 (x1).toNatClampNeg) &&& 15)), some (.inl 0), some (.inl 0), z7, z8, z9], [.inr (sm_R M a0 64)], M)) sm_a185_59 rfl rfl (st_getR h_1 rfl rfl) ?_
    refine ru_go (t := (63, [some (.inr (some a0)), some (.inl x1), some (.inl x2), some (.inl (x1 / 10)), some (.inl ((sm_I M b_2 (x1).toNatClampNeg) &&& 15)), some (.inl 0), some (.inl 0), z7, z8, z9], [.inl x1, .inr (sm_R M a0 64)], M)) sm_a185_62 rfl rfl rfl ?_
    obtain ⟨b_11, hb_12, h⟩ := h
    rw [hb_12]
    obtain ⟨h_13, h⟩ := h
    obtain ⟨h_14, h⟩ := h
    refine ru_go (t := (64, [some (.inr (some a0)), some (.inl x1), some (.inl x2), some (.inl (x1 / 10)), some (.inl ((sm_I M b_2 (x1).toNatClampNeg) &&& 15)), some (.inl 0), some (.inl 0), z7, z8, z9], [.inl (sm_I M b_11 (x1).toNatClampNeg)], M)) sm_a185_63 rfl rfl (st_iald h_13 h_14) ?_
    refine ru_go (t := (65, [some (.inr (some a0)), some (.inl x1), some (.inl x2), some (.inl (x1 / 10)), some (.inl ((sm_I M b_2 (x1).toNatClampNeg) &&& 15)), some (.inl 0), some (.inl 0), z7, z8, z9], [.inr (some a0), .inl (sm_I M b_11 (x1).toNatClampNeg)], M)) sm_a185_64 rfl rfl rfl ?_
    refine ru_go (t := (68, [some (.inr (some a0)), some (.inl x1), some (.inl x2), some (.inl (x1 / 10)), some (.inl ((sm_I M b_2 (x1).toNatClampNeg) &&& 15)), some (.inl 0), some (.inl 0), z7, z8, z9], [.inr (sm_R M a0 75), .inl (sm_I M b_11 (x1).toNatClampNeg)], M)) sm_a185_65 rfl rfl (st_getR h_1 rfl rfl) ?_
    refine ru_go (t := (69, [some (.inr (some a0)), some (.inl x1), some (.inl x2), some (.inl (x1 / 10)), some (.inl ((sm_I M b_2 (x1).toNatClampNeg) &&& 15)), some (.inl 0), some (.inl 0), z7, z8, z9], [.inl x2, .inr (sm_R M a0 75), .inl (sm_I M b_11 (x1).toNatClampNeg)], M)) sm_a185_68 rfl rfl rfl ?_
    obtain ⟨b_15, hb_16, h⟩ := h
    rw [hb_16]
    obtain ⟨h_17, h⟩ := h
    obtain ⟨h_18, h⟩ := h
    refine ru_go (t := (70, [some (.inr (some a0)), some (.inl x1), some (.inl x2), some (.inl (x1 / 10)), some (.inl ((sm_I M b_2 (x1).toNatClampNeg) &&& 15)), some (.inl 0), some (.inl 0), z7, z8, z9], [.inl (sm_I M b_15 (x2).toNatClampNeg), .inl (sm_I M b_11 (x1).toNatClampNeg)], M)) sm_a185_69 rfl rfl (st_iald h_17 h_18) ?_
    refine ru_go (t := (71, [some (.inr (some a0)), some (.inl x1), some (.inl x2), some (.inl (x1 / 10)), some (.inl ((sm_I M b_2 (x1).toNatClampNeg) &&& 15)), some (.inl 0), some (.inl 0), z7, z8, z9], [.inr (some a0), .inl (sm_I M b_15 (x2).toNatClampNeg), .inl (sm_I M b_11 (x1).toNatClampNeg)], M)) sm_a185_70 rfl rfl rfl ?_
    refine ru_go (t := (74, [some (.inr (some a0)), some (.inl x1), some (.inl x2), some (.inl (x1 / 10)), some (.inl ((sm_I M b_2 (x1).toNatClampNeg) &&& 15)), some (.inl 0), some (.inl 0), z7, z8, z9], [.inr (sm_R M a0 74), .inl (sm_I M b_15 (x2).toNatClampNeg), .inl (sm_I M b_11 (x1).toNatClampNeg)], M)) sm_a185_71 rfl rfl (st_getR h_1 rfl rfl) ?_
    refine ru_go (t := (75, [some (.inr (some a0)), some (.inl x1), some (.inl x2), some (.inl (x1 / 10)), some (.inl ((sm_I M b_2 (x1).toNatClampNeg) &&& 15)), some (.inl 0), some (.inl 0), z7, z8, z9], [.inl x2, .inr (sm_R M a0 74), .inl (sm_I M b_15 (x2).toNatClampNeg), .inl (sm_I M b_11 (x1).toNatClampNeg)], M)) sm_a185_74 rfl rfl rfl ?_
    obtain ⟨b_19, hb_20, h⟩ := h
    rw [hb_20]
    obtain ⟨h_21, h⟩ := h
    obtain ⟨h_22, h⟩ := h
    refine ru_go (t := (76, [some (.inr (some a0)), some (.inl x1), some (.inl x2), some (.inl (x1 / 10)), some (.inl ((sm_I M b_2 (x1).toNatClampNeg) &&& 15)), some (.inl 0), some (.inl 0), z7, z8, z9], [.inl (sm_I M b_19 (x2).toNatClampNeg), .inl (sm_I M b_15 (x2).toNatClampNeg), .inl (sm_I M b_11 (x1).toNatClampNeg)], M)) sm_a185_75 rfl rfl (st_iald h_21 h_22) ?_
    refine ru_go (t := (77, [some (.inr (some a0)), some (.inl x1), some (.inl x2), some (.inl (x1 / 10)), some (.inl ((sm_I M b_2 (x1).toNatClampNeg) &&& 15)), some (.inl 0), some (.inl 0), z7, z8, z9], [.inl ((sm_I M b_15 (x2).toNatClampNeg) - (sm_I M b_19 (x2).toNatClampNeg)), .inl (sm_I M b_11 (x1).toNatClampNeg)], M)) sm_a185_76 rfl rfl rfl ?_
    refine ru_go (t := (80, [some (.inr (some a0)), some (.inl x1), some (.inl x2), some (.inl (x1 / 10)), some (.inl ((sm_I M b_2 (x1).toNatClampNeg) &&& 15)), some (.inl 0), some (.inl 0), z7, z8, z9], [.inl (if (sm_I M b_15 (x2).toNatClampNeg) - (sm_I M b_19 (x2).toNatClampNeg) < sm_I M b_11 (x1).toNatClampNeg then (sm_I M b_15 (x2).toNatClampNeg) - (sm_I M b_19 (x2).toNatClampNeg) else sm_I M b_11 (x1).toNatClampNeg)], M)) sm_a185_77 rfl rfl (st_min (Nat.le_of_ble_eq_true rfl)) ?_
    refine ru_go (t := (82, [some (.inr (some a0)), some (.inl x1), some (.inl x2), some (.inl (x1 / 10)), some (.inl ((sm_I M b_2 (x1).toNatClampNeg) &&& 15)), some (.inl 0), some (.inl (if (sm_I M b_15 (x2).toNatClampNeg) - (sm_I M b_19 (x2).toNatClampNeg) < sm_I M b_11 (x1).toNatClampNeg then (sm_I M b_15 (x2).toNatClampNeg) - (sm_I M b_19 (x2).toNatClampNeg) else sm_I M b_11 (x1).toNatClampNeg)), z7, z8, z9], [], M)) sm_a185_80 rfl rfl rfl ?_
    refine ru_go (t := (83, [some (.inr (some a0)), some (.inl x1), some (.inl x2), some (.inl (x1 / 10)), some (.inl ((sm_I M b_2 (x1).toNatClampNeg) &&& 15)), some (.inl 0), some (.inl (if (sm_I M b_15 (x2).toNatClampNeg) - (sm_I M b_19 (x2).toNatClampNeg) < sm_I M b_11 (x1).toNatClampNeg then (sm_I M b_15 (x2).toNatClampNeg) - (sm_I M b_19 (x2).toNatClampNeg) else sm_I M b_11 (x1).toNatClampNeg)), z7, z8, z9], [.inl 0], M)) sm_a185_82 rfl rfl (st_iconst (by decide)) ?_
    refine ru_go (t := (85, [some (.inr (some a0)), some (.inl x1), some (.inl x2), some (.inl (x1 / 10)), some (.inl ((sm_I M b_2 (x1).toNatClampNeg) &&& 15)), some (.inl 0), some (.inl (if (sm_I M b_15 (x2).toNatClampNeg) - (sm_I M b_19 (x2).toNatClampNeg) < sm_I M b_11 (x1).toNatClampNeg then (sm_I M b_15 (x2).toNatClampNeg) - (sm_I M b_19 (x2).toNatClampNeg) else sm_I M b_11 (x1).toNatClampNeg)), some (.inl 0), z8, z9], [], M)) sm_a185_83 rfl rfl rfl ?_
    exact h
  · have h := h.2 hc_10
    refine ru_go (t := (29, [some (.inr (some a0)), some (.inl x1), some (.inl x2), some (.inl (x1 / 10)), some (.inl ((sm_I M b_2 (x1).toNatClampNeg) &&& 15)), z5, z6, z7, z8, z9], [.inl 1], M)) sm_a185_28 rfl rfl (st_iconst (by decide)) ?_
    refine ru_go (t := (33, [some (.inr (some a0)), some (.inl x1), some (.inl x2), some (.inl (x1 / 10)), some (.inl ((sm_I M b_2 (x1).toNatClampNeg) &&& 15)), z5, z6, z7, z8, z9], [.inl 1], M)) sm_a185_29 rfl rfl (st_goto (pc := 29) (by decide)) ?_
    refine ru_go (t := (35, [some (.inr (some a0)), some (.inl x1), some (.inl x2), some (.inl (x1 / 10)), some (.inl ((sm_I M b_2 (x1).toNatClampNeg) &&& 15)), some (.inl 1), z6, z7, z8, z9], [], M)) sm_a185_33 rfl rfl rfl ?_
    refine ru_go (t := (36, [some (.inr (some a0)), some (.inl x1), some (.inl x2), some (.inl (x1 / 10)), some (.inl ((sm_I M b_2 (x1).toNatClampNeg) &&& 15)), some (.inl 1), z6, z7, z8, z9], [.inl 0], M)) sm_a185_35 rfl rfl (st_iconst (by decide)) ?_
    refine ru_go (t := (38, [some (.inr (some a0)), some (.inl x1), some (.inl x2), some (.inl (x1 / 10)), some (.inl ((sm_I M b_2 (x1).toNatClampNeg) &&& 15)), some (.inl 1), some (.inl 0), z7, z8, z9], [], M)) sm_a185_36 rfl rfl rfl ?_
    refine ru_go (t := (40, [some (.inr (some a0)), some (.inl x1), some (.inl x2), some (.inl (x1 / 10)), some (.inl ((sm_I M b_2 (x1).toNatClampNeg) &&& 15)), some (.inl 1), some (.inl 0), z7, z8, z9], [.inl 1], M)) sm_a185_38 rfl rfl rfl ?_
    refine ru_if (pc := 40) (p := 58) (p2 := 43) sm_a185_40 (by decide) rfl ⟨fun hc => absurd (show (1 : Int32) = 0 from hc) (by decide), fun _ => ?_⟩
    refine ru_go (t := (44, [some (.inr (some a0)), some (.inl x1), some (.inl x2), some (.inl (x1 / 10)), some (.inl ((sm_I M b_2 (x1).toNatClampNeg) &&& 15)), some (.inl 1), some (.inl 0), z7, z8, z9], [.inr (some a0)], M)) sm_a185_43 rfl rfl rfl ?_
    refine ru_go (t := (45, [some (.inr (some a0)), some (.inl x1), some (.inl x2), some (.inl (x1 / 10)), some (.inl ((sm_I M b_2 (x1).toNatClampNeg) &&& 15)), some (.inl 1), some (.inl 0), z7, z8, z9], [.inr (some a0), .inr (some a0)], M)) sm_a185_44 rfl rfl rfl ?_
    refine ru_go (t := (48, [some (.inr (some a0)), some (.inl x1), some (.inl x2), some (.inl (x1 / 10)), some (.inl ((sm_I M b_2 (x1).toNatClampNeg) &&& 15)), some (.inl 1), some (.inl 0), z7, z8, z9], [.inr (sm_R M a0 59), .inr (some a0)], M)) sm_a185_45 rfl rfl (st_getR h_1 rfl rfl) ?_
    refine ru_go (t := (49, [some (.inr (some a0)), some (.inl x1), some (.inl x2), some (.inl (x1 / 10)), some (.inl ((sm_I M b_2 (x1).toNatClampNeg) &&& 15)), some (.inl 1), some (.inl 0), z7, z8, z9], [.inl (x1 / 10), .inr (sm_R M a0 59), .inr (some a0)], M)) sm_a185_48 rfl rfl rfl ?_
    obtain ⟨b_23, hb_24, h⟩ := h
    rw [hb_24]
    obtain ⟨h_25, h⟩ := h
    obtain ⟨h_26, h⟩ := h
    refine ru_go (t := (50, [some (.inr (some a0)), some (.inl x1), some (.inl x2), some (.inl (x1 / 10)), some (.inl ((sm_I M b_2 (x1).toNatClampNeg) &&& 15)), some (.inl 1), some (.inl 0), z7, z8, z9], [.inl (sm_I M b_23 (x1 / 10).toNatClampNeg), .inr (some a0)], M)) sm_a185_49 rfl rfl (st_iald h_25 h_26) ?_
    refine ru_go (t := (52, [some (.inr (some a0)), some (.inl x1), some (.inl x2), some (.inl (x1 / 10)), some (.inl ((sm_I M b_2 (x1).toNatClampNeg) &&& 15)), some (.inl 1), some (.inl 0), z7, z8, z9], [.inl ((sm_I M b_2 (x1).toNatClampNeg) &&& 15), .inl (sm_I M b_23 (x1 / 10).toNatClampNeg), .inr (some a0)], M)) sm_a185_50 rfl rfl rfl ?_
    exact ru_call (p := 55) sm_a185_52 rfl (sc_virt (Or.inl rfl) rfl rfl h_1 (Nat.le_of_ble_eq_true rfl)) rfl h
theorem bb_185_55 {d : Nat} {M : sm_M} {Q : Option sm_V → sm_M → Prop} {a0 : Nat} {x1 : Int32} {x2 : Int32} {x3 : Int32} {x4 : Int32} {x5 : Int32} {x6 : Int32} {z7 : Option sm_V} {z8 : Option sm_V} {z9 : Option sm_V}
    (h : sm_Run (d + 1) 185 155 [some (.inr (some a0)), some (.inl x1), some (.inl x2), some (.inl x3), some (.inl x4), some (.inl x5), some (.inl x6), z7, z8, z9] [] M Q) :
    sm_Run (d + 1) 185 55 [some (.inr (some a0)), some (.inl x1), some (.inl x2), some (.inl x3), some (.inl x4), some (.inl x5), some (.inl x6), z7, z8, z9] [] M Q := by
  refine ru_go (t := (155, [some (.inr (some a0)), some (.inl x1), some (.inl x2), some (.inl x3), some (.inl x4), some (.inl x5), some (.inl x6), z7, z8, z9], [], M)) sm_a185_55 rfl rfl (st_goto (pc := 55) (by decide)) ?_
  exact h
theorem bb_185_85 {d : Nat} {M : sm_M} {Q : Option sm_V → sm_M → Prop} {a0 : Nat} {x1 : Int32} {x2 : Int32} {x3 : Int32} {x4 : Int32} {x5 : Int32} {x6 : Int32} {x7 : Int32} {z8 : Option sm_V} {z9 : Option sm_V}
    (h : ((x6 ≤ x7 → sm_K M a0 = 39 ∧ ∃ b_3, sm_R M a0 59 = some b_3 ∧ sm_iA M b_3 ∧ sm_in_ M b_3 x3 ∧ ∃ b_7, sm_R M a0 66 = some b_7 ∧ sm_iA M b_7 ∧ sm_in_ M b_7 x1 ∧ ((¬ (sm_I M b_7 (x1).toNatClampNeg) = 1 → sm_Run d 181 0 (sm_ent 181 [.inr (some a0), .inl 1, .inl (sm_I M b_3 (x3).toNatClampNeg), .inl x4, .inl 3, .inl x6]) [] M (fun v M1 => sm_Run (d + 1) 185 155 [some (.inr (some a0)), some (.inl x1), some (.inl x2), some (.inl x3), some (.inl x4), some (.inl x5), some (.inl x6), some (.inl x7), z8, z9] (v.toList ++ []) M1 Q)) ∧ (¬ (¬ (sm_I M b_7 (x1).toNatClampNeg) = 1) → sm_Run d 181 0 (sm_ent 181 [.inr (some a0), .inl 1, .inl (sm_I M b_3 (x3).toNatClampNeg), .inl x4, .inl 11, .inl x6]) [] M (fun v M1 => sm_Run (d + 1) 185 155 [some (.inr (some a0)), some (.inl x1), some (.inl x2), some (.inl x3), some (.inl x4), some (.inl x5), some (.inl x6), some (.inl x7), z8, z9] (v.toList ++ []) M1 Q)))) ∧ (¬ (x6 ≤ x7) → sm_K M a0 = 39 ∧ ∃ b_13, sm_R M a0 74 = some b_13 ∧ sm_iA M b_13 ∧ sm_in_ M b_13 x2 ∧ ∃ b_17, sm_R M a0 81 = some b_17 ∧ sm_iA M b_17 ∧ sm_in_ M b_17 (((100 * x2) + (sm_I M b_13 (x2).toNatClampNeg)) + x7) ∧ ∃ b_21, sm_R M a0 83 = some b_21 ∧ sm_wA 1 M b_21 ∧ sm_in_ M b_21 x7 ∧ sm_Run (d + 1) 185 85 [some (.inr (some a0)), some (.inl x1), some (.inl x2), some (.inl x3), some (.inl x4), some (.inl x5), some (.inl x6), some (.inl (x7 + 1)), z8, z9] [] (sm_putI M b_21 (x7).toNatClampNeg (sm_I M b_17 (((100 * x2) + (sm_I M b_13 (x2).toNatClampNeg)) + x7).toNatClampNeg)) Q))) :
    sm_Run (d + 1) 185 85 [some (.inr (some a0)), some (.inl x1), some (.inl x2), some (.inl x3), some (.inl x4), some (.inl x5), some (.inl x6), some (.inl x7), z8, z9] [] M Q := by
  refine ru_go (t := (87, [some (.inr (some a0)), some (.inl x1), some (.inl x2), some (.inl x3), some (.inl x4), some (.inl x5), some (.inl x6), some (.inl x7), z8, z9], [.inl x7], M)) sm_a185_85 rfl rfl rfl ?_
  refine ru_go (t := (89, [some (.inr (some a0)), some (.inl x1), some (.inl x2), some (.inl x3), some (.inl x4), some (.inl x5), some (.inl x6), some (.inl x7), z8, z9], [.inl x6, .inl x7], M)) sm_a185_87 rfl rfl rfl ?_
  refine ru_icmp (pc := 89) (p := 124) (p2 := 92) sm_a185_89 (by decide) rfl ⟨fun hc_1 => ?_, fun hc_1 => ?_⟩
  · have h := h.1 hc_1
    refine ru_go (t := (125, [some (.inr (some a0)), some (.inl x1), some (.inl x2), some (.inl x3), some (.inl x4), some (.inl x5), some (.inl x6), some (.inl x7), z8, z9], [.inr (some a0)], M)) sm_a185_124 rfl rfl rfl ?_
    refine ru_go (t := (126, [some (.inr (some a0)), some (.inl x1), some (.inl x2), some (.inl x3), some (.inl x4), some (.inl x5), some (.inl x6), some (.inl x7), z8, z9], [.inl 1, .inr (some a0)], M)) sm_a185_125 rfl rfl (st_iconst (by decide)) ?_
    refine ru_go (t := (127, [some (.inr (some a0)), some (.inl x1), some (.inl x2), some (.inl x3), some (.inl x4), some (.inl x5), some (.inl x6), some (.inl x7), z8, z9], [.inr (some a0), .inl 1, .inr (some a0)], M)) sm_a185_126 rfl rfl rfl ?_
    obtain ⟨h_2, h⟩ := h
    refine ru_go (t := (130, [some (.inr (some a0)), some (.inl x1), some (.inl x2), some (.inl x3), some (.inl x4), some (.inl x5), some (.inl x6), some (.inl x7), z8, z9], [.inr (sm_R M a0 59), .inl 1, .inr (some a0)], M)) sm_a185_127 rfl rfl (st_getR h_2 rfl rfl) ?_
    refine ru_go (t := (131, [some (.inr (some a0)), some (.inl x1), some (.inl x2), some (.inl x3), some (.inl x4), some (.inl x5), some (.inl x6), some (.inl x7), z8, z9], [.inl x3, .inr (sm_R M a0 59), .inl 1, .inr (some a0)], M)) sm_a185_130 rfl rfl rfl ?_
    obtain ⟨b_3, hb_4, h⟩ := h
    rw [hb_4]
    obtain ⟨h_5, h⟩ := h
    obtain ⟨h_6, h⟩ := h
    refine ru_go (t := (132, [some (.inr (some a0)), some (.inl x1), some (.inl x2), some (.inl x3), some (.inl x4), some (.inl x5), some (.inl x6), some (.inl x7), z8, z9], [.inl (sm_I M b_3 (x3).toNatClampNeg), .inl 1, .inr (some a0)], M)) sm_a185_131 rfl rfl (st_iald h_5 h_6) ?_
    refine ru_go (t := (134, [some (.inr (some a0)), some (.inl x1), some (.inl x2), some (.inl x3), some (.inl x4), some (.inl x5), some (.inl x6), some (.inl x7), z8, z9], [.inl x4, .inl (sm_I M b_3 (x3).toNatClampNeg), .inl 1, .inr (some a0)], M)) sm_a185_132 rfl rfl rfl ?_
    refine ru_go (t := (135, [some (.inr (some a0)), some (.inl x1), some (.inl x2), some (.inl x3), some (.inl x4), some (.inl x5), some (.inl x6), some (.inl x7), z8, z9], [.inr (some a0), .inl x4, .inl (sm_I M b_3 (x3).toNatClampNeg), .inl 1, .inr (some a0)], M)) sm_a185_134 rfl rfl rfl ?_
    refine ru_go (t := (138, [some (.inr (some a0)), some (.inl x1), some (.inl x2), some (.inl x3), some (.inl x4), some (.inl x5), some (.inl x6), some (.inl x7), z8, z9], [.inr (sm_R M a0 66), .inl x4, .inl (sm_I M b_3 (x3).toNatClampNeg), .inl 1, .inr (some a0)], M)) sm_a185_135 rfl rfl (st_getR h_2 rfl rfl) ?_
    refine ru_go (t := (139, [some (.inr (some a0)), some (.inl x1), some (.inl x2), some (.inl x3), some (.inl x4), some (.inl x5), some (.inl x6), some (.inl x7), z8, z9], [.inl x1, .inr (sm_R M a0 66), .inl x4, .inl (sm_I M b_3 (x3).toNatClampNeg), .inl 1, .inr (some a0)], M)) sm_a185_138 rfl rfl rfl ?_
    obtain ⟨b_7, hb_8, h⟩ := h
    rw [hb_8]
    obtain ⟨h_9, h⟩ := h
    obtain ⟨h_10, h⟩ := h
    refine ru_go (t := (140, [some (.inr (some a0)), some (.inl x1), some (.inl x2), some (.inl x3), some (.inl x4), some (.inl x5), some (.inl x6), some (.inl x7), z8, z9], [.inl (sm_I M b_7 (x1).toNatClampNeg), .inl x4, .inl (sm_I M b_3 (x3).toNatClampNeg), .inl 1, .inr (some a0)], M)) sm_a185_139 rfl rfl (st_iald h_9 h_10) ?_
    refine ru_go (t := (141, [some (.inr (some a0)), some (.inl x1), some (.inl x2), some (.inl x3), some (.inl x4), some (.inl x5), some (.inl x6), some (.inl x7), z8, z9], [.inl 1, .inl (sm_I M b_7 (x1).toNatClampNeg), .inl x4, .inl (sm_I M b_3 (x3).toNatClampNeg), .inl 1, .inr (some a0)], M)) sm_a185_140 rfl rfl (st_iconst (by decide)) ?_
    refine ru_icmp (pc := 141) (p := 149) (p2 := 144) sm_a185_141 (by decide) rfl ⟨fun hc_11 => ?_, fun hc_11 => ?_⟩
    · have h := h.1 hc_11
      refine ru_go (t := (150, [some (.inr (some a0)), some (.inl x1), some (.inl x2), some (.inl x3), some (.inl x4), some (.inl x5), some (.inl x6), some (.inl x7), z8, z9], [.inl 3, .inl x4, .inl (sm_I M b_3 (x3).toNatClampNeg), .inl 1, .inr (some a0)], M)) sm_a185_149 rfl rfl (st_iconst (by decide)) ?_
      refine ru_go (t := (152, [some (.inr (some a0)), some (.inl x1), some (.inl x2), some (.inl x3), some (.inl x4), some (.inl x5), some (.inl x6), some (.inl x7), z8, z9], [.inl x6, .inl 3, .inl x4, .inl (sm_I M b_3 (x3).toNatClampNeg), .inl 1, .inr (some a0)], M)) sm_a185_150 rfl rfl rfl ?_
      exact ru_call (p := 155) sm_a185_152 rfl (sc_virt (Or.inl rfl) rfl rfl h_2 (Nat.le_of_ble_eq_true rfl)) rfl h
    · have h := h.2 hc_11
      refine ru_go (t := (146, [some (.inr (some a0)), some (.inl x1), some (.inl x2), some (.inl x3), some (.inl x4), some (.inl x5), some (.inl x6), some (.inl x7), z8, z9], [.inl 11, .inl x4, .inl (sm_I M b_3 (x3).toNatClampNeg), .inl 1, .inr (some a0)], M)) sm_a185_144 rfl rfl (st_bipush (by decide)) ?_
      refine ru_go (t := (150, [some (.inr (some a0)), some (.inl x1), some (.inl x2), some (.inl x3), some (.inl x4), some (.inl x5), some (.inl x6), some (.inl x7), z8, z9], [.inl 11, .inl x4, .inl (sm_I M b_3 (x3).toNatClampNeg), .inl 1, .inr (some a0)], M)) sm_a185_146 rfl rfl (st_goto (pc := 146) (by decide)) ?_
      refine ru_go (t := (152, [some (.inr (some a0)), some (.inl x1), some (.inl x2), some (.inl x3), some (.inl x4), some (.inl x5), some (.inl x6), some (.inl x7), z8, z9], [.inl x6, .inl 11, .inl x4, .inl (sm_I M b_3 (x3).toNatClampNeg), .inl 1, .inr (some a0)], M)) sm_a185_150 rfl rfl rfl ?_
      exact ru_call (p := 155) sm_a185_152 rfl (sc_virt (Or.inl rfl) rfl rfl h_2 (Nat.le_of_ble_eq_true rfl)) rfl h
  · have h := h.2 hc_1
    refine ru_go (t := (93, [some (.inr (some a0)), some (.inl x1), some (.inl x2), some (.inl x3), some (.inl x4), some (.inl x5), some (.inl x6), some (.inl x7), z8, z9], [.inr (some a0)], M)) sm_a185_92 rfl rfl rfl ?_
    obtain ⟨h_12, h⟩ := h
    refine ru_go (t := (96, [some (.inr (some a0)), some (.inl x1), some (.inl x2), some (.inl x3), some (.inl x4), some (.inl x5), some (.inl x6), some (.inl x7), z8, z9], [.inr (sm_R M a0 83)], M)) sm_a185_93 rfl rfl (st_getR h_12 rfl rfl) ?_
    refine ru_go (t := (98, [some (.inr (some a0)), some (.inl x1), some (.inl x2), some (.inl x3), some (.inl x4), some (.inl x5), some (.inl x6), some (.inl x7), z8, z9], [.inl x7, .inr (sm_R M a0 83)], M)) sm_a185_96 rfl rfl rfl ?_
    refine ru_go (t := (99, [some (.inr (some a0)), some (.inl x1), some (.inl x2), some (.inl x3), some (.inl x4), some (.inl x5), some (.inl x6), some (.inl x7), z8, z9], [.inr (some a0), .inl x7, .inr (sm_R M a0 83)], M)) sm_a185_98 rfl rfl rfl ?_
    refine ru_go (t := (102, [some (.inr (some a0)), some (.inl x1), some (.inl x2), some (.inl x3), some (.inl x4), some (.inl x5), some (.inl x6), some (.inl x7), z8, z9], [.inr (sm_R M a0 81), .inl x7, .inr (sm_R M a0 83)], M)) sm_a185_99 rfl rfl (st_getR h_12 rfl rfl) ?_
    refine ru_go (t := (104, [some (.inr (some a0)), some (.inl x1), some (.inl x2), some (.inl x3), some (.inl x4), some (.inl x5), some (.inl x6), some (.inl x7), z8, z9], [.inl 100, .inr (sm_R M a0 81), .inl x7, .inr (sm_R M a0 83)], M)) sm_a185_102 rfl rfl (st_bipush (by decide)) ?_
    refine ru_go (t := (105, [some (.inr (some a0)), some (.inl x1), some (.inl x2), some (.inl x3), some (.inl x4), some (.inl x5), some (.inl x6), some (.inl x7), z8, z9], [.inl x2, .inl 100, .inr (sm_R M a0 81), .inl x7, .inr (sm_R M a0 83)], M)) sm_a185_104 rfl rfl rfl ?_
    refine ru_go (t := (106, [some (.inr (some a0)), some (.inl x1), some (.inl x2), some (.inl x3), some (.inl x4), some (.inl x5), some (.inl x6), some (.inl x7), z8, z9], [.inl (100 * x2), .inr (sm_R M a0 81), .inl x7, .inr (sm_R M a0 83)], M)) sm_a185_105 rfl rfl rfl ?_
    refine ru_go (t := (107, [some (.inr (some a0)), some (.inl x1), some (.inl x2), some (.inl x3), some (.inl x4), some (.inl x5), some (.inl x6), some (.inl x7), z8, z9], [.inr (some a0), .inl (100 * x2), .inr (sm_R M a0 81), .inl x7, .inr (sm_R M a0 83)], M)) sm_a185_106 rfl rfl rfl ?_
    refine ru_go (t := (110, [some (.inr (some a0)), some (.inl x1), some (.inl x2), some (.inl x3), some (.inl x4), some (.inl x5), some (.inl x6), some (.inl x7), z8, z9], [.inr (sm_R M a0 74), .inl (100 * x2), .inr (sm_R M a0 81), .inl x7, .inr (sm_R M a0 83)], M)) sm_a185_107 rfl rfl (st_getR h_12 rfl rfl) ?_
    refine ru_go (t := (111, [some (.inr (some a0)), some (.inl x1), some (.inl x2), some (.inl x3), some (.inl x4), some (.inl x5), some (.inl x6), some (.inl x7), z8, z9], [.inl x2, .inr (sm_R M a0 74), .inl (100 * x2), .inr (sm_R M a0 81), .inl x7, .inr (sm_R M a0 83)], M)) sm_a185_110 rfl rfl rfl ?_
    obtain ⟨b_13, hb_14, h⟩ := h
    rw [hb_14]
    obtain ⟨h_15, h⟩ := h
    obtain ⟨h_16, h⟩ := h
    refine ru_go (t := (112, [some (.inr (some a0)), some (.inl x1), some (.inl x2), some (.inl x3), some (.inl x4), some (.inl x5), some (.inl x6), some (.inl x7), z8, z9], [.inl (sm_I M b_13 (x2).toNatClampNeg), .inl (100 * x2), .inr (sm_R M a0 81), .inl x7, .inr (sm_R M a0 83)], M)) sm_a185_111 rfl rfl (st_iald h_15 h_16) ?_
    refine ru_go (t := (113, [some (.inr (some a0)), some (.inl x1), some (.inl x2), some (.inl x3), some (.inl x4), some (.inl x5), some (.inl x6), some (.inl x7), z8, z9], [.inl ((100 * x2) + (sm_I M b_13 (x2).toNatClampNeg)), .inr (sm_R M a0 81), .inl x7, .inr (sm_R M a0 83)], M)) sm_a185_112 rfl rfl rfl ?_
    refine ru_go (t := (115, [some (.inr (some a0)), some (.inl x1), some (.inl x2), some (.inl x3), some (.inl x4), some (.inl x5), some (.inl x6), some (.inl x7), z8, z9], [.inl x7, .inl ((100 * x2) + (sm_I M b_13 (x2).toNatClampNeg)), .inr (sm_R M a0 81), .inl x7, .inr (sm_R M a0 83)], M)) sm_a185_113 rfl rfl rfl ?_
    refine ru_go (t := (116, [some (.inr (some a0)), some (.inl x1), some (.inl x2), some (.inl x3), some (.inl x4), some (.inl x5), some (.inl x6), some (.inl x7), z8, z9], [.inl (((100 * x2) + (sm_I M b_13 (x2).toNatClampNeg)) + x7), .inr (sm_R M a0 81), .inl x7, .inr (sm_R M a0 83)], M)) sm_a185_115 rfl rfl rfl ?_
    obtain ⟨b_17, hb_18, h⟩ := h
    rw [hb_18]
    obtain ⟨h_19, h⟩ := h
    obtain ⟨h_20, h⟩ := h
    refine ru_go (t := (117, [some (.inr (some a0)), some (.inl x1), some (.inl x2), some (.inl x3), some (.inl x4), some (.inl x5), some (.inl x6), some (.inl x7), z8, z9], [.inl (sm_I M b_17 (((100 * x2) + (sm_I M b_13 (x2).toNatClampNeg)) + x7).toNatClampNeg), .inl x7, .inr (sm_R M a0 83)], M)) sm_a185_116 rfl rfl (st_iald h_19 h_20) ?_
    obtain ⟨b_21, hb_22, h⟩ := h
    rw [hb_22]
    obtain ⟨h_23, h⟩ := h
    obtain ⟨h_24, h⟩ := h
    refine ru_go (t := (118, [some (.inr (some a0)), some (.inl x1), some (.inl x2), some (.inl x3), some (.inl x4), some (.inl x5), some (.inl x6), some (.inl x7), z8, z9], [], sm_putI M b_21 (x7).toNatClampNeg (sm_I M b_17 (((100 * x2) + (sm_I M b_13 (x2).toNatClampNeg)) + x7).toNatClampNeg))) sm_a185_117 rfl rfl (st_iast h_23 h_24) ?_
    refine ru_go (t := (121, [some (.inr (some a0)), some (.inl x1), some (.inl x2), some (.inl x3), some (.inl x4), some (.inl x5), some (.inl x6), some (.inl (x7 + 1)), z8, z9], [], sm_putI M b_21 (x7).toNatClampNeg (sm_I M b_17 (((100 * x2) + (sm_I M b_13 (x2).toNatClampNeg)) + x7).toNatClampNeg))) sm_a185_118 rfl rfl (st_iinc rfl (by decide)) ?_
    refine ru_go (t := (85, [some (.inr (some a0)), some (.inl x1), some (.inl x2), some (.inl x3), some (.inl x4), some (.inl x5), some (.inl x6), some (.inl (x7 + 1)), z8, z9], [], sm_putI M b_21 (x7).toNatClampNeg (sm_I M b_17 (((100 * x2) + (sm_I M b_13 (x2).toNatClampNeg)) + x7).toNatClampNeg))) sm_a185_121 rfl rfl (st_goto (pc := 121) (by decide)) ?_
    exact h
theorem bb_185_155 {d : Nat} {M : sm_M} {Q : Option sm_V → sm_M → Prop} {a0 : Nat} {x1 : Int32} {x2 : Int32} {x3 : Int32} {x4 : Int32} {x5 : Int32} {x6 : Int32} {z7 : Option sm_V} {z8 : Option sm_V} {z9 : Option sm_V}
    (h : sm_K M a0 = 39 ∧ ((¬ (sm_I M a0 82) = 10 → ((x5 = 0 → ((¬ (sm_I M a0 82) = 2 → ((¬ (sm_I M a0 82) = 14 → sm_Run d 182 0 (sm_ent 182 [.inr (some a0), .inl x2]) [] M (fun v M1 => sm_Run (d + 1) 185 266 [some (.inr (some a0)), some (.inl x1), some (.inl x2), some (.inl x3), some (.inl x4), some (.inl x5), some (.inl x6), some (.inl 0), some (.inl 0), z9] (v.toList ++ []) M1 Q)) ∧ (¬ (¬ (sm_I M a0 82) = 14) → sm_Run (d + 1) 185 230 [some (.inr (some a0)), some (.inl x1), some (.inl x2), some (.inl x3), some (.inl x4), some (.inl x5), some (.inl x6), some (.inl 0), some (.inl 0), z9] [] M Q))) ∧ (¬ (¬ (sm_I M a0 82) = 2) → ((¬ (sm_I M a0 82) = 14 → ∃ b_7, sm_R M a0 76 = some b_7 ∧ sm_wA 1 M b_7 ∧ sm_in_ M b_7 x2 ∧ ∃ b_11, sm_R (sm_putI M b_7 (x2).toNatClampNeg 0) a0 74 = some b_11 ∧ sm_iA M b_11 ∧ sm_in_ M b_11 x2 ∧ sm_wA 1 M b_11 ∧ ∃ b_16, sm_R (sm_putI (sm_putI M b_7 (x2).toNatClampNeg 0) b_11 (x2).toNatClampNeg ((sm_I (sm_putI M b_7 (x2).toNatClampNeg 0) b_11 (x2).toNatClampNeg) + x6)) a0 66 = some b_16 ∧ sm_iA M b_16 ∧ sm_in_ M b_16 x1 ∧ sm_wA 1 M b_16 ∧ sm_Run (d + 1) 185 386 [some (.inr (some a0)), some (.inl x1), some (.inl x2), some (.inl x3), some (.inl x4), some (.inl x5), some (.inl x6), some (.inl 0), some (.inl 1), z9] [] (sm_putI (sm_putI (sm_putI M b_7 (x2).toNatClampNeg 0) b_11 (x2).toNatClampNeg ((sm_I (sm_putI M b_7 (x2).toNatClampNeg 0) b_11 (x2).toNatClampNeg) + x6)) b_16 (x1).toNatClampNeg (1 - (sm_I (sm_putI (sm_putI M b_7 (x2).toNatClampNeg 0) b_11 (x2).toNatClampNeg ((sm_I (sm_putI M b_7 (x2).toNatClampNeg 0) b_11 (x2).toNatClampNeg) + x6)) b_16 (x1).toNatClampNeg))) Q) ∧ (¬ (¬ (sm_I M a0 82) = 14) → sm_Run (d + 1) 185 230 [some (.inr (some a0)), some (.inl x1), some (.inl x2), some (.inl x3), some (.inl x4), some (.inl x5), some (.inl x6), some (.inl 0), some (.inl 1), z9] [] M Q))))) ∧ (¬ (x5 = 0) → (((sm_I M a0 82) = 3 → sm_Run (d + 1) 185 193 [some (.inr (some a0)), some (.inl x1), some (.inl x2), some (.inl x3), some (.inl x4), some (.inl x5), some (.inl x6), some (.inl 0), z8, z9] [] M Q) ∧ (¬ ((sm_I M a0 82) = 3) → ((¬ (sm_I M a0 82) = 11 → ((¬ (sm_I M a0 82) = 14 → sm_Run d 182 0 (sm_ent 182 [.inr (some a0), .inl x2]) [] M (fun v M1 => sm_Run (d + 1) 185 266 [some (.inr (some a0)), some (.inl x1), some (.inl x2), some (.inl x3), some (.inl x4), some (.inl x5), some (.inl x6), some (.inl 0), some (.inl 0), z9] (v.toList ++ []) M1 Q)) ∧ (¬ (¬ (sm_I M a0 82) = 14) → sm_Run (d + 1) 185 230 [some (.inr (some a0)), some (.inl x1), some (.inl x2), some (.inl x3), some (.inl x4), some (.inl x5), some (.inl x6), some (.inl 0), some (.inl 0), z9] [] M Q))) ∧ (¬ (¬ (sm_I M a0 82) = 11) → sm_Run (d + 1) 185 193 [some (.inr (some a0)), some (.inl x1), some (.inl x2), some (.inl x3), some (.inl x4), some (.inl x5), some (.inl x6), some (.inl 0), z8, z9] [] M Q))))))) ∧ (¬ (¬ (sm_I M a0 82) = 10) → ((x5 = 0 → ((¬ (sm_I M a0 82) = 2 → sm_Run (d + 1) 185 230 [some (.inr (some a0)), some (.inl x1), some (.inl x2), some (.inl x3), some (.inl x4), some (.inl x5), some (.inl x6), some (.inl 1), some (.inl 0), z9] [] M Q) ∧ (¬ (¬ (sm_I M a0 82) = 2) → sm_Run (d + 1) 185 230 [some (.inr (some a0)), some (.inl x1), some (.inl x2), some (.inl x3), some (.inl x4), some (.inl x5), some (.inl x6), some (.inl 1), some (.inl 1), z9] [] M Q))) ∧ (¬ (x5 = 0) → (((sm_I M a0 82) = 3 → sm_Run (d + 1) 185 193 [some (.inr (some a0)), some (.inl x1), some (.inl x2), some (.inl x3), some (.inl x4), some (.inl x5), some (.inl x6), some (.inl 1), z8, z9] [] M Q) ∧ (¬ ((sm_I M a0 82) = 3) → ((¬ (sm_I M a0 82) = 11 → sm_Run (d + 1) 185 230 [some (.inr (some a0)), some (.inl x1), some (.inl x2), some (.inl x3), some (.inl x4), some (.inl x5), some (.inl x6), some (.inl 1), some (.inl 0), z9] [] M Q) ∧ (¬ (¬ (sm_I M a0 82) = 11) → sm_Run (d + 1) 185 193 [some (.inr (some a0)), some (.inl x1), some (.inl x2), some (.inl x3), some (.inl x4), some (.inl x5), some (.inl x6), some (.inl 1), z8, z9] [] M Q))))))))) :
    sm_Run (d + 1) 185 155 [some (.inr (some a0)), some (.inl x1), some (.inl x2), some (.inl x3), some (.inl x4), some (.inl x5), some (.inl x6), z7, z8, z9] [] M Q := by
  refine ru_go (t := (156, [some (.inr (some a0)), some (.inl x1), some (.inl x2), some (.inl x3), some (.inl x4), some (.inl x5), some (.inl x6), z7, z8, z9], [.inr (some a0)], M)) sm_a185_155 rfl rfl rfl ?_
  obtain ⟨h_1, h⟩ := h
  refine ru_go (t := (159, [some (.inr (some a0)), some (.inl x1), some (.inl x2), some (.inl x3), some (.inl x4), some (.inl x5), some (.inl x6), z7, z8, z9], [.inl (sm_I M a0 82)], M)) sm_a185_156 rfl rfl (st_getI h_1 rfl) ?_
  refine ru_go (t := (161, [some (.inr (some a0)), some (.inl x1), some (.inl x2), some (.inl x3), some (.inl x4), some (.inl x5), some (.inl x6), z7, z8, z9], [.inl 10, .inl (sm_I M a0 82)], M)) sm_a185_159 rfl rfl (st_bipush (by decide)) ?_
  refine ru_icmp (pc := 161) (p := 168) (p2 := 164) sm_a185_161 (by decide) rfl ⟨fun hc_2 => ?_, fun hc_2 => ?_⟩
  · have h := h.1 hc_2
    refine ru_go (t := (169, [some (.inr (some a0)), some (.inl x1), some (.inl x2), some (.inl x3), some (.inl x4), some (.inl x5), some (.inl x6), z7, z8, z9], [.inl 0], M)) sm_a185_168 rfl rfl (st_iconst (by decide)) ?_
    refine ru_go (t := (171, [some (.inr (some a0)), some (.inl x1), some (.inl x2), some (.inl x3), some (.inl x4), some (.inl x5), some (.inl x6), some (.inl 0), z8, z9], [], M)) sm_a185_169 rfl rfl rfl ?_
    refine ru_go (t := (173, [some (.inr (some a0)), some (.inl x1), some (.inl x2), some (.inl x3), some (.inl x4), some (.inl x5), some (.inl x6), some (.inl 0), z8, z9], [.inl x5], M)) sm_a185_171 rfl rfl rfl ?_
    refine ru_if (pc := 173) (p := 201) (p2 := 176) sm_a185_173 (by decide) rfl ⟨fun hc_3 => ?_, fun hc_3 => ?_⟩
    · have h := h.1 hc_3
      refine ru_go (t := (202, [some (.inr (some a0)), some (.inl x1), some (.inl x2), some (.inl x3), some (.inl x4), some (.inl x5), some (.inl x6), some (.inl 0), z8, z9], [.inr (some a0)], M)) sm_a185_201 rfl rfl rfl ?_
      refine ru_go (t := (205, [some (.inr (some a0)), some (.inl x1), some (.inl x2), some (.inl x3), some (.inl x4), some (.inl x5), some (.inl x6), some (.inl 0), z8, z9], [.inl (sm_I M a0 82)], M)) sm_a185_202 rfl rfl (st_getI h_1 rfl) ?_
      refine ru_go (t := (206, [some (.inr (some a0)), some (.inl x1), some (.inl x2), some (.inl x3), some (.inl x4), some (.inl x5), some (.inl x6), some (.inl 0), z8, z9], [.inl 2, .inl (sm_I M a0 82)], M)) sm_a185_205 rfl rfl (st_iconst (by decide)) ?_
      refine ru_icmp (pc := 206) (p := 213) (p2 := 209) sm_a185_206 (by decide) rfl ⟨fun hc_4 => ?_, fun hc_4 => ?_⟩
      · have h := h.1 hc_4
        refine ru_go (t := (214, [some (.inr (some a0)), some (.inl x1), some (.inl x2), some (.inl x3), some (.inl x4), some (.inl x5), some (.inl x6), some (.inl 0), z8, z9], [.inl 0], M)) sm_a185_213 rfl rfl (st_iconst (by decide)) ?_
        refine ru_go (t := (216, [some (.inr (some a0)), some (.inl x1), some (.inl x2), some (.inl x3), some (.inl x4), some (.inl x5), some (.inl x6), some (.inl 0), some (.inl 0), z9], [], M)) sm_a185_214 rfl rfl rfl ?_
        refine ru_go (t := (218, [some (.inr (some a0)), some (.inl x1), some (.inl x2), some (.inl x3), some (.inl x4), some (.inl x5), some (.inl x6), some (.inl 0), some (.inl 0), z9], [.inl 0], M)) sm_a185_216 rfl rfl rfl ?_
        refine ru_if (pc := 218) (p := 230) (p2 := 221) sm_a185_218 (by decide) rfl ⟨fun hc => absurd (show ¬ (0 : Int32) = 0 from hc) (by decide), fun _ => ?_⟩
        refine ru_go (t := (222, [some (.inr (some a0)), some (.inl x1), some (.inl x2), some (.inl x3), some (.inl x4), some (.inl x5), some (.inl x6), some (.inl 0), some (.inl 0), z9], [.inr (some a0)], M)) sm_a185_221 rfl rfl rfl ?_
        refine ru_go (t := (225, [some (.inr (some a0)), some (.inl x1), some (.inl x2), some (.inl x3), some (.inl x4), some (.inl x5), some (.inl x6), some (.inl 0), some (.inl 0), z9], [.inl (sm_I M a0 82)], M)) sm_a185_222 rfl rfl (st_getI h_1 rfl) ?_
        refine ru_go (t := (227, [some (.inr (some a0)), some (.inl x1), some (.inl x2), some (.inl x3), some (.inl x4), some (.inl x5), some (.inl x6), some (.inl 0), some (.inl 0), z9], [.inl 14, .inl (sm_I M a0 82)], M)) sm_a185_225 rfl rfl (st_bipush (by decide)) ?_
        refine ru_icmp (pc := 227) (p := 256) (p2 := 230) sm_a185_227 (by decide) rfl ⟨fun hc_5 => ?_, fun hc_5 => ?_⟩
        · have h := h.1 hc_5
          refine ru_go (t := (258, [some (.inr (some a0)), some (.inl x1), some (.inl x2), some (.inl x3), some (.inl x4), some (.inl x5), some (.inl x6), some (.inl 0), some (.inl 0), z9], [.inl 0], M)) sm_a185_256 rfl rfl rfl ?_
          refine ru_if (pc := 258) (p := 269) (p2 := 261) sm_a185_258 (by decide) rfl ⟨fun hc => absurd (show ¬ (0 : Int32) = 0 from hc) (by decide), fun _ => ?_⟩
          refine ru_go (t := (262, [some (.inr (some a0)), some (.inl x1), some (.inl x2), some (.inl x3), some (.inl x4), some (.inl x5), some (.inl x6), some (.inl 0), some (.inl 0), z9], [.inr (some a0)], M)) sm_a185_261 rfl rfl rfl ?_
          refine ru_go (t := (263, [some (.inr (some a0)), some (.inl x1), some (.inl x2), some (.inl x3), some (.inl x4), some (.inl x5), some (.inl x6), some (.inl 0), some (.inl 0), z9], [.inl x2, .inr (some a0)], M)) sm_a185_262 rfl rfl rfl ?_
          exact ru_call (p := 266) sm_a185_263 rfl (sc_virt (Or.inl rfl) rfl rfl h_1 (Nat.le_of_ble_eq_true rfl)) rfl h
        · have h := h.2 hc_5
          exact h
      · have h := h.2 hc_4
        refine ru_go (t := (210, [some (.inr (some a0)), some (.inl x1), some (.inl x2), some (.inl x3), some (.inl x4), some (.inl x5), some (.inl x6), some (.inl 0), z8, z9], [.inl 1], M)) sm_a185_209 rfl rfl (st_iconst (by decide)) ?_
        refine ru_go (t := (214, [some (.inr (some a0)), some (.inl x1), some (.inl x2), some (.inl x3), some (.inl x4), some (.inl x5), some (.inl x6), some (.inl 0), z8, z9], [.inl 1], M)) sm_a185_210 rfl rfl (st_goto (pc := 210) (by decide)) ?_
        refine ru_go (t := (216, [some (.inr (some a0)), some (.inl x1), some (.inl x2), some (.inl x3), some (.inl x4), some (.inl x5), some (.inl x6), some (.inl 0), some (.inl 1), z9], [], M)) sm_a185_214 rfl rfl rfl ?_
        refine ru_go (t := (218, [some (.inr (some a0)), some (.inl x1), some (.inl x2), some (.inl x3), some (.inl x4), some (.inl x5), some (.inl x6), some (.inl 0), some (.inl 1), z9], [.inl 0], M)) sm_a185_216 rfl rfl rfl ?_
        refine ru_if (pc := 218) (p := 230) (p2 := 221) sm_a185_218 (by decide) rfl ⟨fun hc => absurd (show ¬ (0 : Int32) = 0 from hc) (by decide), fun _ => ?_⟩
        refine ru_go (t := (222, [some (.inr (some a0)), some (.inl x1), some (.inl x2), some (.inl x3), some (.inl x4), some (.inl x5), some (.inl x6), some (.inl 0), some (.inl 1), z9], [.inr (some a0)], M)) sm_a185_221 rfl rfl rfl ?_
        refine ru_go (t := (225, [some (.inr (some a0)), some (.inl x1), some (.inl x2), some (.inl x3), some (.inl x4), some (.inl x5), some (.inl x6), some (.inl 0), some (.inl 1), z9], [.inl (sm_I M a0 82)], M)) sm_a185_222 rfl rfl (st_getI h_1 rfl) ?_
        refine ru_go (t := (227, [some (.inr (some a0)), some (.inl x1), some (.inl x2), some (.inl x3), some (.inl x4), some (.inl x5), some (.inl x6), some (.inl 0), some (.inl 1), z9], [.inl 14, .inl (sm_I M a0 82)], M)) sm_a185_225 rfl rfl (st_bipush (by decide)) ?_
        refine ru_icmp (pc := 227) (p := 256) (p2 := 230) sm_a185_227 (by decide) rfl ⟨fun hc_6 => ?_, fun hc_6 => ?_⟩
        · have h := h.1 hc_6
          refine ru_go (t := (258, [some (.inr (some a0)), some (.inl x1), some (.inl x2), some (.inl x3), some (.inl x4), some (.inl x5), some (.inl x6), some (.inl 0), some (.inl 1), z9], [.inl 1], M)) sm_a185_256 rfl rfl rfl ?_
          refine ru_if (pc := 258) (p := 269) (p2 := 261) sm_a185_258 (by decide) rfl ⟨fun _ => ?_, fun hc => absurd (show sm_cP .ne 1 0 from (by show ¬ (1 : Int32) = 0; decide)) hc⟩
          refine ru_go (t := (271, [some (.inr (some a0)), some (.inl x1), some (.inl x2), some (.inl x3), some (.inl x4), some (.inl x5), some (.inl x6), some (.inl 0), some (.inl 1), z9], [.inl x5], M)) sm_a185_269 rfl rfl rfl ?_
          refine ru_if (pc := 271) (p := 354) (p2 := 274) sm_a185_271 (by decide) rfl ⟨fun _ => ?_, fun hc => absurd hc_3 hc⟩
          refine ru_go (t := (355, [some (.inr (some a0)), some (.inl x1), some (.inl x2), some (.inl x3), some (.inl x4), some (.inl x5), some (.inl x6), some (.inl 0), some (.inl 1), z9], [.inr (some a0)], M)) sm_a185_354 rfl rfl rfl ?_
          refine ru_go (t := (358, [some (.inr (some a0)), some (.inl x1), some (.inl x2), some (.inl x3), some (.inl x4), some (.inl x5), some (.inl x6), some (.inl 0), some (.inl 1), z9], [.inr (sm_R M a0 76)], M)) sm_a185_355 rfl rfl (st_getR h_1 rfl rfl) ?_
          refine ru_go (t := (359, [some (.inr (some a0)), some (.inl x1), some (.inl x2), some (.inl x3), some (.inl x4), some (.inl x5), some (.inl x6), some (.inl 0), some (.inl 1), z9], [.inl x2, .inr (sm_R M a0 76)], M)) sm_a185_358 rfl rfl rfl ?_
          refine ru_go (t := (360, [some (.inr (some a0)), some (.inl x1), some (.inl x2), some (.inl x3), some (.inl x4), some (.inl x5), some (.inl x6), some (.inl 0), some (.inl 1), z9], [.inl 0, .inl x2, .inr (sm_R M a0 76)], M)) sm_a185_359 rfl rfl (st_iconst (by decide)) ?_
          obtain ⟨b_7, hb_8, h⟩ := h
          rw [hb_8]
          obtain ⟨h_9, h⟩ := h
          obtain ⟨h_10, h⟩ := h
          refine ru_go (t := (361, [some (.inr (some a0)), some (.inl x1), some (.inl x2), some (.inl x3), some (.inl x4), some (.inl x5), some (.inl x6), some (.inl 0), some (.inl 1), z9], [], sm_putI M b_7 (x2).toNatClampNeg 0)) sm_a185_360 rfl rfl (st_iast h_9 h_10) ?_
          refine ru_go (t := (362, [some (.inr (some a0)), some (.inl x1), some (.inl x2), some (.inl x3), some (.inl x4), some (.inl x5), some (.inl x6), some (.inl 0), some (.inl 1), z9], [.inr (some a0)], sm_putI M b_7 (x2).toNatClampNeg 0)) sm_a185_361 rfl rfl rfl ?_
          refine ru_go (t := (365, [some (.inr (some a0)), some (.inl x1), some (.inl x2), some (.inl x3), some (.inl x4), some (.inl x5), some (.inl x6), some (.inl 0), some (.inl 1), z9], [.inr (sm_R (sm_putI M b_7 (x2).toNatClampNeg 0) a0 74)], sm_putI M b_7 (x2).toNatClampNeg 0)) sm_a185_362 rfl rfl (st_getR h_1 rfl rfl) ?_
          refine ru_go (t := (366, [some (.inr (some a0)), some (.inl x1), some (.inl x2), some (.inl x3), some (.inl x4), some (.inl x5), some (.inl x6), some (.inl 0), some (.inl 1), z9], [.inl x2, .inr (sm_R (sm_putI M b_7 (x2).toNatClampNeg 0) a0 74)], sm_putI M b_7 (x2).toNatClampNeg 0)) sm_a185_365 rfl rfl rfl ?_
          refine ru_go (t := (367, [some (.inr (some a0)), some (.inl x1), some (.inl x2), some (.inl x3), some (.inl x4), some (.inl x5), some (.inl x6), some (.inl 0), some (.inl 1), z9], [.inl x2, .inr (sm_R (sm_putI M b_7 (x2).toNatClampNeg 0) a0 74), .inl x2, .inr (sm_R (sm_putI M b_7 (x2).toNatClampNeg 0) a0 74)], sm_putI M b_7 (x2).toNatClampNeg 0)) sm_a185_366 rfl rfl rfl ?_
          obtain ⟨b_11, hb_12, h⟩ := h
          rw [hb_12]
          obtain ⟨h_13, h⟩ := h
          obtain ⟨h_14, h⟩ := h
          refine ru_go (t := (368, [some (.inr (some a0)), some (.inl x1), some (.inl x2), some (.inl x3), some (.inl x4), some (.inl x5), some (.inl x6), some (.inl 0), some (.inl 1), z9], [.inl (sm_I (sm_putI M b_7 (x2).toNatClampNeg 0) b_11 (x2).toNatClampNeg), .inl x2, .inr (some b_11)], sm_putI M b_7 (x2).toNatClampNeg 0)) sm_a185_367 rfl rfl (st_iald h_13 h_14) ?_
          refine ru_go (t := (370, [some (.inr (some a0)), some (.inl x1), some (.inl x2), some (.inl x3), some (.inl x4), some (.inl x5), some (.inl x6), some (.inl 0), some (.inl 1), z9], [.inl x6, .inl (sm_I (sm_putI M b_7 (x2).toNatClampNeg 0) b_11 (x2).toNatClampNeg), .inl x2, .inr (some b_11)], sm_putI M b_7 (x2).toNatClampNeg 0)) sm_a185_368 rfl rfl rfl ?_
          refine ru_go (t := (371, [some (.inr (some a0)), some (.inl x1), some (.inl x2), some (.inl x3), some (.inl x4), some (.inl x5), some (.inl x6), some (.inl 0), some (.inl 1), z9], [.inl ((sm_I (sm_putI M b_7 (x2).toNatClampNeg 0) b_11 (x2).toNatClampNeg) + x6), .inl x2, .inr (some b_11)], sm_putI M b_7 (x2).toNatClampNeg 0)) sm_a185_370 rfl rfl rfl ?_
          obtain ⟨h_15, h⟩ := h
          refine ru_go (t := (372, [some (.inr (some a0)), some (.inl x1), some (.inl x2), some (.inl x3), some (.inl x4), some (.inl x5), some (.inl x6), some (.inl 0), some (.inl 1), z9], [], sm_putI (sm_putI M b_7 (x2).toNatClampNeg 0) b_11 (x2).toNatClampNeg ((sm_I (sm_putI M b_7 (x2).toNatClampNeg 0) b_11 (x2).toNatClampNeg) + x6))) sm_a185_371 rfl rfl (st_iast h_15 h_14) ?_
          refine ru_go (t := (373, [some (.inr (some a0)), some (.inl x1), some (.inl x2), some (.inl x3), some (.inl x4), some (.inl x5), some (.inl x6), some (.inl 0), some (.inl 1), z9], [.inr (some a0)], sm_putI (sm_putI M b_7 (x2).toNatClampNeg 0) b_11 (x2).toNatClampNeg ((sm_I (sm_putI M b_7 (x2).toNatClampNeg 0) b_11 (x2).toNatClampNeg) + x6))) sm_a185_372 rfl rfl rfl ?_
          refine ru_go (t := (376, [some (.inr (some a0)), some (.inl x1), some (.inl x2), some (.inl x3), some (.inl x4), some (.inl x5), some (.inl x6), some (.inl 0), some (.inl 1), z9], [.inr (sm_R (sm_putI (sm_putI M b_7 (x2).toNatClampNeg 0) b_11 (x2).toNatClampNeg ((sm_I (sm_putI M b_7 (x2).toNatClampNeg 0) b_11 (x2).toNatClampNeg) + x6)) a0 66)], sm_putI (sm_putI M b_7 (x2).toNatClampNeg 0) b_11 (x2).toNatClampNeg ((sm_I (sm_putI M b_7 (x2).toNatClampNeg 0) b_11 (x2).toNatClampNeg) + x6))) sm_a185_373 rfl rfl (st_getR h_1 rfl rfl) ?_
          refine ru_go (t := (377, [some (.inr (some a0)), some (.inl x1), some (.inl x2), some (.inl x3), some (.inl x4), some (.inl x5), some (.inl x6), some (.inl 0), some (.inl 1), z9], [.inl x1, .inr (sm_R (sm_putI (sm_putI M b_7 (x2).toNatClampNeg 0) b_11 (x2).toNatClampNeg ((sm_I (sm_putI M b_7 (x2).toNatClampNeg 0) b_11 (x2).toNatClampNeg) + x6)) a0 66)], sm_putI (sm_putI M b_7 (x2).toNatClampNeg 0) b_11 (x2).toNatClampNeg ((sm_I (sm_putI M b_7 (x2).toNatClampNeg 0) b_11 (x2).toNatClampNeg) + x6))) sm_a185_376 rfl rfl rfl ?_
          refine ru_go (t := (378, [some (.inr (some a0)), some (.inl x1), some (.inl x2), some (.inl x3), some (.inl x4), some (.inl x5), some (.inl x6), some (.inl 0), some (.inl 1), z9], [.inl 1, .inl x1, .inr (sm_R (sm_putI (sm_putI M b_7 (x2).toNatClampNeg 0) b_11 (x2).toNatClampNeg ((sm_I (sm_putI M b_7 (x2).toNatClampNeg 0) b_11 (x2).toNatClampNeg) + x6)) a0 66)], sm_putI (sm_putI M b_7 (x2).toNatClampNeg 0) b_11 (x2).toNatClampNeg ((sm_I (sm_putI M b_7 (x2).toNatClampNeg 0) b_11 (x2).toNatClampNeg) + x6))) sm_a185_377 rfl rfl (st_iconst (by decide)) ?_
          refine ru_go (t := (379, [some (.inr (some a0)), some (.inl x1), some (.inl x2), some (.inl x3), some (.inl x4), some (.inl x5), some (.inl x6), some (.inl 0), some (.inl 1), z9], [.inr (some a0), .inl 1, .inl x1, .inr (sm_R (sm_putI (sm_putI M b_7 (x2).toNatClampNeg 0) b_11 (x2).toNatClampNeg ((sm_I (sm_putI M b_7 (x2).toNatClampNeg 0) b_11 (x2).toNatClampNeg) + x6)) a0 66)], sm_putI (sm_putI M b_7 (x2).toNatClampNeg 0) b_11 (x2).toNatClampNeg ((sm_I (sm_putI M b_7 (x2).toNatClampNeg 0) b_11 (x2).toNatClampNeg) + x6))) sm_a185_378 rfl rfl rfl ?_
          refine ru_go (t := (382, [some (.inr (some a0)), some (.inl x1), some (.inl x2), some (.inl x3), some (.inl x4), some (.inl x5), some (.inl x6), some (.inl 0), some (.inl 1), z9], [.inr (sm_R (sm_putI (sm_putI M b_7 (x2).toNatClampNeg 0) b_11 (x2).toNatClampNeg ((sm_I (sm_putI M b_7 (x2).toNatClampNeg 0) b_11 (x2).toNatClampNeg) + x6)) a0 66), .inl 1, .inl x1, .inr (sm_R (sm_putI (sm_putI M b_7 (x2).toNatClampNeg 0) b_11 (x2).toNatClampNeg ((sm_I (sm_putI M b_7 (x2).toNatClampNeg 0) b_11 (x2).toNatClampNeg) + x6)) a0 66)], sm_putI (sm_putI M b_7 (x2).toNatClampNeg 0) b_11 (x2).toNatClampNeg ((sm_I (sm_putI M b_7 (x2).toNatClampNeg 0) b_11 (x2).toNatClampNeg) + x6))) sm_a185_379 rfl rfl (st_getR h_1 rfl rfl) ?_
          refine ru_go (t := (383, [some (.inr (some a0)), some (.inl x1), some (.inl x2), some (.inl x3), some (.inl x4), some (.inl x5), some (.inl x6), some (.inl 0), some (.inl 1), z9], [.inl x1, .inr (sm_R (sm_putI (sm_putI M b_7 (x2).toNatClampNeg 0) b_11 (x2).toNatClampNeg ((sm_I (sm_putI M b_7 (x2).toNatClampNeg 0) b_11 (x2).toNatClampNeg) + x6)) a0 66), .inl 1, .inl x1, .inr (sm_R (sm_putI (sm_putI M b_7 (x2).toNatClampNeg 0) b_11 (x2).toNatClampNeg ((sm_I (sm_putI M b_7 (x2).toNatClampNeg 0) b_11 (x2).toNatClampNeg) + x6)) a0 66)], sm_putI (sm_putI M b_7 (x2).toNatClampNeg 0) b_11 (x2).toNatClampNeg ((sm_I (sm_putI M b_7 (x2).toNatClampNeg 0) b_11 (x2).toNatClampNeg) + x6))) sm_a185_382 rfl rfl rfl ?_
          obtain ⟨b_16, hb_17, h⟩ := h
          rw [hb_17]
          obtain ⟨h_18, h⟩ := h
          obtain ⟨h_19, h⟩ := h
          refine ru_go (t := (384, [some (.inr (some a0)), some (.inl x1), some (.inl x2), some (.inl x3), some (.inl x4), some (.inl x5), some (.inl x6), some (.inl 0), some (.inl 1), z9], [.inl (sm_I (sm_putI (sm_putI M b_7 (x2).toNatClampNeg 0) b_11 (x2).toNatClampNeg ((sm_I (sm_putI M b_7 (x2).toNatClampNeg 0) b_11 (x2).toNatClampNeg) + x6)) b_16 (x1).toNatClampNeg), .inl 1, .inl x1, .inr (some b_16)], sm_putI (sm_putI M b_7 (x2).toNatClampNeg 0) b_11 (x2).toNatClampNeg ((sm_I (sm_putI M b_7 (x2).toNatClampNeg 0) b_11 (x2).toNatClampNeg) + x6))) sm_a185_383 rfl rfl (st_iald h_18 h_19) ?_
          refine ru_go (t := (385, [some (.inr (some a0)), some (.inl x1), some (.inl x2), some (.inl x3), some (.inl x4), some (.inl x5), some (.inl x6), some (.inl 0), some (.inl 1), z9], [.inl (1 - (sm_I (sm_putI (sm_putI M b_7 (x2).toNatClampNeg 0) b_11 (x2).toNatClampNeg ((sm_I (sm_putI M b_7 (x2).toNatClampNeg 0) b_11 (x2).toNatClampNeg) + x6)) b_16 (x1).toNatClampNeg)), .inl x1, .inr (some b_16)], sm_putI (sm_putI M b_7 (x2).toNatClampNeg 0) b_11 (x2).toNatClampNeg ((sm_I (sm_putI M b_7 (x2).toNatClampNeg 0) b_11 (x2).toNatClampNeg) + x6))) sm_a185_384 rfl rfl rfl ?_
          obtain ⟨h_20, h⟩ := h
          refine ru_go (t := (386, [some (.inr (some a0)), some (.inl x1), some (.inl x2), some (.inl x3), some (.inl x4), some (.inl x5), some (.inl x6), some (.inl 0), some (.inl 1), z9], [], sm_putI (sm_putI (sm_putI M b_7 (x2).toNatClampNeg 0) b_11 (x2).toNatClampNeg ((sm_I (sm_putI M b_7 (x2).toNatClampNeg 0) b_11 (x2).toNatClampNeg) + x6)) b_16 (x1).toNatClampNeg (1 - (sm_I (sm_putI (sm_putI M b_7 (x2).toNatClampNeg 0) b_11 (x2).toNatClampNeg ((sm_I (sm_putI M b_7 (x2).toNatClampNeg 0) b_11 (x2).toNatClampNeg) + x6)) b_16 (x1).toNatClampNeg)))) sm_a185_385 rfl rfl (st_iast h_20 h_19) ?_
          exact h
        · have h := h.2 hc_6
          exact h
    · have h := h.2 hc_3
      refine ru_go (t := (177, [some (.inr (some a0)), some (.inl x1), some (.inl x2), some (.inl x3), some (.inl x4), some (.inl x5), some (.inl x6), some (.inl 0), z8, z9], [.inr (some a0)], M)) sm_a185_176 rfl rfl rfl ?_
      refine ru_go (t := (180, [some (.inr (some a0)), some (.inl x1), some (.inl x2), some (.inl x3), some (.inl x4), some (.inl x5), some (.inl x6), some (.inl 0), z8, z9], [.inl (sm_I M a0 82)], M)) sm_a185_177 rfl rfl (st_getI h_1 rfl) ?_
      refine ru_go (t := (181, [some (.inr (some a0)), some (.inl x1), some (.inl x2), some (.inl x3), some (.inl x4), some (.inl x5), some (.inl x6), some (.inl 0), z8, z9], [.inl 3, .inl (sm_I M a0 82)], M)) sm_a185_180 rfl rfl (st_iconst (by decide)) ?_
      refine ru_icmp (pc := 181) (p := 193) (p2 := 184) sm_a185_181 (by decide) rfl ⟨fun hc_21 => ?_, fun hc_21 => ?_⟩
      · have h := h.1 hc_21
        exact h
      · have h := h.2 hc_21
        refine ru_go (t := (185, [some (.inr (some a0)), some (.inl x1), some (.inl x2), some (.inl x3), some (.inl x4), some (.inl x5), some (.inl x6), some (.inl 0), z8, z9], [.inr (some a0)], M)) sm_a185_184 rfl rfl rfl ?_
        refine ru_go (t := (188, [some (.inr (some a0)), some (.inl x1), some (.inl x2), some (.inl x3), some (.inl x4), some (.inl x5), some (.inl x6), some (.inl 0), z8, z9], [.inl (sm_I M a0 82)], M)) sm_a185_185 rfl rfl (st_getI h_1 rfl) ?_
        refine ru_go (t := (190, [some (.inr (some a0)), some (.inl x1), some (.inl x2), some (.inl x3), some (.inl x4), some (.inl x5), some (.inl x6), some (.inl 0), z8, z9], [.inl 11, .inl (sm_I M a0 82)], M)) sm_a185_188 rfl rfl (st_bipush (by decide)) ?_
        refine ru_icmp (pc := 190) (p := 197) (p2 := 193) sm_a185_190 (by decide) rfl ⟨fun hc_22 => ?_, fun hc_22 => ?_⟩
        · have h := h.1 hc_22
          refine ru_go (t := (198, [some (.inr (some a0)), some (.inl x1), some (.inl x2), some (.inl x3), some (.inl x4), some (.inl x5), some (.inl x6), some (.inl 0), z8, z9], [.inl 0], M)) sm_a185_197 rfl rfl (st_iconst (by decide)) ?_
          refine ru_go (t := (214, [some (.inr (some a0)), some (.inl x1), some (.inl x2), some (.inl x3), some (.inl x4), some (.inl x5), some (.inl x6), some (.inl 0), z8, z9], [.inl 0], M)) sm_a185_198 rfl rfl (st_goto (pc := 198) (by decide)) ?_
          refine ru_go (t := (216, [some (.inr (some a0)), some (.inl x1), some (.inl x2), some (.inl x3), some (.inl x4), some (.inl x5), some (.inl x6), some (.inl 0), some (.inl 0), z9], [], M)) sm_a185_214 rfl rfl rfl ?_
          refine ru_go (t := (218, [some (.inr (some a0)), some (.inl x1), some (.inl x2), some (.inl x3), some (.inl x4), some (.inl x5), some (.inl x6), some (.inl 0), some (.inl 0), z9], [.inl 0], M)) sm_a185_216 rfl rfl rfl ?_
          refine ru_if (pc := 218) (p := 230) (p2 := 221) sm_a185_218 (by decide) rfl ⟨fun hc => absurd (show ¬ (0 : Int32) = 0 from hc) (by decide), fun _ => ?_⟩
          refine ru_go (t := (222, [some (.inr (some a0)), some (.inl x1), some (.inl x2), some (.inl x3), some (.inl x4), some (.inl x5), some (.inl x6), some (.inl 0), some (.inl 0), z9], [.inr (some a0)], M)) sm_a185_221 rfl rfl rfl ?_
          refine ru_go (t := (225, [some (.inr (some a0)), some (.inl x1), some (.inl x2), some (.inl x3), some (.inl x4), some (.inl x5), some (.inl x6), some (.inl 0), some (.inl 0), z9], [.inl (sm_I M a0 82)], M)) sm_a185_222 rfl rfl (st_getI h_1 rfl) ?_
          refine ru_go (t := (227, [some (.inr (some a0)), some (.inl x1), some (.inl x2), some (.inl x3), some (.inl x4), some (.inl x5), some (.inl x6), some (.inl 0), some (.inl 0), z9], [.inl 14, .inl (sm_I M a0 82)], M)) sm_a185_225 rfl rfl (st_bipush (by decide)) ?_
          refine ru_icmp (pc := 227) (p := 256) (p2 := 230) sm_a185_227 (by decide) rfl ⟨fun hc_23 => ?_, fun hc_23 => ?_⟩
          · have h := h.1 hc_23
            refine ru_go (t := (258, [some (.inr (some a0)), some (.inl x1), some (.inl x2), some (.inl x3), some (.inl x4), some (.inl x5), some (.inl x6), some (.inl 0), some (.inl 0), z9], [.inl 0], M)) sm_a185_256 rfl rfl rfl ?_
            refine ru_if (pc := 258) (p := 269) (p2 := 261) sm_a185_258 (by decide) rfl ⟨fun hc => absurd (show ¬ (0 : Int32) = 0 from hc) (by decide), fun _ => ?_⟩
            refine ru_go (t := (262, [some (.inr (some a0)), some (.inl x1), some (.inl x2), some (.inl x3), some (.inl x4), some (.inl x5), some (.inl x6), some (.inl 0), some (.inl 0), z9], [.inr (some a0)], M)) sm_a185_261 rfl rfl rfl ?_
            refine ru_go (t := (263, [some (.inr (some a0)), some (.inl x1), some (.inl x2), some (.inl x3), some (.inl x4), some (.inl x5), some (.inl x6), some (.inl 0), some (.inl 0), z9], [.inl x2, .inr (some a0)], M)) sm_a185_262 rfl rfl rfl ?_
            exact ru_call (p := 266) sm_a185_263 rfl (sc_virt (Or.inl rfl) rfl rfl h_1 (Nat.le_of_ble_eq_true rfl)) rfl h
          · have h := h.2 hc_23
            exact h
        · have h := h.2 hc_22
          exact h
  · have h := h.2 hc_2
    refine ru_go (t := (165, [some (.inr (some a0)), some (.inl x1), some (.inl x2), some (.inl x3), some (.inl x4), some (.inl x5), some (.inl x6), z7, z8, z9], [.inl 1], M)) sm_a185_164 rfl rfl (st_iconst (by decide)) ?_
    refine ru_go (t := (169, [some (.inr (some a0)), some (.inl x1), some (.inl x2), some (.inl x3), some (.inl x4), some (.inl x5), some (.inl x6), z7, z8, z9], [.inl 1], M)) sm_a185_165 rfl rfl (st_goto (pc := 165) (by decide)) ?_
    refine ru_go (t := (171, [some (.inr (some a0)), some (.inl x1), some (.inl x2), some (.inl x3), some (.inl x4), some (.inl x5), some (.inl x6), some (.inl 1), z8, z9], [], M)) sm_a185_169 rfl rfl rfl ?_
    refine ru_go (t := (173, [some (.inr (some a0)), some (.inl x1), some (.inl x2), some (.inl x3), some (.inl x4), some (.inl x5), some (.inl x6), some (.inl 1), z8, z9], [.inl x5], M)) sm_a185_171 rfl rfl rfl ?_
    refine ru_if (pc := 173) (p := 201) (p2 := 176) sm_a185_173 (by decide) rfl ⟨fun hc_24 => ?_, fun hc_24 => ?_⟩
    · have h := h.1 hc_24
      refine ru_go (t := (202, [some (.inr (some a0)), some (.inl x1), some (.inl x2), some (.inl x3), some (.inl x4), some (.inl x5), some (.inl x6), some (.inl 1), z8, z9], [.inr (some a0)], M)) sm_a185_201 rfl rfl rfl ?_
      refine ru_go (t := (205, [some (.inr (some a0)), some (.inl x1), some (.inl x2), some (.inl x3), some (.inl x4), some (.inl x5), some (.inl x6), some (.inl 1), z8, z9], [.inl (sm_I M a0 82)], M)) sm_a185_202 rfl rfl (st_getI h_1 rfl) ?_
      refine ru_go (t := (206, [some (.inr (some a0)), some (.inl x1), some (.inl x2), some (.inl x3), some (.inl x4), some (.inl x5), some (.inl x6), some (.inl 1), z8, z9], [.inl 2, .inl (sm_I M a0 82)], M)) sm_a185_205 rfl rfl (st_iconst (by decide)) ?_
      refine ru_icmp (pc := 206) (p := 213) (p2 := 209) sm_a185_206 (by decide) rfl ⟨fun hc_25 => ?_, fun hc_25 => ?_⟩
      · have h := h.1 hc_25
        refine ru_go (t := (214, [some (.inr (some a0)), some (.inl x1), some (.inl x2), some (.inl x3), some (.inl x4), some (.inl x5), some (.inl x6), some (.inl 1), z8, z9], [.inl 0], M)) sm_a185_213 rfl rfl (st_iconst (by decide)) ?_
        refine ru_go (t := (216, [some (.inr (some a0)), some (.inl x1), some (.inl x2), some (.inl x3), some (.inl x4), some (.inl x5), some (.inl x6), some (.inl 1), some (.inl 0), z9], [], M)) sm_a185_214 rfl rfl rfl ?_
        refine ru_go (t := (218, [some (.inr (some a0)), some (.inl x1), some (.inl x2), some (.inl x3), some (.inl x4), some (.inl x5), some (.inl x6), some (.inl 1), some (.inl 0), z9], [.inl 1], M)) sm_a185_216 rfl rfl rfl ?_
        refine ru_if (pc := 218) (p := 230) (p2 := 221) sm_a185_218 (by decide) rfl ⟨fun _ => ?_, fun hc => absurd (show sm_cP .ne 1 0 from (by show ¬ (1 : Int32) = 0; decide)) hc⟩
        exact h
      · have h := h.2 hc_25
        refine ru_go (t := (210, [some (.inr (some a0)), some (.inl x1), some (.inl x2), some (.inl x3), some (.inl x4), some (.inl x5), some (.inl x6), some (.inl 1), z8, z9], [.inl 1], M)) sm_a185_209 rfl rfl (st_iconst (by decide)) ?_
        refine ru_go (t := (214, [some (.inr (some a0)), some (.inl x1), some (.inl x2), some (.inl x3), some (.inl x4), some (.inl x5), some (.inl x6), some (.inl 1), z8, z9], [.inl 1], M)) sm_a185_210 rfl rfl (st_goto (pc := 210) (by decide)) ?_
        refine ru_go (t := (216, [some (.inr (some a0)), some (.inl x1), some (.inl x2), some (.inl x3), some (.inl x4), some (.inl x5), some (.inl x6), some (.inl 1), some (.inl 1), z9], [], M)) sm_a185_214 rfl rfl rfl ?_
        refine ru_go (t := (218, [some (.inr (some a0)), some (.inl x1), some (.inl x2), some (.inl x3), some (.inl x4), some (.inl x5), some (.inl x6), some (.inl 1), some (.inl 1), z9], [.inl 1], M)) sm_a185_216 rfl rfl rfl ?_
        refine ru_if (pc := 218) (p := 230) (p2 := 221) sm_a185_218 (by decide) rfl ⟨fun _ => ?_, fun hc => absurd (show sm_cP .ne 1 0 from (by show ¬ (1 : Int32) = 0; decide)) hc⟩
        exact h
    · have h := h.2 hc_24
      refine ru_go (t := (177, [some (.inr (some a0)), some (.inl x1), some (.inl x2), some (.inl x3), some (.inl x4), some (.inl x5), some (.inl x6), some (.inl 1), z8, z9], [.inr (some a0)], M)) sm_a185_176 rfl rfl rfl ?_
      refine ru_go (t := (180, [some (.inr (some a0)), some (.inl x1), some (.inl x2), some (.inl x3), some (.inl x4), some (.inl x5), some (.inl x6), some (.inl 1), z8, z9], [.inl (sm_I M a0 82)], M)) sm_a185_177 rfl rfl (st_getI h_1 rfl) ?_
      refine ru_go (t := (181, [some (.inr (some a0)), some (.inl x1), some (.inl x2), some (.inl x3), some (.inl x4), some (.inl x5), some (.inl x6), some (.inl 1), z8, z9], [.inl 3, .inl (sm_I M a0 82)], M)) sm_a185_180 rfl rfl (st_iconst (by decide)) ?_
      refine ru_icmp (pc := 181) (p := 193) (p2 := 184) sm_a185_181 (by decide) rfl ⟨fun hc_26 => ?_, fun hc_26 => ?_⟩
      · have h := h.1 hc_26
        exact h
      · have h := h.2 hc_26
        refine ru_go (t := (185, [some (.inr (some a0)), some (.inl x1), some (.inl x2), some (.inl x3), some (.inl x4), some (.inl x5), some (.inl x6), some (.inl 1), z8, z9], [.inr (some a0)], M)) sm_a185_184 rfl rfl rfl ?_
        refine ru_go (t := (188, [some (.inr (some a0)), some (.inl x1), some (.inl x2), some (.inl x3), some (.inl x4), some (.inl x5), some (.inl x6), some (.inl 1), z8, z9], [.inl (sm_I M a0 82)], M)) sm_a185_185 rfl rfl (st_getI h_1 rfl) ?_
        refine ru_go (t := (190, [some (.inr (some a0)), some (.inl x1), some (.inl x2), some (.inl x3), some (.inl x4), some (.inl x5), some (.inl x6), some (.inl 1), z8, z9], [.inl 11, .inl (sm_I M a0 82)], M)) sm_a185_188 rfl rfl (st_bipush (by decide)) ?_
        refine ru_icmp (pc := 190) (p := 197) (p2 := 193) sm_a185_190 (by decide) rfl ⟨fun hc_27 => ?_, fun hc_27 => ?_⟩
        · have h := h.1 hc_27
          refine ru_go (t := (198, [some (.inr (some a0)), some (.inl x1), some (.inl x2), some (.inl x3), some (.inl x4), some (.inl x5), some (.inl x6), some (.inl 1), z8, z9], [.inl 0], M)) sm_a185_197 rfl rfl (st_iconst (by decide)) ?_
          refine ru_go (t := (214, [some (.inr (some a0)), some (.inl x1), some (.inl x2), some (.inl x3), some (.inl x4), some (.inl x5), some (.inl x6), some (.inl 1), z8, z9], [.inl 0], M)) sm_a185_198 rfl rfl (st_goto (pc := 198) (by decide)) ?_
          refine ru_go (t := (216, [some (.inr (some a0)), some (.inl x1), some (.inl x2), some (.inl x3), some (.inl x4), some (.inl x5), some (.inl x6), some (.inl 1), some (.inl 0), z9], [], M)) sm_a185_214 rfl rfl rfl ?_
          refine ru_go (t := (218, [some (.inr (some a0)), some (.inl x1), some (.inl x2), some (.inl x3), some (.inl x4), some (.inl x5), some (.inl x6), some (.inl 1), some (.inl 0), z9], [.inl 1], M)) sm_a185_216 rfl rfl rfl ?_
          refine ru_if (pc := 218) (p := 230) (p2 := 221) sm_a185_218 (by decide) rfl ⟨fun _ => ?_, fun hc => absurd (show sm_cP .ne 1 0 from (by show ¬ (1 : Int32) = 0; decide)) hc⟩
          exact h
        · have h := h.2 hc_27
          exact h
theorem bb_185_193 {d : Nat} {M : sm_M} {Q : Option sm_V → sm_M → Prop} {a0 : Nat} {x1 : Int32} {x2 : Int32} {x3 : Int32} {x4 : Int32} {x5 : Int32} {x6 : Int32} {x7 : Int32} {z8 : Option sm_V} {z9 : Option sm_V}
    (h : ((¬ x7 = 0 → sm_Run (d + 1) 185 230 [some (.inr (some a0)), some (.inl x1), some (.inl x2), some (.inl x3), some (.inl x4), some (.inl x5), some (.inl x6), some (.inl x7), some (.inl 1), z9] [] M Q) ∧ (¬ (¬ x7 = 0) → sm_K M a0 = 39 ∧ ((¬ (sm_I M a0 82) = 14 → ((x5 = 0 → ∃ b_5, sm_R M a0 76 = some b_5 ∧ sm_wA 1 M b_5 ∧ sm_in_ M b_5 x2 ∧ ∃ b_9, sm_R (sm_putI M b_5 (x2).toNatClampNeg 0) a0 74 = some b_9 ∧ sm_iA M b_9 ∧ sm_in_ M b_9 x2 ∧ sm_wA 1 M b_9 ∧ ∃ b_14, sm_R (sm_putI (sm_putI M b_5 (x2).toNatClampNeg 0) b_9 (x2).toNatClampNeg ((sm_I (sm_putI M b_5 (x2).toNatClampNeg 0) b_9 (x2).toNatClampNeg) + x6)) a0 66 = some b_14 ∧ sm_iA M b_14 ∧ sm_in_ M b_14 x1 ∧ sm_wA 1 M b_14 ∧ sm_Run (d + 1) 185 386 [some (.inr (some a0)), some (.inl x1), some (.inl x2), some (.inl x3), some (.inl x4), some (.inl x5), some (.inl x6), some (.inl x7), some (.inl 1), z9] [] (sm_putI (sm_putI (sm_putI M b_5 (x2).toNatClampNeg 0) b_9 (x2).toNatClampNeg ((sm_I (sm_putI M b_5 (x2).toNatClampNeg 0) b_9 (x2).toNatClampNeg) + x6)) b_14 (x1).toNatClampNeg (1 - (sm_I (sm_putI (sm_putI M b_5 (x2).toNatClampNeg 0) b_9 (x2).toNatClampNeg ((sm_I (sm_putI M b_5 (x2).toNatClampNeg 0) b_9 (x2).toNatClampNeg) + x6)) b_14 (x1).toNatClampNeg))) Q) ∧ (¬ (x5 = 0) → ∃ b_19, sm_R M a0 76 = some b_19 ∧ sm_wA 1 M b_19 ∧ sm_in_ M b_19 x2 ∧ ∃ b_23, sm_R (sm_putI M b_19 (x2).toNatClampNeg 0) a0 66 = some b_23 ∧ sm_iA M b_23 ∧ sm_in_ M b_23 x1 ∧ ∃ b_27, sm_R (sm_putI M b_19 (x2).toNatClampNeg 0) a0 64 = some b_27 ∧ sm_iA M b_27 ∧ sm_in_ M b_27 x1 ∧ sm_Run d 183 0 (sm_ent 183 [.inr (some a0), .inl x2, .inl (sm_I (sm_putI M b_19 (x2).toNatClampNeg 0) b_23 (x1).toNatClampNeg), .inl (sm_I (sm_putI M b_19 (x2).toNatClampNeg 0) b_27 (x1).toNatClampNeg)]) [] (sm_putI M b_19 (x2).toNatClampNeg 0) (fun v M1 => sm_Run (d + 1) 185 298 [some (.inr (some a0)), some (.inl x1), some (.inl x2), some (.inl x3), some (.inl x4), some (.inl x5), some (.inl x6), some (.inl x7), some (.inl 1), z9] (v.toList ++ []) M1 Q)))) ∧ (¬ (¬ (sm_I M a0 82) = 14) → sm_Run (d + 1) 185 230 [some (.inr (some a0)), some (.inl x1), some (.inl x2), some (.inl x3), some (.inl x4), some (.inl x5), some (.inl x6), some (.inl x7), some (.inl 1), z9] [] M Q))))) :
    sm_Run (d + 1) 185 193 [some (.inr (some a0)), some (.inl x1), some (.inl x2), some (.inl x3), some (.inl x4), some (.inl x5), some (.inl x6), some (.inl x7), z8, z9] [] M Q := by
  refine ru_go (t := (194, [some (.inr (some a0)), some (.inl x1), some (.inl x2), some (.inl x3), some (.inl x4), some (.inl x5), some (.inl x6), some (.inl x7), z8, z9], [.inl 1], M)) sm_a185_193 rfl rfl (st_iconst (by decide)) ?_
  refine ru_go (t := (214, [some (.inr (some a0)), some (.inl x1), some (.inl x2), some (.inl x3), some (.inl x4), some (.inl x5), some (.inl x6), some (.inl x7), z8, z9], [.inl 1], M)) sm_a185_194 rfl rfl (st_goto (pc := 194) (by decide)) ?_
  refine ru_go (t := (216, [some (.inr (some a0)), some (.inl x1), some (.inl x2), some (.inl x3), some (.inl x4), some (.inl x5), some (.inl x6), some (.inl x7), some (.inl 1), z9], [], M)) sm_a185_214 rfl rfl rfl ?_
  refine ru_go (t := (218, [some (.inr (some a0)), some (.inl x1), some (.inl x2), some (.inl x3), some (.inl x4), some (.inl x5), some (.inl x6), some (.inl x7), some (.inl 1), z9], [.inl x7], M)) sm_a185_216 rfl rfl rfl ?_
  refine ru_if (pc := 218) (p := 230) (p2 := 221) sm_a185_218 (by decide) rfl ⟨fun hc_1 => ?_, fun hc_1 => ?_⟩
  · have h := h.1 hc_1
    exact h
  · have h := h.2 hc_1
    refine ru_go (t := (222, [some (.inr (some a0)), some (.inl x1), some (.inl x2), some (.inl x3), some (.inl x4), some (.inl x5), some (.inl x6), some (.inl x7), some (.inl 1), z9], [.inr (some a0)], M)) sm_a185_221 rfl rfl rfl ?_
    obtain ⟨h_2, h⟩ := h
    refine ru_go (t := (225, [some (.inr (some a0)), some (.inl x1), some (.inl x2), some (.inl x3), some (.inl x4), some (.inl x5), some (.inl x6), some (.inl x7), some (.inl 1), z9], [.inl (sm_I M a0 82)], M)) sm_a185_222 rfl rfl (st_getI h_2 rfl) ?_
    refine ru_go (t := (227, [some (.inr (some a0)), some (.inl x1), some (.inl x2), some (.inl x3), some (.inl x4), some (.inl x5), some (.inl x6), some (.inl x7), some (.inl 1), z9], [.inl 14, .inl (sm_I M a0 82)], M)) sm_a185_225 rfl rfl (st_bipush (by decide)) ?_
    refine ru_icmp (pc := 227) (p := 256) (p2 := 230) sm_a185_227 (by decide) rfl ⟨fun hc_3 => ?_, fun hc_3 => ?_⟩
    · have h := h.1 hc_3
      refine ru_go (t := (258, [some (.inr (some a0)), some (.inl x1), some (.inl x2), some (.inl x3), some (.inl x4), some (.inl x5), some (.inl x6), some (.inl x7), some (.inl 1), z9], [.inl 1], M)) sm_a185_256 rfl rfl rfl ?_
      refine ru_if (pc := 258) (p := 269) (p2 := 261) sm_a185_258 (by decide) rfl ⟨fun _ => ?_, fun hc => absurd (show sm_cP .ne 1 0 from (by show ¬ (1 : Int32) = 0; decide)) hc⟩
      refine ru_go (t := (271, [some (.inr (some a0)), some (.inl x1), some (.inl x2), some (.inl x3), some (.inl x4), some (.inl x5), some (.inl x6), some (.inl x7), some (.inl 1), z9], [.inl x5], M)) sm_a185_269 rfl rfl rfl ?_
      refine ru_if (pc := 271) (p := 354) (p2 := 274) sm_a185_271 (by decide) rfl ⟨fun hc_4 => ?_, fun hc_4 => ?_⟩
      · have h := h.1 hc_4
        refine ru_go (t := (355, [some (.inr (some a0)), some (.inl x1), some (.inl x2), some (.inl x3), some (.inl x4), some (.inl x5), some (.inl x6), some (.inl x7), some (.inl 1), z9], [.inr (some a0)], M)) sm_a185_354 rfl rfl rfl ?_
        refine ru_go (t := (358, [some (.inr (some a0)), some (.inl x1), some (.inl x2), some (.inl x3), some (.inl x4), some (.inl x5), some (.inl x6), some (.inl x7), some (.inl 1), z9], [.inr (sm_R M a0 76)], M)) sm_a185_355 rfl rfl (st_getR h_2 rfl rfl) ?_
        refine ru_go (t := (359, [some (.inr (some a0)), some (.inl x1), some (.inl x2), some (.inl x3), some (.inl x4), some (.inl x5), some (.inl x6), some (.inl x7), some (.inl 1), z9], [.inl x2, .inr (sm_R M a0 76)], M)) sm_a185_358 rfl rfl rfl ?_
        refine ru_go (t := (360, [some (.inr (some a0)), some (.inl x1), some (.inl x2), some (.inl x3), some (.inl x4), some (.inl x5), some (.inl x6), some (.inl x7), some (.inl 1), z9], [.inl 0, .inl x2, .inr (sm_R M a0 76)], M)) sm_a185_359 rfl rfl (st_iconst (by decide)) ?_
        obtain ⟨b_5, hb_6, h⟩ := h
        rw [hb_6]
        obtain ⟨h_7, h⟩ := h
        obtain ⟨h_8, h⟩ := h
        refine ru_go (t := (361, [some (.inr (some a0)), some (.inl x1), some (.inl x2), some (.inl x3), some (.inl x4), some (.inl x5), some (.inl x6), some (.inl x7), some (.inl 1), z9], [], sm_putI M b_5 (x2).toNatClampNeg 0)) sm_a185_360 rfl rfl (st_iast h_7 h_8) ?_
        refine ru_go (t := (362, [some (.inr (some a0)), some (.inl x1), some (.inl x2), some (.inl x3), some (.inl x4), some (.inl x5), some (.inl x6), some (.inl x7), some (.inl 1), z9], [.inr (some a0)], sm_putI M b_5 (x2).toNatClampNeg 0)) sm_a185_361 rfl rfl rfl ?_
        refine ru_go (t := (365, [some (.inr (some a0)), some (.inl x1), some (.inl x2), some (.inl x3), some (.inl x4), some (.inl x5), some (.inl x6), some (.inl x7), some (.inl 1), z9], [.inr (sm_R (sm_putI M b_5 (x2).toNatClampNeg 0) a0 74)], sm_putI M b_5 (x2).toNatClampNeg 0)) sm_a185_362 rfl rfl (st_getR h_2 rfl rfl) ?_
        refine ru_go (t := (366, [some (.inr (some a0)), some (.inl x1), some (.inl x2), some (.inl x3), some (.inl x4), some (.inl x5), some (.inl x6), some (.inl x7), some (.inl 1), z9], [.inl x2, .inr (sm_R (sm_putI M b_5 (x2).toNatClampNeg 0) a0 74)], sm_putI M b_5 (x2).toNatClampNeg 0)) sm_a185_365 rfl rfl rfl ?_
        refine ru_go (t := (367, [some (.inr (some a0)), some (.inl x1), some (.inl x2), some (.inl x3), some (.inl x4), some (.inl x5), some (.inl x6), some (.inl x7), some (.inl 1), z9], [.inl x2, .inr (sm_R (sm_putI M b_5 (x2).toNatClampNeg 0) a0 74), .inl x2, .inr (sm_R (sm_putI M b_5 (x2).toNatClampNeg 0) a0 74)], sm_putI M b_5 (x2).toNatClampNeg 0)) sm_a185_366 rfl rfl rfl ?_
        obtain ⟨b_9, hb_10, h⟩ := h
        rw [hb_10]
        obtain ⟨h_11, h⟩ := h
        obtain ⟨h_12, h⟩ := h
        refine ru_go (t := (368, [some (.inr (some a0)), some (.inl x1), some (.inl x2), some (.inl x3), some (.inl x4), some (.inl x5), some (.inl x6), some (.inl x7), some (.inl 1), z9], [.inl (sm_I (sm_putI M b_5 (x2).toNatClampNeg 0) b_9 (x2).toNatClampNeg), .inl x2, .inr (some b_9)], sm_putI M b_5 (x2).toNatClampNeg 0)) sm_a185_367 rfl rfl (st_iald h_11 h_12) ?_
        refine ru_go (t := (370, [some (.inr (some a0)), some (.inl x1), some (.inl x2), some (.inl x3), some (.inl x4), some (.inl x5), some (.inl x6), some (.inl x7), some (.inl 1), z9], [.inl x6, .inl (sm_I (sm_putI M b_5 (x2).toNatClampNeg 0) b_9 (x2).toNatClampNeg), .inl x2, .inr (some b_9)], sm_putI M b_5 (x2).toNatClampNeg 0)) sm_a185_368 rfl rfl rfl ?_
        refine ru_go (t := (371, [some (.inr (some a0)), some (.inl x1), some (.inl x2), some (.inl x3), some (.inl x4), some (.inl x5), some (.inl x6), some (.inl x7), some (.inl 1), z9], [.inl ((sm_I (sm_putI M b_5 (x2).toNatClampNeg 0) b_9 (x2).toNatClampNeg) + x6), .inl x2, .inr (some b_9)], sm_putI M b_5 (x2).toNatClampNeg 0)) sm_a185_370 rfl rfl rfl ?_
        obtain ⟨h_13, h⟩ := h
        refine ru_go (t := (372, [some (.inr (some a0)), some (.inl x1), some (.inl x2), some (.inl x3), some (.inl x4), some (.inl x5), some (.inl x6), some (.inl x7), some (.inl 1), z9], [], sm_putI (sm_putI M b_5 (x2).toNatClampNeg 0) b_9 (x2).toNatClampNeg ((sm_I (sm_putI M b_5 (x2).toNatClampNeg 0) b_9 (x2).toNatClampNeg) + x6))) sm_a185_371 rfl rfl (st_iast h_13 h_12) ?_
        refine ru_go (t := (373, [some (.inr (some a0)), some (.inl x1), some (.inl x2), some (.inl x3), some (.inl x4), some (.inl x5), some (.inl x6), some (.inl x7), some (.inl 1), z9], [.inr (some a0)], sm_putI (sm_putI M b_5 (x2).toNatClampNeg 0) b_9 (x2).toNatClampNeg ((sm_I (sm_putI M b_5 (x2).toNatClampNeg 0) b_9 (x2).toNatClampNeg) + x6))) sm_a185_372 rfl rfl rfl ?_
        refine ru_go (t := (376, [some (.inr (some a0)), some (.inl x1), some (.inl x2), some (.inl x3), some (.inl x4), some (.inl x5), some (.inl x6), some (.inl x7), some (.inl 1), z9], [.inr (sm_R (sm_putI (sm_putI M b_5 (x2).toNatClampNeg 0) b_9 (x2).toNatClampNeg ((sm_I (sm_putI M b_5 (x2).toNatClampNeg 0) b_9 (x2).toNatClampNeg) + x6)) a0 66)], sm_putI (sm_putI M b_5 (x2).toNatClampNeg 0) b_9 (x2).toNatClampNeg ((sm_I (sm_putI M b_5 (x2).toNatClampNeg 0) b_9 (x2).toNatClampNeg) + x6))) sm_a185_373 rfl rfl (st_getR h_2 rfl rfl) ?_
        refine ru_go (t := (377, [some (.inr (some a0)), some (.inl x1), some (.inl x2), some (.inl x3), some (.inl x4), some (.inl x5), some (.inl x6), some (.inl x7), some (.inl 1), z9], [.inl x1, .inr (sm_R (sm_putI (sm_putI M b_5 (x2).toNatClampNeg 0) b_9 (x2).toNatClampNeg ((sm_I (sm_putI M b_5 (x2).toNatClampNeg 0) b_9 (x2).toNatClampNeg) + x6)) a0 66)], sm_putI (sm_putI M b_5 (x2).toNatClampNeg 0) b_9 (x2).toNatClampNeg ((sm_I (sm_putI M b_5 (x2).toNatClampNeg 0) b_9 (x2).toNatClampNeg) + x6))) sm_a185_376 rfl rfl rfl ?_
        refine ru_go (t := (378, [some (.inr (some a0)), some (.inl x1), some (.inl x2), some (.inl x3), some (.inl x4), some (.inl x5), some (.inl x6), some (.inl x7), some (.inl 1), z9], [.inl 1, .inl x1, .inr (sm_R (sm_putI (sm_putI M b_5 (x2).toNatClampNeg 0) b_9 (x2).toNatClampNeg ((sm_I (sm_putI M b_5 (x2).toNatClampNeg 0) b_9 (x2).toNatClampNeg) + x6)) a0 66)], sm_putI (sm_putI M b_5 (x2).toNatClampNeg 0) b_9 (x2).toNatClampNeg ((sm_I (sm_putI M b_5 (x2).toNatClampNeg 0) b_9 (x2).toNatClampNeg) + x6))) sm_a185_377 rfl rfl (st_iconst (by decide)) ?_
        refine ru_go (t := (379, [some (.inr (some a0)), some (.inl x1), some (.inl x2), some (.inl x3), some (.inl x4), some (.inl x5), some (.inl x6), some (.inl x7), some (.inl 1), z9], [.inr (some a0), .inl 1, .inl x1, .inr (sm_R (sm_putI (sm_putI M b_5 (x2).toNatClampNeg 0) b_9 (x2).toNatClampNeg ((sm_I (sm_putI M b_5 (x2).toNatClampNeg 0) b_9 (x2).toNatClampNeg) + x6)) a0 66)], sm_putI (sm_putI M b_5 (x2).toNatClampNeg 0) b_9 (x2).toNatClampNeg ((sm_I (sm_putI M b_5 (x2).toNatClampNeg 0) b_9 (x2).toNatClampNeg) + x6))) sm_a185_378 rfl rfl rfl ?_
        refine ru_go (t := (382, [some (.inr (some a0)), some (.inl x1), some (.inl x2), some (.inl x3), some (.inl x4), some (.inl x5), some (.inl x6), some (.inl x7), some (.inl 1), z9], [.inr (sm_R (sm_putI (sm_putI M b_5 (x2).toNatClampNeg 0) b_9 (x2).toNatClampNeg ((sm_I (sm_putI M b_5 (x2).toNatClampNeg 0) b_9 (x2).toNatClampNeg) + x6)) a0 66), .inl 1, .inl x1, .inr (sm_R (sm_putI (sm_putI M b_5 (x2).toNatClampNeg 0) b_9 (x2).toNatClampNeg ((sm_I (sm_putI M b_5 (x2).toNatClampNeg 0) b_9 (x2).toNatClampNeg) + x6)) a0 66)], sm_putI (sm_putI M b_5 (x2).toNatClampNeg 0) b_9 (x2).toNatClampNeg ((sm_I (sm_putI M b_5 (x2).toNatClampNeg 0) b_9 (x2).toNatClampNeg) + x6))) sm_a185_379 rfl rfl (st_getR h_2 rfl rfl) ?_
        refine ru_go (t := (383, [some (.inr (some a0)), some (.inl x1), some (.inl x2), some (.inl x3), some (.inl x4), some (.inl x5), some (.inl x6), some (.inl x7), some (.inl 1), z9], [.inl x1, .inr (sm_R (sm_putI (sm_putI M b_5 (x2).toNatClampNeg 0) b_9 (x2).toNatClampNeg ((sm_I (sm_putI M b_5 (x2).toNatClampNeg 0) b_9 (x2).toNatClampNeg) + x6)) a0 66), .inl 1, .inl x1, .inr (sm_R (sm_putI (sm_putI M b_5 (x2).toNatClampNeg 0) b_9 (x2).toNatClampNeg ((sm_I (sm_putI M b_5 (x2).toNatClampNeg 0) b_9 (x2).toNatClampNeg) + x6)) a0 66)], sm_putI (sm_putI M b_5 (x2).toNatClampNeg 0) b_9 (x2).toNatClampNeg ((sm_I (sm_putI M b_5 (x2).toNatClampNeg 0) b_9 (x2).toNatClampNeg) + x6))) sm_a185_382 rfl rfl rfl ?_
        obtain ⟨b_14, hb_15, h⟩ := h
        rw [hb_15]
        obtain ⟨h_16, h⟩ := h
        obtain ⟨h_17, h⟩ := h
        refine ru_go (t := (384, [some (.inr (some a0)), some (.inl x1), some (.inl x2), some (.inl x3), some (.inl x4), some (.inl x5), some (.inl x6), some (.inl x7), some (.inl 1), z9], [.inl (sm_I (sm_putI (sm_putI M b_5 (x2).toNatClampNeg 0) b_9 (x2).toNatClampNeg ((sm_I (sm_putI M b_5 (x2).toNatClampNeg 0) b_9 (x2).toNatClampNeg) + x6)) b_14 (x1).toNatClampNeg), .inl 1, .inl x1, .inr (some b_14)], sm_putI (sm_putI M b_5 (x2).toNatClampNeg 0) b_9 (x2).toNatClampNeg ((sm_I (sm_putI M b_5 (x2).toNatClampNeg 0) b_9 (x2).toNatClampNeg) + x6))) sm_a185_383 rfl rfl (st_iald h_16 h_17) ?_
        refine ru_go (t := (385, [some (.inr (some a0)), some (.inl x1), some (.inl x2), some (.inl x3), some (.inl x4), some (.inl x5), some (.inl x6), some (.inl x7), some (.inl 1), z9], [.inl (1 - (sm_I (sm_putI (sm_putI M b_5 (x2).toNatClampNeg 0) b_9 (x2).toNatClampNeg ((sm_I (sm_putI M b_5 (x2).toNatClampNeg 0) b_9 (x2).toNatClampNeg) + x6)) b_14 (x1).toNatClampNeg)), .inl x1, .inr (some b_14)], sm_putI (sm_putI M b_5 (x2).toNatClampNeg 0) b_9 (x2).toNatClampNeg ((sm_I (sm_putI M b_5 (x2).toNatClampNeg 0) b_9 (x2).toNatClampNeg) + x6))) sm_a185_384 rfl rfl rfl ?_
        obtain ⟨h_18, h⟩ := h
        refine ru_go (t := (386, [some (.inr (some a0)), some (.inl x1), some (.inl x2), some (.inl x3), some (.inl x4), some (.inl x5), some (.inl x6), some (.inl x7), some (.inl 1), z9], [], sm_putI (sm_putI (sm_putI M b_5 (x2).toNatClampNeg 0) b_9 (x2).toNatClampNeg ((sm_I (sm_putI M b_5 (x2).toNatClampNeg 0) b_9 (x2).toNatClampNeg) + x6)) b_14 (x1).toNatClampNeg (1 - (sm_I (sm_putI (sm_putI M b_5 (x2).toNatClampNeg 0) b_9 (x2).toNatClampNeg ((sm_I (sm_putI M b_5 (x2).toNatClampNeg 0) b_9 (x2).toNatClampNeg) + x6)) b_14 (x1).toNatClampNeg)))) sm_a185_385 rfl rfl (st_iast h_18 h_17) ?_
        exact h
      · have h := h.2 hc_4
        refine ru_go (t := (275, [some (.inr (some a0)), some (.inl x1), some (.inl x2), some (.inl x3), some (.inl x4), some (.inl x5), some (.inl x6), some (.inl x7), some (.inl 1), z9], [.inr (some a0)], M)) sm_a185_274 rfl rfl rfl ?_
        refine ru_go (t := (278, [some (.inr (some a0)), some (.inl x1), some (.inl x2), some (.inl x3), some (.inl x4), some (.inl x5), some (.inl x6), some (.inl x7), some (.inl 1), z9], [.inr (sm_R M a0 76)], M)) sm_a185_275 rfl rfl (st_getR h_2 rfl rfl) ?_
        refine ru_go (t := (279, [some (.inr (some a0)), some (.inl x1), some (.inl x2), some (.inl x3), some (.inl x4), some (.inl x5), some (.inl x6), some (.inl x7), some (.inl 1), z9], [.inl x2, .inr (sm_R M a0 76)], M)) sm_a185_278 rfl rfl rfl ?_
        refine ru_go (t := (280, [some (.inr (some a0)), some (.inl x1), some (.inl x2), some (.inl x3), some (.inl x4), some (.inl x5), some (.inl x6), some (.inl x7), some (.inl 1), z9], [.inl 0, .inl x2, .inr (sm_R M a0 76)], M)) sm_a185_279 rfl rfl (st_iconst (by decide)) ?_
        obtain ⟨b_19, hb_20, h⟩ := h
        rw [hb_20]
        obtain ⟨h_21, h⟩ := h
        obtain ⟨h_22, h⟩ := h
        refine ru_go (t := (281, [some (.inr (some a0)), some (.inl x1), some (.inl x2), some (.inl x3), some (.inl x4), some (.inl x5), some (.inl x6), some (.inl x7), some (.inl 1), z9], [], sm_putI M b_19 (x2).toNatClampNeg 0)) sm_a185_280 rfl rfl (st_iast h_21 h_22) ?_
        refine ru_go (t := (282, [some (.inr (some a0)), some (.inl x1), some (.inl x2), some (.inl x3), some (.inl x4), some (.inl x5), some (.inl x6), some (.inl x7), some (.inl 1), z9], [.inr (some a0)], sm_putI M b_19 (x2).toNatClampNeg 0)) sm_a185_281 rfl rfl rfl ?_
        refine ru_go (t := (283, [some (.inr (some a0)), some (.inl x1), some (.inl x2), some (.inl x3), some (.inl x4), some (.inl x5), some (.inl x6), some (.inl x7), some (.inl 1), z9], [.inl x2, .inr (some a0)], sm_putI M b_19 (x2).toNatClampNeg 0)) sm_a185_282 rfl rfl rfl ?_
        refine ru_go (t := (284, [some (.inr (some a0)), some (.inl x1), some (.inl x2), some (.inl x3), some (.inl x4), some (.inl x5), some (.inl x6), some (.inl x7), some (.inl 1), z9], [.inr (some a0), .inl x2, .inr (some a0)], sm_putI M b_19 (x2).toNatClampNeg 0)) sm_a185_283 rfl rfl rfl ?_
        refine ru_go (t := (287, [some (.inr (some a0)), some (.inl x1), some (.inl x2), some (.inl x3), some (.inl x4), some (.inl x5), some (.inl x6), some (.inl x7), some (.inl 1), z9], [.inr (sm_R (sm_putI M b_19 (x2).toNatClampNeg 0) a0 66), .inl x2, .inr (some a0)], sm_putI M b_19 (x2).toNatClampNeg 0)) sm_a185_284 rfl rfl (st_getR h_2 rfl rfl) ?_
        refine ru_go (t := (288, [some (.inr (some a0)), some (.inl x1), some (.inl x2), some (.inl x3), some (.inl x4), some (.inl x5), some (.inl x6), some (.inl x7), some (.inl 1), z9], [.inl x1, .inr (sm_R (sm_putI M b_19 (x2).toNatClampNeg 0) a0 66), .inl x2, .inr (some a0)], sm_putI M b_19 (x2).toNatClampNeg 0)) sm_a185_287 rfl rfl rfl ?_
        obtain ⟨b_23, hb_24, h⟩ := h
        rw [hb_24]
        obtain ⟨h_25, h⟩ := h
        obtain ⟨h_26, h⟩ := h
        refine ru_go (t := (289, [some (.inr (some a0)), some (.inl x1), some (.inl x2), some (.inl x3), some (.inl x4), some (.inl x5), some (.inl x6), some (.inl x7), some (.inl 1), z9], [.inl (sm_I (sm_putI M b_19 (x2).toNatClampNeg 0) b_23 (x1).toNatClampNeg), .inl x2, .inr (some a0)], sm_putI M b_19 (x2).toNatClampNeg 0)) sm_a185_288 rfl rfl (st_iald h_25 h_26) ?_
        refine ru_go (t := (290, [some (.inr (some a0)), some (.inl x1), some (.inl x2), some (.inl x3), some (.inl x4), some (.inl x5), some (.inl x6), some (.inl x7), some (.inl 1), z9], [.inr (some a0), .inl (sm_I (sm_putI M b_19 (x2).toNatClampNeg 0) b_23 (x1).toNatClampNeg), .inl x2, .inr (some a0)], sm_putI M b_19 (x2).toNatClampNeg 0)) sm_a185_289 rfl rfl rfl ?_
        refine ru_go (t := (293, [some (.inr (some a0)), some (.inl x1), some (.inl x2), some (.inl x3), some (.inl x4), some (.inl x5), some (.inl x6), some (.inl x7), some (.inl 1), z9], [.inr (sm_R (sm_putI M b_19 (x2).toNatClampNeg 0) a0 64), .inl (sm_I (sm_putI M b_19 (x2).toNatClampNeg 0) b_23 (x1).toNatClampNeg), .inl x2, .inr (some a0)], sm_putI M b_19 (x2).toNatClampNeg 0)) sm_a185_290 rfl rfl (st_getR h_2 rfl rfl) ?_
        refine ru_go (t := (294, [some (.inr (some a0)), some (.inl x1), some (.inl x2), some (.inl x3), some (.inl x4), some (.inl x5), some (.inl x6), some (.inl x7), some (.inl 1), z9], [.inl x1, .inr (sm_R (sm_putI M b_19 (x2).toNatClampNeg 0) a0 64), .inl (sm_I (sm_putI M b_19 (x2).toNatClampNeg 0) b_23 (x1).toNatClampNeg), .inl x2, .inr (some a0)], sm_putI M b_19 (x2).toNatClampNeg 0)) sm_a185_293 rfl rfl rfl ?_
        obtain ⟨b_27, hb_28, h⟩ := h
        rw [hb_28]
        obtain ⟨h_29, h⟩ := h
        obtain ⟨h_30, h⟩ := h
        refine ru_go (t := (295, [some (.inr (some a0)), some (.inl x1), some (.inl x2), some (.inl x3), some (.inl x4), some (.inl x5), some (.inl x6), some (.inl x7), some (.inl 1), z9], [.inl (sm_I (sm_putI M b_19 (x2).toNatClampNeg 0) b_27 (x1).toNatClampNeg), .inl (sm_I (sm_putI M b_19 (x2).toNatClampNeg 0) b_23 (x1).toNatClampNeg), .inl x2, .inr (some a0)], sm_putI M b_19 (x2).toNatClampNeg 0)) sm_a185_294 rfl rfl (st_iald h_29 h_30) ?_
        exact ru_call (p := 298) sm_a185_295 rfl (sc_virt (Or.inl rfl) rfl rfl h_2 (Nat.le_of_ble_eq_true rfl)) rfl h
    · have h := h.2 hc_3
      exact h
theorem bb_185_230 {d : Nat} {M : sm_M} {Q : Option sm_V → sm_M → Prop} {a0 : Nat} {x1 : Int32} {x2 : Int32} {x3 : Int32} {x4 : Int32} {x5 : Int32} {x6 : Int32} {x7 : Int32} {x8 : Int32} {z9 : Option sm_V}
    (h : sm_K M a0 = 39 ∧ ∃ b_2, sm_R M a0 76 = some b_2 ∧ sm_wA 1 M b_2 ∧ sm_in_ M b_2 x2 ∧ ((x7 = 0 → ∃ b_7, sm_R (sm_putI M b_2 (x2).toNatClampNeg 0) a0 73 = some b_7 ∧ sm_wA 1 M b_7 ∧ sm_in_ M b_7 x2 ∧ sm_Run (d + 1) 185 412 [some (.inr (some a0)), some (.inl x1), some (.inl x2), some (.inl x3), some (.inl x4), some (.inl x5), some (.inl x6), some (.inl x7), some (.inl x8), z9] [] (sm_putI (sm_putI M b_2 (x2).toNatClampNeg 0) b_7 (x2).toNatClampNeg 2) Q) ∧ (¬ (x7 = 0) → ∃ b_11, sm_R (sm_putI M b_2 (x2).toNatClampNeg 0) a0 73 = some b_11 ∧ sm_wA 1 M b_11 ∧ sm_in_ M b_11 x2 ∧ sm_Run (d + 1) 185 412 [some (.inr (some a0)), some (.inl x1), some (.inl x2), some (.inl x3), some (.inl x4), some (.inl x5), some (.inl x6), some (.inl x7), some (.inl x8), z9] [] (sm_putI (sm_putI M b_2 (x2).toNatClampNeg 0) b_11 (x2).toNatClampNeg 0) Q))) :
    sm_Run (d + 1) 185 230 [some (.inr (some a0)), some (.inl x1), some (.inl x2), some (.inl x3), some (.inl x4), some (.inl x5), some (.inl x6), some (.inl x7), some (.inl x8), z9] [] M Q := by
  refine ru_go (t := (231, [some (.inr (some a0)), some (.inl x1), some (.inl x2), some (.inl x3), some (.inl x4), some (.inl x5), some (.inl x6), some (.inl x7), some (.inl x8), z9], [.inr (some a0)], M)) sm_a185_230 rfl rfl rfl ?_
  obtain ⟨h_1, h⟩ := h
  refine ru_go (t := (234, [some (.inr (some a0)), some (.inl x1), some (.inl x2), some (.inl x3), some (.inl x4), some (.inl x5), some (.inl x6), some (.inl x7), some (.inl x8), z9], [.inr (sm_R M a0 76)], M)) sm_a185_231 rfl rfl (st_getR h_1 rfl rfl) ?_
  refine ru_go (t := (235, [some (.inr (some a0)), some (.inl x1), some (.inl x2), some (.inl x3), some (.inl x4), some (.inl x5), some (.inl x6), some (.inl x7), some (.inl x8), z9], [.inl x2, .inr (sm_R M a0 76)], M)) sm_a185_234 rfl rfl rfl ?_
  refine ru_go (t := (236, [some (.inr (some a0)), some (.inl x1), some (.inl x2), some (.inl x3), some (.inl x4), some (.inl x5), some (.inl x6), some (.inl x7), some (.inl x8), z9], [.inl 0, .inl x2, .inr (sm_R M a0 76)], M)) sm_a185_235 rfl rfl (st_iconst (by decide)) ?_
  obtain ⟨b_2, hb_3, h⟩ := h
  rw [hb_3]
  obtain ⟨h_4, h⟩ := h
  obtain ⟨h_5, h⟩ := h
  refine ru_go (t := (237, [some (.inr (some a0)), some (.inl x1), some (.inl x2), some (.inl x3), some (.inl x4), some (.inl x5), some (.inl x6), some (.inl x7), some (.inl x8), z9], [], sm_putI M b_2 (x2).toNatClampNeg 0)) sm_a185_236 rfl rfl (st_iast h_4 h_5) ?_
  refine ru_go (t := (238, [some (.inr (some a0)), some (.inl x1), some (.inl x2), some (.inl x3), some (.inl x4), some (.inl x5), some (.inl x6), some (.inl x7), some (.inl x8), z9], [.inr (some a0)], sm_putI M b_2 (x2).toNatClampNeg 0)) sm_a185_237 rfl rfl rfl ?_
  refine ru_go (t := (241, [some (.inr (some a0)), some (.inl x1), some (.inl x2), some (.inl x3), some (.inl x4), some (.inl x5), some (.inl x6), some (.inl x7), some (.inl x8), z9], [.inr (sm_R (sm_putI M b_2 (x2).toNatClampNeg 0) a0 73)], sm_putI M b_2 (x2).toNatClampNeg 0)) sm_a185_238 rfl rfl (st_getR h_1 rfl rfl) ?_
  refine ru_go (t := (242, [some (.inr (some a0)), some (.inl x1), some (.inl x2), some (.inl x3), some (.inl x4), some (.inl x5), some (.inl x6), some (.inl x7), some (.inl x8), z9], [.inl x2, .inr (sm_R (sm_putI M b_2 (x2).toNatClampNeg 0) a0 73)], sm_putI M b_2 (x2).toNatClampNeg 0)) sm_a185_241 rfl rfl rfl ?_
  refine ru_go (t := (244, [some (.inr (some a0)), some (.inl x1), some (.inl x2), some (.inl x3), some (.inl x4), some (.inl x5), some (.inl x6), some (.inl x7), some (.inl x8), z9], [.inl x7, .inl x2, .inr (sm_R (sm_putI M b_2 (x2).toNatClampNeg 0) a0 73)], sm_putI M b_2 (x2).toNatClampNeg 0)) sm_a185_242 rfl rfl rfl ?_
  refine ru_if (pc := 244) (p := 251) (p2 := 247) sm_a185_244 (by decide) rfl ⟨fun hc_6 => ?_, fun hc_6 => ?_⟩
  · have h := h.1 hc_6
    refine ru_go (t := (252, [some (.inr (some a0)), some (.inl x1), some (.inl x2), some (.inl x3), some (.inl x4), some (.inl x5), some (.inl x6), some (.inl x7), some (.inl x8), z9], [.inl 2, .inl x2, .inr (sm_R (sm_putI M b_2 (x2).toNatClampNeg 0) a0 73)], sm_putI M b_2 (x2).toNatClampNeg 0)) sm_a185_251 rfl rfl (st_iconst (by decide)) ?_
    obtain ⟨b_7, hb_8, h⟩ := h
    rw [hb_8]
    obtain ⟨h_9, h⟩ := h
    obtain ⟨h_10, h⟩ := h
    refine ru_go (t := (253, [some (.inr (some a0)), some (.inl x1), some (.inl x2), some (.inl x3), some (.inl x4), some (.inl x5), some (.inl x6), some (.inl x7), some (.inl x8), z9], [], sm_putI (sm_putI M b_2 (x2).toNatClampNeg 0) b_7 (x2).toNatClampNeg 2)) sm_a185_252 rfl rfl (st_iast h_9 h_10) ?_
    refine ru_go (t := (412, [some (.inr (some a0)), some (.inl x1), some (.inl x2), some (.inl x3), some (.inl x4), some (.inl x5), some (.inl x6), some (.inl x7), some (.inl x8), z9], [], sm_putI (sm_putI M b_2 (x2).toNatClampNeg 0) b_7 (x2).toNatClampNeg 2)) sm_a185_253 rfl rfl (st_goto (pc := 253) (by decide)) ?_
    exact h
  · have h := h.2 hc_6
    refine ru_go (t := (248, [some (.inr (some a0)), some (.inl x1), some (.inl x2), some (.inl x3), some (.inl x4), some (.inl x5), some (.inl x6), some (.inl x7), some (.inl x8), z9], [.inl 0, .inl x2, .inr (sm_R (sm_putI M b_2 (x2).toNatClampNeg 0) a0 73)], sm_putI M b_2 (x2).toNatClampNeg 0)) sm_a185_247 rfl rfl (st_iconst (by decide)) ?_
    refine ru_go (t := (252, [some (.inr (some a0)), some (.inl x1), some (.inl x2), some (.inl x3), some (.inl x4), some (.inl x5), some (.inl x6), some (.inl x7), some (.inl x8), z9], [.inl 0, .inl x2, .inr (sm_R (sm_putI M b_2 (x2).toNatClampNeg 0) a0 73)], sm_putI M b_2 (x2).toNatClampNeg 0)) sm_a185_248 rfl rfl (st_goto (pc := 248) (by decide)) ?_
    obtain ⟨b_11, hb_12, h⟩ := h
    rw [hb_12]
    obtain ⟨h_13, h⟩ := h
    obtain ⟨h_14, h⟩ := h
    refine ru_go (t := (253, [some (.inr (some a0)), some (.inl x1), some (.inl x2), some (.inl x3), some (.inl x4), some (.inl x5), some (.inl x6), some (.inl x7), some (.inl x8), z9], [], sm_putI (sm_putI M b_2 (x2).toNatClampNeg 0) b_11 (x2).toNatClampNeg 0)) sm_a185_252 rfl rfl (st_iast h_13 h_14) ?_
    refine ru_go (t := (412, [some (.inr (some a0)), some (.inl x1), some (.inl x2), some (.inl x3), some (.inl x4), some (.inl x5), some (.inl x6), some (.inl x7), some (.inl x8), z9], [], sm_putI (sm_putI M b_2 (x2).toNatClampNeg 0) b_11 (x2).toNatClampNeg 0)) sm_a185_253 rfl rfl (st_goto (pc := 253) (by decide)) ?_
    exact h
theorem bb_185_266 {d : Nat} {M : sm_M} {Q : Option sm_V → sm_M → Prop} {a0 : Nat} {x1 : Int32} {x2 : Int32} {x3 : Int32} {x4 : Int32} {x5 : Int32} {x6 : Int32} {x7 : Int32} {x8 : Int32} {z9 : Option sm_V}
    (h : sm_Run (d + 1) 185 412 [some (.inr (some a0)), some (.inl x1), some (.inl x2), some (.inl x3), some (.inl x4), some (.inl x5), some (.inl x6), some (.inl x7), some (.inl x8), z9] [] M Q) :
    sm_Run (d + 1) 185 266 [some (.inr (some a0)), some (.inl x1), some (.inl x2), some (.inl x3), some (.inl x4), some (.inl x5), some (.inl x6), some (.inl x7), some (.inl x8), z9] [] M Q := by
  refine ru_go (t := (412, [some (.inr (some a0)), some (.inl x1), some (.inl x2), some (.inl x3), some (.inl x4), some (.inl x5), some (.inl x6), some (.inl x7), some (.inl x8), z9], [], M)) sm_a185_266 rfl rfl (st_goto (pc := 266) (by decide)) ?_
  exact h
theorem bb_185_298 {d : Nat} {M : sm_M} {Q : Option sm_V → sm_M → Prop} {a0 : Nat} {x1 : Int32} {x2 : Int32} {x3 : Int32} {x4 : Int32} {x5 : Int32} {x6 : Int32} {x7 : Int32} {x8 : Int32} {z9 : Option sm_V} {y0 : Int32}
    (h : sm_K M a0 = 39 ∧ (((sm_I M a0 84) = 0 → ∃ b_3, sm_R M a0 66 = some b_3 ∧ sm_iA M b_3 ∧ sm_in_ M b_3 x1 ∧ sm_wA 1 M b_3 ∧ ((y0 = 0 → ∃ b_9, sm_R (sm_putI M b_3 (x1).toNatClampNeg (sm_I M b_3 (x1).toNatClampNeg)) a0 73 = some b_9 ∧ sm_iA M b_9 ∧ sm_in_ M b_9 x2 ∧ sm_wA 1 M b_9 ∧ sm_Run (d + 1) 185 412 [some (.inr (some a0)), some (.inl x1), some (.inl x2), some (.inl x3), some (.inl x4), some (.inl x5), some (.inl x6), some (.inl x7), some (.inl x8), some (.inl y0)] [] (sm_putI (sm_putI M b_3 (x1).toNatClampNeg (sm_I M b_3 (x1).toNatClampNeg)) b_9 (x2).toNatClampNeg (sm_I (sm_putI M b_3 (x1).toNatClampNeg (sm_I M b_3 (x1).toNatClampNeg)) b_9 (x2).toNatClampNeg)) Q) ∧ (¬ (y0 = 0) → ∃ b_14, sm_R (sm_putI M b_3 (x1).toNatClampNeg (sm_I M b_3 (x1).toNatClampNeg)) a0 73 = some b_14 ∧ sm_wA 1 M b_14 ∧ sm_in_ M b_14 x2 ∧ sm_Run (d + 1) 185 412 [some (.inr (some a0)), some (.inl x1), some (.inl x2), some (.inl x3), some (.inl x4), some (.inl x5), some (.inl x6), some (.inl x7), some (.inl x8), some (.inl y0)] [] (sm_putI (sm_putI M b_3 (x1).toNatClampNeg (sm_I M b_3 (x1).toNatClampNeg)) b_14 (x2).toNatClampNeg 1) Q))) ∧ (¬ ((sm_I M a0 84) = 0) → ∃ b_18, sm_R M a0 66 = some b_18 ∧ sm_iA M b_18 ∧ sm_in_ M b_18 x1 ∧ sm_wA 1 M b_18 ∧ ((y0 = 0 → ∃ b_24, sm_R (sm_putI M b_18 (x1).toNatClampNeg (1 - (sm_I M b_18 (x1).toNatClampNeg))) a0 73 = some b_24 ∧ sm_iA M b_24 ∧ sm_in_ M b_24 x2 ∧ sm_wA 1 M b_24 ∧ sm_Run (d + 1) 185 412 [some (.inr (some a0)), some (.inl x1), some (.inl x2), some (.inl x3), some (.inl x4), some (.inl x5), some (.inl x6), some (.inl x7), some (.inl x8), some (.inl y0)] [] (sm_putI (sm_putI M b_18 (x1).toNatClampNeg (1 - (sm_I M b_18 (x1).toNatClampNeg))) b_24 (x2).toNatClampNeg (sm_I (sm_putI M b_18 (x1).toNatClampNeg (1 - (sm_I M b_18 (x1).toNatClampNeg))) b_24 (x2).toNatClampNeg)) Q) ∧ (¬ (y0 = 0) → ∃ b_29, sm_R (sm_putI M b_18 (x1).toNatClampNeg (1 - (sm_I M b_18 (x1).toNatClampNeg))) a0 73 = some b_29 ∧ sm_wA 1 M b_29 ∧ sm_in_ M b_29 x2 ∧ sm_Run (d + 1) 185 412 [some (.inr (some a0)), some (.inl x1), some (.inl x2), some (.inl x3), some (.inl x4), some (.inl x5), some (.inl x6), some (.inl x7), some (.inl x8), some (.inl y0)] [] (sm_putI (sm_putI M b_18 (x1).toNatClampNeg (1 - (sm_I M b_18 (x1).toNatClampNeg))) b_29 (x2).toNatClampNeg 1) Q))))) :
    sm_Run (d + 1) 185 298 [some (.inr (some a0)), some (.inl x1), some (.inl x2), some (.inl x3), some (.inl x4), some (.inl x5), some (.inl x6), some (.inl x7), some (.inl x8), z9] [.inl y0] M Q := by
  refine ru_go (t := (300, [some (.inr (some a0)), some (.inl x1), some (.inl x2), some (.inl x3), some (.inl x4), some (.inl x5), some (.inl x6), some (.inl x7), some (.inl x8), some (.inl y0)], [], M)) sm_a185_298 rfl rfl rfl ?_
  refine ru_go (t := (301, [some (.inr (some a0)), some (.inl x1), some (.inl x2), some (.inl x3), some (.inl x4), some (.inl x5), some (.inl x6), some (.inl x7), some (.inl x8), some (.inl y0)], [.inr (some a0)], M)) sm_a185_300 rfl rfl rfl ?_
  obtain ⟨h_1, h⟩ := h
  refine ru_go (t := (304, [some (.inr (some a0)), some (.inl x1), some (.inl x2), some (.inl x3), some (.inl x4), some (.inl x5), some (.inl x6), some (.inl x7), some (.inl x8), some (.inl y0)], [.inr (sm_R M a0 66)], M)) sm_a185_301 rfl rfl (st_getR h_1 rfl rfl) ?_
  refine ru_go (t := (305, [some (.inr (some a0)), some (.inl x1), some (.inl x2), some (.inl x3), some (.inl x4), some (.inl x5), some (.inl x6), some (.inl x7), some (.inl x8), some (.inl y0)], [.inl x1, .inr (sm_R M a0 66)], M)) sm_a185_304 rfl rfl rfl ?_
  refine ru_go (t := (306, [some (.inr (some a0)), some (.inl x1), some (.inl x2), some (.inl x3), some (.inl x4), some (.inl x5), some (.inl x6), some (.inl x7), some (.inl x8), some (.inl y0)], [.inr (some a0), .inl x1, .inr (sm_R M a0 66)], M)) sm_a185_305 rfl rfl rfl ?_
  refine ru_go (t := (309, [some (.inr (some a0)), some (.inl x1), some (.inl x2), some (.inl x3), some (.inl x4), some (.inl x5), some (.inl x6), some (.inl x7), some (.inl x8), some (.inl y0)], [.inl (sm_I M a0 84), .inl x1, .inr (sm_R M a0 66)], M)) sm_a185_306 rfl rfl (st_getI h_1 rfl) ?_
  refine ru_if (pc := 309) (p := 323) (p2 := 312) sm_a185_309 (by decide) rfl ⟨fun hc_2 => ?_, fun hc_2 => ?_⟩
  · have h := h.1 hc_2
    refine ru_go (t := (324, [some (.inr (some a0)), some (.inl x1), some (.inl x2), some (.inl x3), some (.inl x4), some (.inl x5), some (.inl x6), some (.inl x7), some (.inl x8), some (.inl y0)], [.inr (some a0), .inl x1, .inr (sm_R M a0 66)], M)) sm_a185_323 rfl rfl rfl ?_
    refine ru_go (t := (327, [some (.inr (some a0)), some (.inl x1), some (.inl x2), some (.inl x3), some (.inl x4), some (.inl x5), some (.inl x6), some (.inl x7), some (.inl x8), some (.inl y0)], [.inr (sm_R M a0 66), .inl x1, .inr (sm_R M a0 66)], M)) sm_a185_324 rfl rfl (st_getR h_1 rfl rfl) ?_
    refine ru_go (t := (328, [some (.inr (some a0)), some (.inl x1), some (.inl x2), some (.inl x3), some (.inl x4), some (.inl x5), some (.inl x6), some (.inl x7), some (.inl x8), some (.inl y0)], [.inl x1, .inr (sm_R M a0 66), .inl x1, .inr (sm_R M a0 66)], M)) sm_a185_327 rfl rfl rfl ?_
    obtain ⟨b_3, hb_4, h⟩ := h
    rw [hb_4]
    obtain ⟨h_5, h⟩ := h
    obtain ⟨h_6, h⟩ := h
    refine ru_go (t := (329, [some (.inr (some a0)), some (.inl x1), some (.inl x2), some (.inl x3), some (.inl x4), some (.inl x5), some (.inl x6), some (.inl x7), some (.inl x8), some (.inl y0)], [.inl (sm_I M b_3 (x1).toNatClampNeg), .inl x1, .inr (some b_3)], M)) sm_a185_328 rfl rfl (st_iald h_5 h_6) ?_
    obtain ⟨h_7, h⟩ := h
    refine ru_go (t := (330, [some (.inr (some a0)), some (.inl x1), some (.inl x2), some (.inl x3), some (.inl x4), some (.inl x5), some (.inl x6), some (.inl x7), some (.inl x8), some (.inl y0)], [], sm_putI M b_3 (x1).toNatClampNeg (sm_I M b_3 (x1).toNatClampNeg))) sm_a185_329 rfl rfl (st_iast h_7 h_6) ?_
    refine ru_go (t := (331, [some (.inr (some a0)), some (.inl x1), some (.inl x2), some (.inl x3), some (.inl x4), some (.inl x5), some (.inl x6), some (.inl x7), some (.inl x8), some (.inl y0)], [.inr (some a0)], sm_putI M b_3 (x1).toNatClampNeg (sm_I M b_3 (x1).toNatClampNeg))) sm_a185_330 rfl rfl rfl ?_
    refine ru_go (t := (334, [some (.inr (some a0)), some (.inl x1), some (.inl x2), some (.inl x3), some (.inl x4), some (.inl x5), some (.inl x6), some (.inl x7), some (.inl x8), some (.inl y0)], [.inr (sm_R (sm_putI M b_3 (x1).toNatClampNeg (sm_I M b_3 (x1).toNatClampNeg)) a0 73)], sm_putI M b_3 (x1).toNatClampNeg (sm_I M b_3 (x1).toNatClampNeg))) sm_a185_331 rfl rfl (st_getR h_1 rfl rfl) ?_
    refine ru_go (t := (335, [some (.inr (some a0)), some (.inl x1), some (.inl x2), some (.inl x3), some (.inl x4), some (.inl x5), some (.inl x6), some (.inl x7), some (.inl x8), some (.inl y0)], [.inl x2, .inr (sm_R (sm_putI M b_3 (x1).toNatClampNeg (sm_I M b_3 (x1).toNatClampNeg)) a0 73)], sm_putI M b_3 (x1).toNatClampNeg (sm_I M b_3 (x1).toNatClampNeg))) sm_a185_334 rfl rfl rfl ?_
    refine ru_go (t := (337, [some (.inr (some a0)), some (.inl x1), some (.inl x2), some (.inl x3), some (.inl x4), some (.inl x5), some (.inl x6), some (.inl x7), some (.inl x8), some (.inl y0)], [.inl y0, .inl x2, .inr (sm_R (sm_putI M b_3 (x1).toNatClampNeg (sm_I M b_3 (x1).toNatClampNeg)) a0 73)], sm_putI M b_3 (x1).toNatClampNeg (sm_I M b_3 (x1).toNatClampNeg))) sm_a185_335 rfl rfl rfl ?_
    refine ru_if (pc := 337) (p := 344) (p2 := 340) sm_a185_337 (by decide) rfl ⟨fun hc_8 => ?_, fun hc_8 => ?_⟩
    · have h := h.1 hc_8
      refine ru_go (t := (345, [some (.inr (some a0)), some (.inl x1), some (.inl x2), some (.inl x3), some (.inl x4), some (.inl x5), some (.inl x6), some (.inl x7), some (.inl x8), some (.inl y0)], [.inr (some a0), .inl x2, .inr (sm_R (sm_putI M b_3 (x1).toNatClampNeg (sm_I M b_3 (x1).toNatClampNeg)) a0 73)], sm_putI M b_3 (x1).toNatClampNeg (sm_I M b_3 (x1).toNatClampNeg))) sm_a185_344 rfl rfl rfl ?_
      refine ru_go (t := (348, [some (.inr (some a0)), some (.inl x1), some (.inl x2), some (.inl x3), some (.inl x4), some (.inl x5), some (.inl x6), some (.inl x7), some (.inl x8), some (.inl y0)], [.inr (sm_R (sm_putI M b_3 (x1).toNatClampNeg (sm_I M b_3 (x1).toNatClampNeg)) a0 73), .inl x2, .inr (sm_R (sm_putI M b_3 (x1).toNatClampNeg (sm_I M b_3 (x1).toNatClampNeg)) a0 73)], sm_putI M b_3 (x1).toNatClampNeg (sm_I M b_3 (x1).toNatClampNeg))) sm_a185_345 rfl rfl (st_getR h_1 rfl rfl) ?_
      refine ru_go (t := (349, [some (.inr (some a0)), some (.inl x1), some (.inl x2), some (.inl x3), some (.inl x4), some (.inl x5), some (.inl x6), some (.inl x7), some (.inl x8), some (.inl y0)], [.inl x2, .inr (sm_R (sm_putI M b_3 (x1).toNatClampNeg (sm_I M b_3 (x1).toNatClampNeg)) a0 73), .inl x2, .inr (sm_R (sm_putI M b_3 (x1).toNatClampNeg (sm_I M b_3 (x1).toNatClampNeg)) a0 73)], sm_putI M b_3 (x1).toNatClampNeg (sm_I M b_3 (x1).toNatClampNeg))) sm_a185_348 rfl rfl rfl ?_
      obtain ⟨b_9, hb_10, h⟩ := h
      rw [hb_10]
      obtain ⟨h_11, h⟩ := h
      obtain ⟨h_12, h⟩ := h
      refine ru_go (t := (350, [some (.inr (some a0)), some (.inl x1), some (.inl x2), some (.inl x3), some (.inl x4), some (.inl x5), some (.inl x6), some (.inl x7), some (.inl x8), some (.inl y0)], [.inl (sm_I (sm_putI M b_3 (x1).toNatClampNeg (sm_I M b_3 (x1).toNatClampNeg)) b_9 (x2).toNatClampNeg), .inl x2, .inr (some b_9)], sm_putI M b_3 (x1).toNatClampNeg (sm_I M b_3 (x1).toNatClampNeg))) sm_a185_349 rfl rfl (st_iald h_11 h_12) ?_
      obtain ⟨h_13, h⟩ := h
      refine ru_go (t := (351, [some (.inr (some a0)), some (.inl x1), some (.inl x2), some (.inl x3), some (.inl x4), some (.inl x5), some (.inl x6), some (.inl x7), some (.inl x8), some (.inl y0)], [], sm_putI (sm_putI M b_3 (x1).toNatClampNeg (sm_I M b_3 (x1).toNatClampNeg)) b_9 (x2).toNatClampNeg (sm_I (sm_putI M b_3 (x1).toNatClampNeg (sm_I M b_3 (x1).toNatClampNeg)) b_9 (x2).toNatClampNeg))) sm_a185_350 rfl rfl (st_iast h_13 h_12) ?_
      refine ru_go (t := (412, [some (.inr (some a0)), some (.inl x1), some (.inl x2), some (.inl x3), some (.inl x4), some (.inl x5), some (.inl x6), some (.inl x7), some (.inl x8), some (.inl y0)], [], sm_putI (sm_putI M b_3 (x1).toNatClampNeg (sm_I M b_3 (x1).toNatClampNeg)) b_9 (x2).toNatClampNeg (sm_I (sm_putI M b_3 (x1).toNatClampNeg (sm_I M b_3 (x1).toNatClampNeg)) b_9 (x2).toNatClampNeg))) sm_a185_351 rfl rfl (st_goto (pc := 351) (by decide)) ?_
      exact h
    · have h := h.2 hc_8
      refine ru_go (t := (341, [some (.inr (some a0)), some (.inl x1), some (.inl x2), some (.inl x3), some (.inl x4), some (.inl x5), some (.inl x6), some (.inl x7), some (.inl x8), some (.inl y0)], [.inl 1, .inl x2, .inr (sm_R (sm_putI M b_3 (x1).toNatClampNeg (sm_I M b_3 (x1).toNatClampNeg)) a0 73)], sm_putI M b_3 (x1).toNatClampNeg (sm_I M b_3 (x1).toNatClampNeg))) sm_a185_340 rfl rfl (st_iconst (by decide)) ?_
      refine ru_go (t := (350, [some (.inr (some a0)), some (.inl x1), some (.inl x2), some (.inl x3), some (.inl x4), some (.inl x5), some (.inl x6), some (.inl x7), some (.inl x8), some (.inl y0)], [.inl 1, .inl x2, .inr (sm_R (sm_putI M b_3 (x1).toNatClampNeg (sm_I M b_3 (x1).toNatClampNeg)) a0 73)], sm_putI M b_3 (x1).toNatClampNeg (sm_I M b_3 (x1).toNatClampNeg))) sm_a185_341 rfl rfl (st_goto (pc := 341) (by decide)) ?_
      obtain ⟨b_14, hb_15, h⟩ := h
      rw [hb_15]
      obtain ⟨h_16, h⟩ := h
      obtain ⟨h_17, h⟩ := h
      refine ru_go (t := (351, [some (.inr (some a0)), some (.inl x1), some (.inl x2), some (.inl x3), some (.inl x4), some (.inl x5), some (.inl x6), some (.inl x7), some (.inl x8), some (.inl y0)], [], sm_putI (sm_putI M b_3 (x1).toNatClampNeg (sm_I M b_3 (x1).toNatClampNeg)) b_14 (x2).toNatClampNeg 1)) sm_a185_350 rfl rfl (st_iast h_16 h_17) ?_
      refine ru_go (t := (412, [some (.inr (some a0)), some (.inl x1), some (.inl x2), some (.inl x3), some (.inl x4), some (.inl x5), some (.inl x6), some (.inl x7), some (.inl x8), some (.inl y0)], [], sm_putI (sm_putI M b_3 (x1).toNatClampNeg (sm_I M b_3 (x1).toNatClampNeg)) b_14 (x2).toNatClampNeg 1)) sm_a185_351 rfl rfl (st_goto (pc := 351) (by decide)) ?_
      exact h
  · have h := h.2 hc_2
    refine ru_go (t := (313, [some (.inr (some a0)), some (.inl x1), some (.inl x2), some (.inl x3), some (.inl x4), some (.inl x5), some (.inl x6), some (.inl x7), some (.inl x8), some (.inl y0)], [.inl 1, .inl x1, .inr (sm_R M a0 66)], M)) sm_a185_312 rfl rfl (st_iconst (by decide)) ?_
    refine ru_go (t := (314, [some (.inr (some a0)), some (.inl x1), some (.inl x2), some (.inl x3), some (.inl x4), some (.inl x5), some (.inl x6), some (.inl x7), some (.inl x8), some (.inl y0)], [.inr (some a0), .inl 1, .inl x1, .inr (sm_R M a0 66)], M)) sm_a185_313 rfl rfl rfl ?_
    refine ru_go (t := (317, [some (.inr (some a0)), some (.inl x1), some (.inl x2), some (.inl x3), some (.inl x4), some (.inl x5), some (.inl x6), some (.inl x7), some (.inl x8), some (.inl y0)], [.inr (sm_R M a0 66), .inl 1, .inl x1, .inr (sm_R M a0 66)], M)) sm_a185_314 rfl rfl (st_getR h_1 rfl rfl) ?_
    refine ru_go (t := (318, [some (.inr (some a0)), some (.inl x1), some (.inl x2), some (.inl x3), some (.inl x4), some (.inl x5), some (.inl x6), some (.inl x7), some (.inl x8), some (.inl y0)], [.inl x1, .inr (sm_R M a0 66), .inl 1, .inl x1, .inr (sm_R M a0 66)], M)) sm_a185_317 rfl rfl rfl ?_
    obtain ⟨b_18, hb_19, h⟩ := h
    rw [hb_19]
    obtain ⟨h_20, h⟩ := h
    obtain ⟨h_21, h⟩ := h
    refine ru_go (t := (319, [some (.inr (some a0)), some (.inl x1), some (.inl x2), some (.inl x3), some (.inl x4), some (.inl x5), some (.inl x6), some (.inl x7), some (.inl x8), some (.inl y0)], [.inl (sm_I M b_18 (x1).toNatClampNeg), .inl 1, .inl x1, .inr (some b_18)], M)) sm_a185_318 rfl rfl (st_iald h_20 h_21) ?_
    refine ru_go (t := (320, [some (.inr (some a0)), some (.inl x1), some (.inl x2), some (.inl x3), some (.inl x4), some (.inl x5), some (.inl x6), some (.inl x7), some (.inl x8), some (.inl y0)], [.inl (1 - (sm_I M b_18 (x1).toNatClampNeg)), .inl x1, .inr (some b_18)], M)) sm_a185_319 rfl rfl rfl ?_
    refine ru_go (t := (329, [some (.inr (some a0)), some (.inl x1), some (.inl x2), some (.inl x3), some (.inl x4), some (.inl x5), some (.inl x6), some (.inl x7), some (.inl x8), some (.inl y0)], [.inl (1 - (sm_I M b_18 (x1).toNatClampNeg)), .inl x1, .inr (some b_18)], M)) sm_a185_320 rfl rfl (st_goto (pc := 320) (by decide)) ?_
    obtain ⟨h_22, h⟩ := h
    refine ru_go (t := (330, [some (.inr (some a0)), some (.inl x1), some (.inl x2), some (.inl x3), some (.inl x4), some (.inl x5), some (.inl x6), some (.inl x7), some (.inl x8), some (.inl y0)], [], sm_putI M b_18 (x1).toNatClampNeg (1 - (sm_I M b_18 (x1).toNatClampNeg)))) sm_a185_329 rfl rfl (st_iast h_22 h_21) ?_
    refine ru_go (t := (331, [some (.inr (some a0)), some (.inl x1), some (.inl x2), some (.inl x3), some (.inl x4), some (.inl x5), some (.inl x6), some (.inl x7), some (.inl x8), some (.inl y0)], [.inr (some a0)], sm_putI M b_18 (x1).toNatClampNeg (1 - (sm_I M b_18 (x1).toNatClampNeg)))) sm_a185_330 rfl rfl rfl ?_
    refine ru_go (t := (334, [some (.inr (some a0)), some (.inl x1), some (.inl x2), some (.inl x3), some (.inl x4), some (.inl x5), some (.inl x6), some (.inl x7), some (.inl x8), some (.inl y0)], [.inr (sm_R (sm_putI M b_18 (x1).toNatClampNeg (1 - (sm_I M b_18 (x1).toNatClampNeg))) a0 73)], sm_putI M b_18 (x1).toNatClampNeg (1 - (sm_I M b_18 (x1).toNatClampNeg)))) sm_a185_331 rfl rfl (st_getR h_1 rfl rfl) ?_
    refine ru_go (t := (335, [some (.inr (some a0)), some (.inl x1), some (.inl x2), some (.inl x3), some (.inl x4), some (.inl x5), some (.inl x6), some (.inl x7), some (.inl x8), some (.inl y0)], [.inl x2, .inr (sm_R (sm_putI M b_18 (x1).toNatClampNeg (1 - (sm_I M b_18 (x1).toNatClampNeg))) a0 73)], sm_putI M b_18 (x1).toNatClampNeg (1 - (sm_I M b_18 (x1).toNatClampNeg)))) sm_a185_334 rfl rfl rfl ?_
    refine ru_go (t := (337, [some (.inr (some a0)), some (.inl x1), some (.inl x2), some (.inl x3), some (.inl x4), some (.inl x5), some (.inl x6), some (.inl x7), some (.inl x8), some (.inl y0)], [.inl y0, .inl x2, .inr (sm_R (sm_putI M b_18 (x1).toNatClampNeg (1 - (sm_I M b_18 (x1).toNatClampNeg))) a0 73)], sm_putI M b_18 (x1).toNatClampNeg (1 - (sm_I M b_18 (x1).toNatClampNeg)))) sm_a185_335 rfl rfl rfl ?_
    refine ru_if (pc := 337) (p := 344) (p2 := 340) sm_a185_337 (by decide) rfl ⟨fun hc_23 => ?_, fun hc_23 => ?_⟩
    · have h := h.1 hc_23
      refine ru_go (t := (345, [some (.inr (some a0)), some (.inl x1), some (.inl x2), some (.inl x3), some (.inl x4), some (.inl x5), some (.inl x6), some (.inl x7), some (.inl x8), some (.inl y0)], [.inr (some a0), .inl x2, .inr (sm_R (sm_putI M b_18 (x1).toNatClampNeg (1 - (sm_I M b_18 (x1).toNatClampNeg))) a0 73)], sm_putI M b_18 (x1).toNatClampNeg (1 - (sm_I M b_18 (x1).toNatClampNeg)))) sm_a185_344 rfl rfl rfl ?_
      refine ru_go (t := (348, [some (.inr (some a0)), some (.inl x1), some (.inl x2), some (.inl x3), some (.inl x4), some (.inl x5), some (.inl x6), some (.inl x7), some (.inl x8), some (.inl y0)], [.inr (sm_R (sm_putI M b_18 (x1).toNatClampNeg (1 - (sm_I M b_18 (x1).toNatClampNeg))) a0 73), .inl x2, .inr (sm_R (sm_putI M b_18 (x1).toNatClampNeg (1 - (sm_I M b_18 (x1).toNatClampNeg))) a0 73)], sm_putI M b_18 (x1).toNatClampNeg (1 - (sm_I M b_18 (x1).toNatClampNeg)))) sm_a185_345 rfl rfl (st_getR h_1 rfl rfl) ?_
      refine ru_go (t := (349, [some (.inr (some a0)), some (.inl x1), some (.inl x2), some (.inl x3), some (.inl x4), some (.inl x5), some (.inl x6), some (.inl x7), some (.inl x8), some (.inl y0)], [.inl x2, .inr (sm_R (sm_putI M b_18 (x1).toNatClampNeg (1 - (sm_I M b_18 (x1).toNatClampNeg))) a0 73), .inl x2, .inr (sm_R (sm_putI M b_18 (x1).toNatClampNeg (1 - (sm_I M b_18 (x1).toNatClampNeg))) a0 73)], sm_putI M b_18 (x1).toNatClampNeg (1 - (sm_I M b_18 (x1).toNatClampNeg)))) sm_a185_348 rfl rfl rfl ?_
      obtain ⟨b_24, hb_25, h⟩ := h
      rw [hb_25]
      obtain ⟨h_26, h⟩ := h
      obtain ⟨h_27, h⟩ := h
      refine ru_go (t := (350, [some (.inr (some a0)), some (.inl x1), some (.inl x2), some (.inl x3), some (.inl x4), some (.inl x5), some (.inl x6), some (.inl x7), some (.inl x8), some (.inl y0)], [.inl (sm_I (sm_putI M b_18 (x1).toNatClampNeg (1 - (sm_I M b_18 (x1).toNatClampNeg))) b_24 (x2).toNatClampNeg), .inl x2, .inr (some b_24)], sm_putI M b_18 (x1).toNatClampNeg (1 - (sm_I M b_18 (x1).toNatClampNeg)))) sm_a185_349 rfl rfl (st_iald h_26 h_27) ?_
      obtain ⟨h_28, h⟩ := h
      refine ru_go (t := (351, [some (.inr (some a0)), some (.inl x1), some (.inl x2), some (.inl x3), some (.inl x4), some (.inl x5), some (.inl x6), some (.inl x7), some (.inl x8), some (.inl y0)], [], sm_putI (sm_putI M b_18 (x1).toNatClampNeg (1 - (sm_I M b_18 (x1).toNatClampNeg))) b_24 (x2).toNatClampNeg (sm_I (sm_putI M b_18 (x1).toNatClampNeg (1 - (sm_I M b_18 (x1).toNatClampNeg))) b_24 (x2).toNatClampNeg))) sm_a185_350 rfl rfl (st_iast h_28 h_27) ?_
      refine ru_go (t := (412, [some (.inr (some a0)), some (.inl x1), some (.inl x2), some (.inl x3), some (.inl x4), some (.inl x5), some (.inl x6), some (.inl x7), some (.inl x8), some (.inl y0)], [], sm_putI (sm_putI M b_18 (x1).toNatClampNeg (1 - (sm_I M b_18 (x1).toNatClampNeg))) b_24 (x2).toNatClampNeg (sm_I (sm_putI M b_18 (x1).toNatClampNeg (1 - (sm_I M b_18 (x1).toNatClampNeg))) b_24 (x2).toNatClampNeg))) sm_a185_351 rfl rfl (st_goto (pc := 351) (by decide)) ?_
      exact h
    · have h := h.2 hc_23
      refine ru_go (t := (341, [some (.inr (some a0)), some (.inl x1), some (.inl x2), some (.inl x3), some (.inl x4), some (.inl x5), some (.inl x6), some (.inl x7), some (.inl x8), some (.inl y0)], [.inl 1, .inl x2, .inr (sm_R (sm_putI M b_18 (x1).toNatClampNeg (1 - (sm_I M b_18 (x1).toNatClampNeg))) a0 73)], sm_putI M b_18 (x1).toNatClampNeg (1 - (sm_I M b_18 (x1).toNatClampNeg)))) sm_a185_340 rfl rfl (st_iconst (by decide)) ?_
      refine ru_go (t := (350, [some (.inr (some a0)), some (.inl x1), some (.inl x2), some (.inl x3), some (.inl x4), some (.inl x5), some (.inl x6), some (.inl x7), some (.inl x8), some (.inl y0)], [.inl 1, .inl x2, .inr (sm_R (sm_putI M b_18 (x1).toNatClampNeg (1 - (sm_I M b_18 (x1).toNatClampNeg))) a0 73)], sm_putI M b_18 (x1).toNatClampNeg (1 - (sm_I M b_18 (x1).toNatClampNeg)))) sm_a185_341 rfl rfl (st_goto (pc := 341) (by decide)) ?_
      obtain ⟨b_29, hb_30, h⟩ := h
      rw [hb_30]
      obtain ⟨h_31, h⟩ := h
      obtain ⟨h_32, h⟩ := h
      refine ru_go (t := (351, [some (.inr (some a0)), some (.inl x1), some (.inl x2), some (.inl x3), some (.inl x4), some (.inl x5), some (.inl x6), some (.inl x7), some (.inl x8), some (.inl y0)], [], sm_putI (sm_putI M b_18 (x1).toNatClampNeg (1 - (sm_I M b_18 (x1).toNatClampNeg))) b_29 (x2).toNatClampNeg 1)) sm_a185_350 rfl rfl (st_iast h_31 h_32) ?_
      refine ru_go (t := (412, [some (.inr (some a0)), some (.inl x1), some (.inl x2), some (.inl x3), some (.inl x4), some (.inl x5), some (.inl x6), some (.inl x7), some (.inl x8), some (.inl y0)], [], sm_putI (sm_putI M b_18 (x1).toNatClampNeg (1 - (sm_I M b_18 (x1).toNatClampNeg))) b_29 (x2).toNatClampNeg 1)) sm_a185_351 rfl rfl (st_goto (pc := 351) (by decide)) ?_
      exact h
theorem bb_185_386 {d : Nat} {M : sm_M} {Q : Option sm_V → sm_M → Prop} {a0 : Nat} {x1 : Int32} {x2 : Int32} {x3 : Int32} {x4 : Int32} {x5 : Int32} {x6 : Int32} {x7 : Int32} {x8 : Int32} {z9 : Option sm_V}
    (h : sm_K M a0 = 39 ∧ ∃ b_2, sm_R M a0 74 = some b_2 ∧ sm_iA M b_2 ∧ sm_in_ M b_2 x2 ∧ ∃ b_6, sm_R M a0 75 = some b_6 ∧ sm_iA M b_6 ∧ sm_in_ M b_6 x2 ∧ ((¬ (sm_I M b_2 (x2).toNatClampNeg) = (sm_I M b_6 (x2).toNatClampNeg) → ∃ b_11, sm_R M a0 73 = some b_11 ∧ sm_wA 1 M b_11 ∧ sm_in_ M b_11 x2 ∧ sm_Run (d + 1) 185 412 [some (.inr (some a0)), some (.inl x1), some (.inl x2), some (.inl x3), some (.inl x4), some (.inl x5), some (.inl x6), some (.inl x7), some (.inl x8), z9] [] (sm_putI M b_11 (x2).toNatClampNeg 0) Q) ∧ (¬ (¬ (sm_I M b_2 (x2).toNatClampNeg) = (sm_I M b_6 (x2).toNatClampNeg)) → ∃ b_15, sm_R M a0 73 = some b_15 ∧ sm_wA 1 M b_15 ∧ sm_in_ M b_15 x2 ∧ sm_Run (d + 1) 185 412 [some (.inr (some a0)), some (.inl x1), some (.inl x2), some (.inl x3), some (.inl x4), some (.inl x5), some (.inl x6), some (.inl x7), some (.inl x8), z9] [] (sm_putI M b_15 (x2).toNatClampNeg 1) Q))) :
    sm_Run (d + 1) 185 386 [some (.inr (some a0)), some (.inl x1), some (.inl x2), some (.inl x3), some (.inl x4), some (.inl x5), some (.inl x6), some (.inl x7), some (.inl x8), z9] [] M Q := by
  refine ru_go (t := (387, [some (.inr (some a0)), some (.inl x1), some (.inl x2), some (.inl x3), some (.inl x4), some (.inl x5), some (.inl x6), some (.inl x7), some (.inl x8), z9], [.inr (some a0)], M)) sm_a185_386 rfl rfl rfl ?_
  obtain ⟨h_1, h⟩ := h
  refine ru_go (t := (390, [some (.inr (some a0)), some (.inl x1), some (.inl x2), some (.inl x3), some (.inl x4), some (.inl x5), some (.inl x6), some (.inl x7), some (.inl x8), z9], [.inr (sm_R M a0 73)], M)) sm_a185_387 rfl rfl (st_getR h_1 rfl rfl) ?_
  refine ru_go (t := (391, [some (.inr (some a0)), some (.inl x1), some (.inl x2), some (.inl x3), some (.inl x4), some (.inl x5), some (.inl x6), some (.inl x7), some (.inl x8), z9], [.inl x2, .inr (sm_R M a0 73)], M)) sm_a185_390 rfl rfl rfl ?_
  refine ru_go (t := (392, [some (.inr (some a0)), some (.inl x1), some (.inl x2), some (.inl x3), some (.inl x4), some (.inl x5), some (.inl x6), some (.inl x7), some (.inl x8), z9], [.inr (some a0), .inl x2, .inr (sm_R M a0 73)], M)) sm_a185_391 rfl rfl rfl ?_
  refine ru_go (t := (395, [some (.inr (some a0)), some (.inl x1), some (.inl x2), some (.inl x3), some (.inl x4), some (.inl x5), some (.inl x6), some (.inl x7), some (.inl x8), z9], [.inr (sm_R M a0 74), .inl x2, .inr (sm_R M a0 73)], M)) sm_a185_392 rfl rfl (st_getR h_1 rfl rfl) ?_
  refine ru_go (t := (396, [some (.inr (some a0)), some (.inl x1), some (.inl x2), some (.inl x3), some (.inl x4), some (.inl x5), some (.inl x6), some (.inl x7), some (.inl x8), z9], [.inl x2, .inr (sm_R M a0 74), .inl x2, .inr (sm_R M a0 73)], M)) sm_a185_395 rfl rfl rfl ?_
  obtain ⟨b_2, hb_3, h⟩ := h
  rw [hb_3]
  obtain ⟨h_4, h⟩ := h
  obtain ⟨h_5, h⟩ := h
  refine ru_go (t := (397, [some (.inr (some a0)), some (.inl x1), some (.inl x2), some (.inl x3), some (.inl x4), some (.inl x5), some (.inl x6), some (.inl x7), some (.inl x8), z9], [.inl (sm_I M b_2 (x2).toNatClampNeg), .inl x2, .inr (sm_R M a0 73)], M)) sm_a185_396 rfl rfl (st_iald h_4 h_5) ?_
  refine ru_go (t := (398, [some (.inr (some a0)), some (.inl x1), some (.inl x2), some (.inl x3), some (.inl x4), some (.inl x5), some (.inl x6), some (.inl x7), some (.inl x8), z9], [.inr (some a0), .inl (sm_I M b_2 (x2).toNatClampNeg), .inl x2, .inr (sm_R M a0 73)], M)) sm_a185_397 rfl rfl rfl ?_
  refine ru_go (t := (401, [some (.inr (some a0)), some (.inl x1), some (.inl x2), some (.inl x3), some (.inl x4), some (.inl x5), some (.inl x6), some (.inl x7), some (.inl x8), z9], [.inr (sm_R M a0 75), .inl (sm_I M b_2 (x2).toNatClampNeg), .inl x2, .inr (sm_R M a0 73)], M)) sm_a185_398 rfl rfl (st_getR h_1 rfl rfl) ?_
  refine ru_go (t := (402, [some (.inr (some a0)), some (.inl x1), some (.inl x2), some (.inl x3), some (.inl x4), some (.inl x5), some (.inl x6), some (.inl x7), some (.inl x8), z9], [.inl x2, .inr (sm_R M a0 75), .inl (sm_I M b_2 (x2).toNatClampNeg), .inl x2, .inr (sm_R M a0 73)], M)) sm_a185_401 rfl rfl rfl ?_
  obtain ⟨b_6, hb_7, h⟩ := h
  rw [hb_7]
  obtain ⟨h_8, h⟩ := h
  obtain ⟨h_9, h⟩ := h
  refine ru_go (t := (403, [some (.inr (some a0)), some (.inl x1), some (.inl x2), some (.inl x3), some (.inl x4), some (.inl x5), some (.inl x6), some (.inl x7), some (.inl x8), z9], [.inl (sm_I M b_6 (x2).toNatClampNeg), .inl (sm_I M b_2 (x2).toNatClampNeg), .inl x2, .inr (sm_R M a0 73)], M)) sm_a185_402 rfl rfl (st_iald h_8 h_9) ?_
  refine ru_icmp (pc := 403) (p := 410) (p2 := 406) sm_a185_403 (by decide) rfl ⟨fun hc_10 => ?_, fun hc_10 => ?_⟩
  · have h := h.1 hc_10
    refine ru_go (t := (411, [some (.inr (some a0)), some (.inl x1), some (.inl x2), some (.inl x3), some (.inl x4), some (.inl x5), some (.inl x6), some (.inl x7), some (.inl x8), z9], [.inl 0, .inl x2, .inr (sm_R M a0 73)], M)) sm_a185_410 rfl rfl (st_iconst (by decide)) ?_
    obtain ⟨b_11, hb_12, h⟩ := h
    rw [hb_12]
    obtain ⟨h_13, h⟩ := h
    obtain ⟨h_14, h⟩ := h
    refine ru_go (t := (412, [some (.inr (some a0)), some (.inl x1), some (.inl x2), some (.inl x3), some (.inl x4), some (.inl x5), some (.inl x6), some (.inl x7), some (.inl x8), z9], [], sm_putI M b_11 (x2).toNatClampNeg 0)) sm_a185_411 rfl rfl (st_iast h_13 h_14) ?_
    exact h
  · have h := h.2 hc_10
    refine ru_go (t := (407, [some (.inr (some a0)), some (.inl x1), some (.inl x2), some (.inl x3), some (.inl x4), some (.inl x5), some (.inl x6), some (.inl x7), some (.inl x8), z9], [.inl 1, .inl x2, .inr (sm_R M a0 73)], M)) sm_a185_406 rfl rfl (st_iconst (by decide)) ?_
    refine ru_go (t := (411, [some (.inr (some a0)), some (.inl x1), some (.inl x2), some (.inl x3), some (.inl x4), some (.inl x5), some (.inl x6), some (.inl x7), some (.inl x8), z9], [.inl 1, .inl x2, .inr (sm_R M a0 73)], M)) sm_a185_407 rfl rfl (st_goto (pc := 407) (by decide)) ?_
    obtain ⟨b_15, hb_16, h⟩ := h
    rw [hb_16]
    obtain ⟨h_17, h⟩ := h
    obtain ⟨h_18, h⟩ := h
    refine ru_go (t := (412, [some (.inr (some a0)), some (.inl x1), some (.inl x2), some (.inl x3), some (.inl x4), some (.inl x5), some (.inl x6), some (.inl x7), some (.inl x8), z9], [], sm_putI M b_15 (x2).toNatClampNeg 1)) sm_a185_411 rfl rfl (st_iast h_17 h_18) ?_
    exact h
theorem bb_185_412 {d : Nat} {M : sm_M} {Q : Option sm_V → sm_M → Prop} {a0 : Nat} {x1 : Int32} {x2 : Int32} {x3 : Int32} {x4 : Int32} {x5 : Int32} {x6 : Int32} {x7 : Int32} {x8 : Int32} {z9 : Option sm_V}
    (h : sm_K M a0 = 39 ∧ ∃ b_2, sm_R M a0 73 = some b_2 ∧ sm_iA M b_2 ∧ sm_in_ M b_2 x2 ∧ (((sm_I M b_2 (x2).toNatClampNeg) ≤ 1 → sm_fit .boolean x7 = true ∧ Q (some (.inl x7)) M) ∧ (¬ ((sm_I M b_2 (x2).toNatClampNeg) ≤ 1) → ∃ b_8, sm_R M a0 67 = some b_8 ∧ sm_wZ 1 M b_8 ∧ sm_in_ M b_8 x1 ∧ sm_fit .boolean x7 = true ∧ Q (some (.inl x7)) (sm_putI M b_8 (x1).toNatClampNeg 0)))) :
    sm_Run (d + 1) 185 412 [some (.inr (some a0)), some (.inl x1), some (.inl x2), some (.inl x3), some (.inl x4), some (.inl x5), some (.inl x6), some (.inl x7), some (.inl x8), z9] [] M Q := by
  refine ru_go (t := (413, [some (.inr (some a0)), some (.inl x1), some (.inl x2), some (.inl x3), some (.inl x4), some (.inl x5), some (.inl x6), some (.inl x7), some (.inl x8), z9], [.inr (some a0)], M)) sm_a185_412 rfl rfl rfl ?_
  obtain ⟨h_1, h⟩ := h
  refine ru_go (t := (416, [some (.inr (some a0)), some (.inl x1), some (.inl x2), some (.inl x3), some (.inl x4), some (.inl x5), some (.inl x6), some (.inl x7), some (.inl x8), z9], [.inr (sm_R M a0 73)], M)) sm_a185_413 rfl rfl (st_getR h_1 rfl rfl) ?_
  refine ru_go (t := (417, [some (.inr (some a0)), some (.inl x1), some (.inl x2), some (.inl x3), some (.inl x4), some (.inl x5), some (.inl x6), some (.inl x7), some (.inl x8), z9], [.inl x2, .inr (sm_R M a0 73)], M)) sm_a185_416 rfl rfl rfl ?_
  obtain ⟨b_2, hb_3, h⟩ := h
  rw [hb_3]
  obtain ⟨h_4, h⟩ := h
  obtain ⟨h_5, h⟩ := h
  refine ru_go (t := (418, [some (.inr (some a0)), some (.inl x1), some (.inl x2), some (.inl x3), some (.inl x4), some (.inl x5), some (.inl x6), some (.inl x7), some (.inl x8), z9], [.inl (sm_I M b_2 (x2).toNatClampNeg)], M)) sm_a185_417 rfl rfl (st_iald h_4 h_5) ?_
  refine ru_go (t := (419, [some (.inr (some a0)), some (.inl x1), some (.inl x2), some (.inl x3), some (.inl x4), some (.inl x5), some (.inl x6), some (.inl x7), some (.inl x8), z9], [.inl 1, .inl (sm_I M b_2 (x2).toNatClampNeg)], M)) sm_a185_418 rfl rfl (st_iconst (by decide)) ?_
  refine ru_icmp (pc := 419) (p := 429) (p2 := 422) sm_a185_419 (by decide) rfl ⟨fun hc_6 => ?_, fun hc_6 => ?_⟩
  · have h := h.1 hc_6
    refine ru_go (t := (431, [some (.inr (some a0)), some (.inl x1), some (.inl x2), some (.inl x3), some (.inl x4), some (.inl x5), some (.inl x6), some (.inl x7), some (.inl x8), z9], [.inl x7], M)) sm_a185_429 rfl rfl rfl ?_
    obtain ⟨h_7, h⟩ := h
    exact ru_ret sm_a185_431 (sm_rvz rfl h_7) h
  · have h := h.2 hc_6
    refine ru_go (t := (423, [some (.inr (some a0)), some (.inl x1), some (.inl x2), some (.inl x3), some (.inl x4), some (.inl x5), some (.inl x6), some (.inl x7), some (.inl x8), z9], [.inr (some a0)], M)) sm_a185_422 rfl rfl rfl ?_
    refine ru_go (t := (426, [some (.inr (some a0)), some (.inl x1), some (.inl x2), some (.inl x3), some (.inl x4), some (.inl x5), some (.inl x6), some (.inl x7), some (.inl x8), z9], [.inr (sm_R M a0 67)], M)) sm_a185_423 rfl rfl (st_getR h_1 rfl rfl) ?_
    refine ru_go (t := (427, [some (.inr (some a0)), some (.inl x1), some (.inl x2), some (.inl x3), some (.inl x4), some (.inl x5), some (.inl x6), some (.inl x7), some (.inl x8), z9], [.inl x1, .inr (sm_R M a0 67)], M)) sm_a185_426 rfl rfl rfl ?_
    refine ru_go (t := (428, [some (.inr (some a0)), some (.inl x1), some (.inl x2), some (.inl x3), some (.inl x4), some (.inl x5), some (.inl x6), some (.inl x7), some (.inl x8), z9], [.inl 0, .inl x1, .inr (sm_R M a0 67)], M)) sm_a185_427 rfl rfl (st_iconst (by decide)) ?_
    obtain ⟨b_8, hb_9, h⟩ := h
    rw [hb_9]
    obtain ⟨h_10, h⟩ := h
    obtain ⟨h_11, h⟩ := h
    refine ru_go (t := (429, [some (.inr (some a0)), some (.inl x1), some (.inl x2), some (.inl x3), some (.inl x4), some (.inl x5), some (.inl x6), some (.inl x7), some (.inl x8), z9], [], sm_putI M b_8 (x1).toNatClampNeg 0)) sm_a185_428 rfl rfl (st_zast h_10 h_11 (by decide)) ?_
    refine ru_go (t := (431, [some (.inr (some a0)), some (.inl x1), some (.inl x2), some (.inl x3), some (.inl x4), some (.inl x5), some (.inl x6), some (.inl x7), some (.inl x8), z9], [.inl x7], sm_putI M b_8 (x1).toNatClampNeg 0)) sm_a185_429 rfl rfl rfl ?_
    obtain ⟨h_12, h⟩ := h
    exact ru_ret sm_a185_431 (sm_rvz rfl h_12) h

/-! WireBusModel.waiting:(II)I -/
theorem sm_a186_0 : sm_at 186 0 = some (.iconst 0, 1, (0, 0, 0, 0)) := by decide +kernel
theorem sm_a186_1 : sm_at 186 1 = some (.istore_n 3, 1, (0, 0, 0, 0)) := by decide +kernel
theorem sm_a186_2 : sm_at 186 2 = some (.iload_n 3, 1, (0, 0, 0, 0)) := by decide +kernel
theorem sm_a186_3 : sm_at 186 3 = some (.aload_n 0, 1, (0, 0, 0, 0)) := by decide +kernel
theorem sm_a186_4 : sm_at 186 4 = some (.getfield 332, 3, (12, 70, 0, 1253)) := by decide +kernel
theorem sm_a186_7 : sm_at 186 7 = some (.if_icmp .ge 40, 3, (0, 0, 0, 0)) := by decide +kernel
theorem sm_a186_10 : sm_at 186 10 = some (.aload_n 0, 1, (0, 0, 0, 0)) := by decide +kernel
theorem sm_a186_11 : sm_at 186 11 = some (.getfield 191, 3, (12, 73, 0, 1256)) := by decide +kernel
theorem sm_a186_14 : sm_at 186 14 = some (.iload_n 3, 1, (0, 0, 0, 0)) := by decide +kernel
theorem sm_a186_15 : sm_at 186 15 = some (.iaload, 1, (0, 0, 0, 0)) := by decide +kernel
theorem sm_a186_16 : sm_at 186 16 = some (.ifCond .ne 25, 3, (0, 0, 0, 0)) := by decide +kernel
theorem sm_a186_19 : sm_at 186 19 = some (.aload_n 0, 1, (0, 0, 0, 0)) := by decide +kernel
theorem sm_a186_20 : sm_at 186 20 = some (.getfield 185, 3, (12, 71, 0, 1254)) := by decide +kernel
theorem sm_a186_23 : sm_at 186 23 = some (.iload_n 3, 1, (0, 0, 0, 0)) := by decide +kernel
theorem sm_a186_24 : sm_at 186 24 = some (.iaload, 1, (0, 0, 0, 0)) := by decide +kernel
theorem sm_a186_25 : sm_at 186 25 = some (.iload_n 1, 1, (0, 0, 0, 0)) := by decide +kernel
theorem sm_a186_26 : sm_at 186 26 = some (.if_icmp .ne 15, 3, (0, 0, 0, 0)) := by decide +kernel
theorem sm_a186_29 : sm_at 186 29 = some (.aload_n 0, 1, (0, 0, 0, 0)) := by decide +kernel
theorem sm_a186_30 : sm_at 186 30 = some (.getfield 188, 3, (12, 72, 0, 1255)) := by decide +kernel
theorem sm_a186_33 : sm_at 186 33 = some (.iload_n 3, 1, (0, 0, 0, 0)) := by decide +kernel
theorem sm_a186_34 : sm_at 186 34 = some (.iaload, 1, (0, 0, 0, 0)) := by decide +kernel
theorem sm_a186_35 : sm_at 186 35 = some (.iload_n 2, 1, (0, 0, 0, 0)) := by decide +kernel
theorem sm_a186_36 : sm_at 186 36 = some (.if_icmp .ne 5, 3, (0, 0, 0, 0)) := by decide +kernel
theorem sm_a186_39 : sm_at 186 39 = some (.iload_n 3, 1, (0, 0, 0, 0)) := by decide +kernel
theorem sm_a186_40 : sm_at 186 40 = some (.ireturn, 1, (0, 0, 0, 0)) := by decide +kernel
theorem sm_a186_41 : sm_at 186 41 = some (.iinc 3 1, 3, (0, 0, 0, 0)) := by decide +kernel
theorem sm_a186_44 : sm_at 186 44 = some (.goto (-42), 3, (0, 0, 0, 0)) := by decide +kernel
theorem sm_a186_47 : sm_at 186 47 = some (.iconst (-1), 1, (0, 0, 0, 0)) := by decide +kernel
theorem sm_a186_48 : sm_at 186 48 = some (.ireturn, 1, (0, 0, 0, 0)) := by decide +kernel
theorem bb_186_0 {d : Nat} {M : sm_M} {Q : Option sm_V → sm_M → Prop} {a0 : Nat} {x1 : Int32} {x2 : Int32} {z3 : Option sm_V}
    (h : sm_Run d 186 2 [some (.inr (some a0)), some (.inl x1), some (.inl x2), some (.inl 0)] [] M Q) :
    sm_Run d 186 0 [some (.inr (some a0)), some (.inl x1), some (.inl x2), z3] [] M Q := by
  refine ru_go (t := (1, [some (.inr (some a0)), some (.inl x1), some (.inl x2), z3], [.inl 0], M)) sm_a186_0 rfl rfl (st_iconst (by decide)) ?_
  refine ru_go (t := (2, [some (.inr (some a0)), some (.inl x1), some (.inl x2), some (.inl 0)], [], M)) sm_a186_1 rfl rfl rfl ?_
  exact h
theorem bb_186_2 {d : Nat} {M : sm_M} {Q : Option sm_V → sm_M → Prop} {a0 : Nat} {x1 : Int32} {x2 : Int32} {x3 : Int32}
    (h : sm_K M a0 = 39 ∧ (((sm_I M a0 70) ≤ x3 → Q (some (.inl (-1))) M) ∧ (¬ ((sm_I M a0 70) ≤ x3) → ∃ b_3, sm_R M a0 73 = some b_3 ∧ sm_iA M b_3 ∧ sm_in_ M b_3 x3 ∧ ((¬ (sm_I M b_3 (x3).toNatClampNeg) = 0 → sm_Run d 186 2 [some (.inr (some a0)), some (.inl x1), some (.inl x2), some (.inl (x3 + 1))] [] M Q) ∧ (¬ (¬ (sm_I M b_3 (x3).toNatClampNeg) = 0) → ∃ b_8, sm_R M a0 71 = some b_8 ∧ sm_iA M b_8 ∧ sm_in_ M b_8 x3 ∧ ((¬ (sm_I M b_8 (x3).toNatClampNeg) = x1 → sm_Run d 186 2 [some (.inr (some a0)), some (.inl x1), some (.inl x2), some (.inl (x3 + 1))] [] M Q) ∧ (¬ (¬ (sm_I M b_8 (x3).toNatClampNeg) = x1) → ∃ b_13, sm_R M a0 72 = some b_13 ∧ sm_iA M b_13 ∧ sm_in_ M b_13 x3 ∧ ((¬ (sm_I M b_13 (x3).toNatClampNeg) = x2 → sm_Run d 186 2 [some (.inr (some a0)), some (.inl x1), some (.inl x2), some (.inl (x3 + 1))] [] M Q) ∧ (¬ (¬ (sm_I M b_13 (x3).toNatClampNeg) = x2) → Q (some (.inl x3)) M))))))))) :
    sm_Run d 186 2 [some (.inr (some a0)), some (.inl x1), some (.inl x2), some (.inl x3)] [] M Q := by
  refine ru_go (t := (3, [some (.inr (some a0)), some (.inl x1), some (.inl x2), some (.inl x3)], [.inl x3], M)) sm_a186_2 rfl rfl rfl ?_
  refine ru_go (t := (4, [some (.inr (some a0)), some (.inl x1), some (.inl x2), some (.inl x3)], [.inr (some a0), .inl x3], M)) sm_a186_3 rfl rfl rfl ?_
  obtain ⟨h_1, h⟩ := h
  refine ru_go (t := (7, [some (.inr (some a0)), some (.inl x1), some (.inl x2), some (.inl x3)], [.inl (sm_I M a0 70), .inl x3], M)) sm_a186_4 rfl rfl (st_getI h_1 rfl) ?_
  refine ru_icmp (pc := 7) (p := 47) (p2 := 10) sm_a186_7 (by decide) rfl ⟨fun hc_2 => ?_, fun hc_2 => ?_⟩
  · have h := h.1 hc_2
    refine ru_go (t := (48, [some (.inr (some a0)), some (.inl x1), some (.inl x2), some (.inl x3)], [.inl (-1)], M)) sm_a186_47 rfl rfl (st_iconst (by decide)) ?_
    exact ru_ret sm_a186_48 rfl h
  · have h := h.2 hc_2
    refine ru_go (t := (11, [some (.inr (some a0)), some (.inl x1), some (.inl x2), some (.inl x3)], [.inr (some a0)], M)) sm_a186_10 rfl rfl rfl ?_
    refine ru_go (t := (14, [some (.inr (some a0)), some (.inl x1), some (.inl x2), some (.inl x3)], [.inr (sm_R M a0 73)], M)) sm_a186_11 rfl rfl (st_getR h_1 rfl rfl) ?_
    refine ru_go (t := (15, [some (.inr (some a0)), some (.inl x1), some (.inl x2), some (.inl x3)], [.inl x3, .inr (sm_R M a0 73)], M)) sm_a186_14 rfl rfl rfl ?_
    obtain ⟨b_3, hb_4, h⟩ := h
    rw [hb_4]
    obtain ⟨h_5, h⟩ := h
    obtain ⟨h_6, h⟩ := h
    refine ru_go (t := (16, [some (.inr (some a0)), some (.inl x1), some (.inl x2), some (.inl x3)], [.inl (sm_I M b_3 (x3).toNatClampNeg)], M)) sm_a186_15 rfl rfl (st_iald h_5 h_6) ?_
    refine ru_if (pc := 16) (p := 41) (p2 := 19) sm_a186_16 (by decide) rfl ⟨fun hc_7 => ?_, fun hc_7 => ?_⟩
    · have h := h.1 hc_7
      refine ru_go (t := (44, [some (.inr (some a0)), some (.inl x1), some (.inl x2), some (.inl (x3 + 1))], [], M)) sm_a186_41 rfl rfl (st_iinc rfl (by decide)) ?_
      refine ru_go (t := (2, [some (.inr (some a0)), some (.inl x1), some (.inl x2), some (.inl (x3 + 1))], [], M)) sm_a186_44 rfl rfl (st_goto (pc := 44) (by decide)) ?_
      exact h
    · have h := h.2 hc_7
      refine ru_go (t := (20, [some (.inr (some a0)), some (.inl x1), some (.inl x2), some (.inl x3)], [.inr (some a0)], M)) sm_a186_19 rfl rfl rfl ?_
      refine ru_go (t := (23, [some (.inr (some a0)), some (.inl x1), some (.inl x2), some (.inl x3)], [.inr (sm_R M a0 71)], M)) sm_a186_20 rfl rfl (st_getR h_1 rfl rfl) ?_
      refine ru_go (t := (24, [some (.inr (some a0)), some (.inl x1), some (.inl x2), some (.inl x3)], [.inl x3, .inr (sm_R M a0 71)], M)) sm_a186_23 rfl rfl rfl ?_
      obtain ⟨b_8, hb_9, h⟩ := h
      rw [hb_9]
      obtain ⟨h_10, h⟩ := h
      obtain ⟨h_11, h⟩ := h
      refine ru_go (t := (25, [some (.inr (some a0)), some (.inl x1), some (.inl x2), some (.inl x3)], [.inl (sm_I M b_8 (x3).toNatClampNeg)], M)) sm_a186_24 rfl rfl (st_iald h_10 h_11) ?_
      refine ru_go (t := (26, [some (.inr (some a0)), some (.inl x1), some (.inl x2), some (.inl x3)], [.inl x1, .inl (sm_I M b_8 (x3).toNatClampNeg)], M)) sm_a186_25 rfl rfl rfl ?_
      refine ru_icmp (pc := 26) (p := 41) (p2 := 29) sm_a186_26 (by decide) rfl ⟨fun hc_12 => ?_, fun hc_12 => ?_⟩
      · have h := h.1 hc_12
        refine ru_go (t := (44, [some (.inr (some a0)), some (.inl x1), some (.inl x2), some (.inl (x3 + 1))], [], M)) sm_a186_41 rfl rfl (st_iinc rfl (by decide)) ?_
        refine ru_go (t := (2, [some (.inr (some a0)), some (.inl x1), some (.inl x2), some (.inl (x3 + 1))], [], M)) sm_a186_44 rfl rfl (st_goto (pc := 44) (by decide)) ?_
        exact h
      · have h := h.2 hc_12
        refine ru_go (t := (30, [some (.inr (some a0)), some (.inl x1), some (.inl x2), some (.inl x3)], [.inr (some a0)], M)) sm_a186_29 rfl rfl rfl ?_
        refine ru_go (t := (33, [some (.inr (some a0)), some (.inl x1), some (.inl x2), some (.inl x3)], [.inr (sm_R M a0 72)], M)) sm_a186_30 rfl rfl (st_getR h_1 rfl rfl) ?_
        refine ru_go (t := (34, [some (.inr (some a0)), some (.inl x1), some (.inl x2), some (.inl x3)], [.inl x3, .inr (sm_R M a0 72)], M)) sm_a186_33 rfl rfl rfl ?_
        obtain ⟨b_13, hb_14, h⟩ := h
        rw [hb_14]
        obtain ⟨h_15, h⟩ := h
        obtain ⟨h_16, h⟩ := h
        refine ru_go (t := (35, [some (.inr (some a0)), some (.inl x1), some (.inl x2), some (.inl x3)], [.inl (sm_I M b_13 (x3).toNatClampNeg)], M)) sm_a186_34 rfl rfl (st_iald h_15 h_16) ?_
        refine ru_go (t := (36, [some (.inr (some a0)), some (.inl x1), some (.inl x2), some (.inl x3)], [.inl x2, .inl (sm_I M b_13 (x3).toNatClampNeg)], M)) sm_a186_35 rfl rfl rfl ?_
        refine ru_icmp (pc := 36) (p := 41) (p2 := 39) sm_a186_36 (by decide) rfl ⟨fun hc_17 => ?_, fun hc_17 => ?_⟩
        · have h := h.1 hc_17
          refine ru_go (t := (44, [some (.inr (some a0)), some (.inl x1), some (.inl x2), some (.inl (x3 + 1))], [], M)) sm_a186_41 rfl rfl (st_iinc rfl (by decide)) ?_
          refine ru_go (t := (2, [some (.inr (some a0)), some (.inl x1), some (.inl x2), some (.inl (x3 + 1))], [], M)) sm_a186_44 rfl rfl (st_goto (pc := 44) (by decide)) ?_
          exact h
        · have h := h.2 hc_17
          refine ru_go (t := (40, [some (.inr (some a0)), some (.inl x1), some (.inl x2), some (.inl x3)], [.inl x3], M)) sm_a186_39 rfl rfl rfl ?_
          exact ru_ret sm_a186_40 rfl h

/-! WireBusModel.waitingControl:()I -/
theorem sm_a187_0 : sm_at 187 0 = some (.iconst 0, 1, (0, 0, 0, 0)) := by decide +kernel
theorem sm_a187_1 : sm_at 187 1 = some (.istore_n 1, 1, (0, 0, 0, 0)) := by decide +kernel
theorem sm_a187_2 : sm_at 187 2 = some (.iload_n 1, 1, (0, 0, 0, 0)) := by decide +kernel
theorem sm_a187_3 : sm_at 187 3 = some (.aload_n 0, 1, (0, 0, 0, 0)) := by decide +kernel
theorem sm_a187_4 : sm_at 187 4 = some (.getfield 332, 3, (12, 70, 0, 1253)) := by decide +kernel
theorem sm_a187_7 : sm_at 187 7 = some (.if_icmp .ge 29, 3, (0, 0, 0, 0)) := by decide +kernel
theorem sm_a187_10 : sm_at 187 10 = some (.aload_n 0, 1, (0, 0, 0, 0)) := by decide +kernel
theorem sm_a187_11 : sm_at 187 11 = some (.getfield 191, 3, (12, 73, 0, 1256)) := by decide +kernel
theorem sm_a187_14 : sm_at 187 14 = some (.iload_n 1, 1, (0, 0, 0, 0)) := by decide +kernel
theorem sm_a187_15 : sm_at 187 15 = some (.iaload, 1, (0, 0, 0, 0)) := by decide +kernel
theorem sm_a187_16 : sm_at 187 16 = some (.ifCond .ne 14, 3, (0, 0, 0, 0)) := by decide +kernel
theorem sm_a187_19 : sm_at 187 19 = some (.aload_n 0, 1, (0, 0, 0, 0)) := by decide +kernel
theorem sm_a187_20 : sm_at 187 20 = some (.getfield 188, 3, (12, 72, 0, 1255)) := by decide +kernel
theorem sm_a187_23 : sm_at 187 23 = some (.iload_n 1, 1, (0, 0, 0, 0)) := by decide +kernel
theorem sm_a187_24 : sm_at 187 24 = some (.iaload, 1, (0, 0, 0, 0)) := by decide +kernel
theorem sm_a187_25 : sm_at 187 25 = some (.ifCond .ne 5, 3, (0, 0, 0, 0)) := by decide +kernel
theorem sm_a187_28 : sm_at 187 28 = some (.iload_n 1, 1, (0, 0, 0, 0)) := by decide +kernel
theorem sm_a187_29 : sm_at 187 29 = some (.ireturn, 1, (0, 0, 0, 0)) := by decide +kernel
theorem sm_a187_30 : sm_at 187 30 = some (.iinc 1 1, 3, (0, 0, 0, 0)) := by decide +kernel
theorem sm_a187_33 : sm_at 187 33 = some (.goto (-31), 3, (0, 0, 0, 0)) := by decide +kernel
theorem sm_a187_36 : sm_at 187 36 = some (.iconst (-1), 1, (0, 0, 0, 0)) := by decide +kernel
theorem sm_a187_37 : sm_at 187 37 = some (.ireturn, 1, (0, 0, 0, 0)) := by decide +kernel
theorem bb_187_0 {d : Nat} {M : sm_M} {Q : Option sm_V → sm_M → Prop} {a0 : Nat} {z1 : Option sm_V}
    (h : sm_Run d 187 2 [some (.inr (some a0)), some (.inl 0)] [] M Q) :
    sm_Run d 187 0 [some (.inr (some a0)), z1] [] M Q := by
  refine ru_go (t := (1, [some (.inr (some a0)), z1], [.inl 0], M)) sm_a187_0 rfl rfl (st_iconst (by decide)) ?_
  refine ru_go (t := (2, [some (.inr (some a0)), some (.inl 0)], [], M)) sm_a187_1 rfl rfl rfl ?_
  exact h
theorem bb_187_2 {d : Nat} {M : sm_M} {Q : Option sm_V → sm_M → Prop} {a0 : Nat} {x1 : Int32}
    (h : sm_K M a0 = 39 ∧ (((sm_I M a0 70) ≤ x1 → Q (some (.inl (-1))) M) ∧ (¬ ((sm_I M a0 70) ≤ x1) → ∃ b_3, sm_R M a0 73 = some b_3 ∧ sm_iA M b_3 ∧ sm_in_ M b_3 x1 ∧ ((¬ (sm_I M b_3 (x1).toNatClampNeg) = 0 → sm_Run d 187 2 [some (.inr (some a0)), some (.inl (x1 + 1))] [] M Q) ∧ (¬ (¬ (sm_I M b_3 (x1).toNatClampNeg) = 0) → ∃ b_8, sm_R M a0 72 = some b_8 ∧ sm_iA M b_8 ∧ sm_in_ M b_8 x1 ∧ ((¬ (sm_I M b_8 (x1).toNatClampNeg) = 0 → sm_Run d 187 2 [some (.inr (some a0)), some (.inl (x1 + 1))] [] M Q) ∧ (¬ (¬ (sm_I M b_8 (x1).toNatClampNeg) = 0) → Q (some (.inl x1)) M))))))) :
    sm_Run d 187 2 [some (.inr (some a0)), some (.inl x1)] [] M Q := by
  refine ru_go (t := (3, [some (.inr (some a0)), some (.inl x1)], [.inl x1], M)) sm_a187_2 rfl rfl rfl ?_
  refine ru_go (t := (4, [some (.inr (some a0)), some (.inl x1)], [.inr (some a0), .inl x1], M)) sm_a187_3 rfl rfl rfl ?_
  obtain ⟨h_1, h⟩ := h
  refine ru_go (t := (7, [some (.inr (some a0)), some (.inl x1)], [.inl (sm_I M a0 70), .inl x1], M)) sm_a187_4 rfl rfl (st_getI h_1 rfl) ?_
  refine ru_icmp (pc := 7) (p := 36) (p2 := 10) sm_a187_7 (by decide) rfl ⟨fun hc_2 => ?_, fun hc_2 => ?_⟩
  · have h := h.1 hc_2
    refine ru_go (t := (37, [some (.inr (some a0)), some (.inl x1)], [.inl (-1)], M)) sm_a187_36 rfl rfl (st_iconst (by decide)) ?_
    exact ru_ret sm_a187_37 rfl h
  · have h := h.2 hc_2
    refine ru_go (t := (11, [some (.inr (some a0)), some (.inl x1)], [.inr (some a0)], M)) sm_a187_10 rfl rfl rfl ?_
    refine ru_go (t := (14, [some (.inr (some a0)), some (.inl x1)], [.inr (sm_R M a0 73)], M)) sm_a187_11 rfl rfl (st_getR h_1 rfl rfl) ?_
    refine ru_go (t := (15, [some (.inr (some a0)), some (.inl x1)], [.inl x1, .inr (sm_R M a0 73)], M)) sm_a187_14 rfl rfl rfl ?_
    obtain ⟨b_3, hb_4, h⟩ := h
    rw [hb_4]
    obtain ⟨h_5, h⟩ := h
    obtain ⟨h_6, h⟩ := h
    refine ru_go (t := (16, [some (.inr (some a0)), some (.inl x1)], [.inl (sm_I M b_3 (x1).toNatClampNeg)], M)) sm_a187_15 rfl rfl (st_iald h_5 h_6) ?_
    refine ru_if (pc := 16) (p := 30) (p2 := 19) sm_a187_16 (by decide) rfl ⟨fun hc_7 => ?_, fun hc_7 => ?_⟩
    · have h := h.1 hc_7
      refine ru_go (t := (33, [some (.inr (some a0)), some (.inl (x1 + 1))], [], M)) sm_a187_30 rfl rfl (st_iinc rfl (by decide)) ?_
      refine ru_go (t := (2, [some (.inr (some a0)), some (.inl (x1 + 1))], [], M)) sm_a187_33 rfl rfl (st_goto (pc := 33) (by decide)) ?_
      exact h
    · have h := h.2 hc_7
      refine ru_go (t := (20, [some (.inr (some a0)), some (.inl x1)], [.inr (some a0)], M)) sm_a187_19 rfl rfl rfl ?_
      refine ru_go (t := (23, [some (.inr (some a0)), some (.inl x1)], [.inr (sm_R M a0 72)], M)) sm_a187_20 rfl rfl (st_getR h_1 rfl rfl) ?_
      refine ru_go (t := (24, [some (.inr (some a0)), some (.inl x1)], [.inl x1, .inr (sm_R M a0 72)], M)) sm_a187_23 rfl rfl rfl ?_
      obtain ⟨b_8, hb_9, h⟩ := h
      rw [hb_9]
      obtain ⟨h_10, h⟩ := h
      obtain ⟨h_11, h⟩ := h
      refine ru_go (t := (25, [some (.inr (some a0)), some (.inl x1)], [.inl (sm_I M b_8 (x1).toNatClampNeg)], M)) sm_a187_24 rfl rfl (st_iald h_10 h_11) ?_
      refine ru_if (pc := 25) (p := 30) (p2 := 28) sm_a187_25 (by decide) rfl ⟨fun hc_12 => ?_, fun hc_12 => ?_⟩
      · have h := h.1 hc_12
        refine ru_go (t := (33, [some (.inr (some a0)), some (.inl (x1 + 1))], [], M)) sm_a187_30 rfl rfl (st_iinc rfl (by decide)) ?_
        refine ru_go (t := (2, [some (.inr (some a0)), some (.inl (x1 + 1))], [], M)) sm_a187_33 rfl rfl (st_goto (pc := 33) (by decide)) ?_
        exact h
      · have h := h.2 hc_12
        refine ru_go (t := (29, [some (.inr (some a0)), some (.inl x1)], [.inl x1], M)) sm_a187_28 rfl rfl rfl ?_
        exact ru_ret sm_a187_29 rfl h

/-! WireBusModel.find:(II)V -/
theorem sm_a188_0 : sm_at 188 0 = some (.aload_n 0, 1, (0, 0, 0, 0)) := by decide +kernel
theorem sm_a188_1 : sm_at 188 1 = some (.getfield 158, 3, (12, 60, 0, 1243)) := by decide +kernel
theorem sm_a188_4 : sm_at 188 4 = some (.iload_n 1, 1, (0, 0, 0, 0)) := by decide +kernel
theorem sm_a188_5 : sm_at 188 5 = some (.iload_n 2, 1, (0, 0, 0, 0)) := by decide +kernel
theorem sm_a188_6 : sm_at 188 6 = some (.iastore, 1, (1, 0, 0, 0)) := by decide +kernel
theorem sm_a188_7 : sm_at 188 7 = some (.iconst (-1), 1, (0, 0, 0, 0)) := by decide +kernel
theorem sm_a188_8 : sm_at 188 8 = some (.istore_n 3, 1, (0, 0, 0, 0)) := by decide +kernel
theorem sm_a188_9 : sm_at 188 9 = some (.iload_n 2, 1, (0, 0, 0, 0)) := by decide +kernel
theorem sm_a188_10 : sm_at 188 10 = some (.tableswitch 134 0 4 #[34, 54, 70, 90, 110], 34, (0, 0, 0, 0)) := by decide +kernel
theorem sm_a188_44 : sm_at 188 44 = some (.aload_n 0, 1, (0, 0, 0, 0)) := by decide +kernel
theorem sm_a188_45 : sm_at 188 45 = some (.iload_n 1, 1, (0, 0, 0, 0)) := by decide +kernel
theorem sm_a188_46 : sm_at 188 46 = some (.sipush 128, 3, (0, 0, 0, 0)) := by decide +kernel
theorem sm_a188_49 : sm_at 188 49 = some (.bipush 6, 2, (0, 0, 0, 0)) := by decide +kernel
theorem sm_a188_51 : sm_at 188 51 = some (.sipush 256, 3, (0, 0, 0, 0)) := by decide +kernel
theorem sm_a188_54 : sm_at 188 54 = some (.iconst 0, 1, (0, 0, 0, 0)) := by decide +kernel
theorem sm_a188_55 : sm_at 188 55 = some (.bipush 8, 2, (0, 0, 0, 0)) := by decide +kernel
theorem sm_a188_57 : sm_at 188 57 = some (.invokevirtual 378, 3, (10, 176, 12, 1482)) := by decide +kernel
theorem sm_a188_60 : sm_at 188 60 = some (.istore_n 3, 1, (0, 0, 0, 0)) := by decide +kernel
theorem sm_a188_61 : sm_at 188 61 = some (.goto 95, 3, (0, 0, 0, 0)) := by decide +kernel
theorem sm_a188_64 : sm_at 188 64 = some (.aload_n 0, 1, (0, 0, 0, 0)) := by decide +kernel
theorem sm_a188_65 : sm_at 188 65 = some (.iload_n 1, 1, (0, 0, 0, 0)) := by decide +kernel
theorem sm_a188_66 : sm_at 188 66 = some (.iconst 0, 1, (0, 0, 0, 0)) := by decide +kernel
theorem sm_a188_67 : sm_at 188 67 = some (.iconst 5, 1, (0, 0, 0, 0)) := by decide +kernel
theorem sm_a188_68 : sm_at 188 68 = some (.iload_n 1, 1, (0, 0, 0, 0)) := by decide +kernel
theorem sm_a188_69 : sm_at 188 69 = some (.iconst 1, 1, (0, 0, 0, 0)) := by decide +kernel
theorem sm_a188_70 : sm_at 188 70 = some (.iadd, 1, (0, 0, 0, 0)) := by decide +kernel
theorem sm_a188_71 : sm_at 188 71 = some (.iconst 0, 1, (0, 0, 0, 0)) := by decide +kernel
theorem sm_a188_72 : sm_at 188 72 = some (.iconst 0, 1, (0, 0, 0, 0)) := by decide +kernel
theorem sm_a188_73 : sm_at 188 73 = some (.invokevirtual 378, 3, (10, 176, 12, 1482)) := by decide +kernel
theorem sm_a188_76 : sm_at 188 76 = some (.istore_n 3, 1, (0, 0, 0, 0)) := by decide +kernel
theorem sm_a188_77 : sm_at 188 77 = some (.goto 79, 3, (0, 0, 0, 0)) := by decide +kernel
theorem sm_a188_80 : sm_at 188 80 = some (.aload_n 0, 1, (0, 0, 0, 0)) := by decide +kernel
theorem sm_a188_81 : sm_at 188 81 = some (.iload_n 1, 1, (0, 0, 0, 0)) := by decide +kernel
theorem sm_a188_82 : sm_at 188 82 = some (.sipush 128, 3, (0, 0, 0, 0)) := by decide +kernel
theorem sm_a188_85 : sm_at 188 85 = some (.bipush 6, 2, (0, 0, 0, 0)) := by decide +kernel
theorem sm_a188_87 : sm_at 188 87 = some (.sipush 256, 3, (0, 0, 0, 0)) := by decide +kernel
theorem sm_a188_90 : sm_at 188 90 = some (.iconst 0, 1, (0, 0, 0, 0)) := by decide +kernel
theorem sm_a188_91 : sm_at 188 91 = some (.bipush 18, 2, (0, 0, 0, 0)) := by decide +kernel
theorem sm_a188_93 : sm_at 188 93 = some (.invokevirtual 378, 3, (10, 176, 12, 1482)) := by decide +kernel
theorem sm_a188_96 : sm_at 188 96 = some (.istore_n 3, 1, (0, 0, 0, 0)) := by decide +kernel
theorem sm_a188_97 : sm_at 188 97 = some (.goto 59, 3, (0, 0, 0, 0)) := by decide +kernel
theorem sm_a188_100 : sm_at 188 100 = some (.aload_n 0, 1, (0, 0, 0, 0)) := by decide +kernel
theorem sm_a188_101 : sm_at 188 101 = some (.iload_n 1, 1, (0, 0, 0, 0)) := by decide +kernel
theorem sm_a188_102 : sm_at 188 102 = some (.sipush 128, 3, (0, 0, 0, 0)) := by decide +kernel
theorem sm_a188_105 : sm_at 188 105 = some (.bipush 6, 2, (0, 0, 0, 0)) := by decide +kernel
theorem sm_a188_107 : sm_at 188 107 = some (.sipush 512, 3, (0, 0, 0, 0)) := by decide +kernel
theorem sm_a188_110 : sm_at 188 110 = some (.iconst 0, 1, (0, 0, 0, 0)) := by decide +kernel
theorem sm_a188_111 : sm_at 188 111 = some (.bipush 9, 2, (0, 0, 0, 0)) := by decide +kernel
theorem sm_a188_113 : sm_at 188 113 = some (.invokevirtual 378, 3, (10, 176, 12, 1482)) := by decide +kernel
theorem sm_a188_116 : sm_at 188 116 = some (.istore_n 3, 1, (0, 0, 0, 0)) := by decide +kernel
theorem sm_a188_117 : sm_at 188 117 = some (.goto 39, 3, (0, 0, 0, 0)) := by decide +kernel
theorem sm_a188_120 : sm_at 188 120 = some (.aload_n 0, 1, (0, 0, 0, 0)) := by decide +kernel
theorem sm_a188_121 : sm_at 188 121 = some (.iload_n 1, 1, (0, 0, 0, 0)) := by decide +kernel
theorem sm_a188_122 : sm_at 188 122 = some (.sipush 128, 3, (0, 0, 0, 0)) := by decide +kernel
theorem sm_a188_125 : sm_at 188 125 = some (.bipush 6, 2, (0, 0, 0, 0)) := by decide +kernel
theorem sm_a188_127 : sm_at 188 127 = some (.sipush 512, 3, (0, 0, 0, 0)) := by decide +kernel
theorem sm_a188_130 : sm_at 188 130 = some (.iconst 0, 1, (0, 0, 0, 0)) := by decide +kernel
theorem sm_a188_131 : sm_at 188 131 = some (.aload_n 0, 1, (0, 0, 0, 0)) := by decide +kernel
theorem sm_a188_132 : sm_at 188 132 = some (.getfield 222, 3, (12, 85, 0, 1268)) := by decide +kernel
theorem sm_a188_135 : sm_at 188 135 = some (.iload_n 1, 1, (0, 0, 0, 0)) := by decide +kernel
theorem sm_a188_136 : sm_at 188 136 = some (.iaload, 1, (0, 0, 0, 0)) := by decide +kernel
theorem sm_a188_137 : sm_at 188 137 = some (.invokevirtual 378, 3, (10, 176, 12, 1482)) := by decide +kernel
theorem sm_a188_140 : sm_at 188 140 = some (.istore_n 3, 1, (0, 0, 0, 0)) := by decide +kernel
theorem sm_a188_141 : sm_at 188 141 = some (.goto 15, 3, (0, 0, 0, 0)) := by decide +kernel
theorem sm_a188_144 : sm_at 188 144 = some (.aload_n 0, 1, (0, 0, 0, 0)) := by decide +kernel
theorem sm_a188_145 : sm_at 188 145 = some (.iload_n 1, 1, (0, 0, 0, 0)) := by decide +kernel
theorem sm_a188_146 : sm_at 188 146 = some (.iconst 0, 1, (0, 0, 0, 0)) := by decide +kernel
theorem sm_a188_147 : sm_at 188 147 = some (.bipush 9, 2, (0, 0, 0, 0)) := by decide +kernel
theorem sm_a188_149 : sm_at 188 149 = some (.iconst 1, 1, (0, 0, 0, 0)) := by decide +kernel
theorem sm_a188_150 : sm_at 188 150 = some (.iconst 0, 1, (0, 0, 0, 0)) := by decide +kernel
theorem sm_a188_151 : sm_at 188 151 = some (.iconst 0, 1, (0, 0, 0, 0)) := by decide +kernel
theorem sm_a188_152 : sm_at 188 152 = some (.invokevirtual 378, 3, (10, 176, 12, 1482)) := by decide +kernel
theorem sm_a188_155 : sm_at 188 155 = some (.istore_n 3, 1, (0, 0, 0, 0)) := by decide +kernel
theorem sm_a188_156 : sm_at 188 156 = some (.aload_n 0, 1, (0, 0, 0, 0)) := by decide +kernel
theorem sm_a188_157 : sm_at 188 157 = some (.getfield 209, 3, (12, 79, 0, 1262)) := by decide +kernel
theorem sm_a188_160 : sm_at 188 160 = some (.iload_n 3, 1, (0, 0, 0, 0)) := by decide +kernel
theorem sm_a188_161 : sm_at 188 161 = some (.iconst 1, 1, (0, 0, 0, 0)) := by decide +kernel
theorem sm_a188_162 : sm_at 188 162 = some (.bastore, 1, (1, 0, 0, 0)) := by decide +kernel
theorem sm_a188_163 : sm_at 188 163 = some (.return_, 1, (0, 0, 0, 0)) := by decide +kernel
theorem bb_188_0 {d : Nat} {M : sm_M} {Q : Option sm_V → sm_M → Prop} {a0 : Nat} {x1 : Int32} {x2 : Int32} {z3 : Option sm_V}
    (h : sm_K M a0 = 39 ∧ ∃ b_2, sm_R M a0 60 = some b_2 ∧ sm_wA 1 M b_2 ∧ sm_in_ M b_2 x1 ∧ ((x2 = 0 → sm_Run d 176 0 (sm_ent 176 [.inr (some a0), .inl x1, .inl 128, .inl 6, .inl 256, .inl 0, .inl 8]) [] (sm_putI M b_2 (x1).toNatClampNeg x2) (fun v M1 => sm_Run (d + 1) 188 60 [some (.inr (some a0)), some (.inl x1), some (.inl x2), some (.inl (-1))] (v.toList ++ []) M1 Q)) ∧ (x2 = 1 → sm_Run d 176 0 (sm_ent 176 [.inr (some a0), .inl x1, .inl 0, .inl 5, .inl (x1 + 1), .inl 0, .inl 0]) [] (sm_putI M b_2 (x1).toNatClampNeg x2) (fun v M1 => sm_Run (d + 1) 188 76 [some (.inr (some a0)), some (.inl x1), some (.inl x2), some (.inl (-1))] (v.toList ++ []) M1 Q)) ∧ (x2 = 2 → sm_Run d 176 0 (sm_ent 176 [.inr (some a0), .inl x1, .inl 128, .inl 6, .inl 256, .inl 0, .inl 18]) [] (sm_putI M b_2 (x1).toNatClampNeg x2) (fun v M1 => sm_Run (d + 1) 188 96 [some (.inr (some a0)), some (.inl x1), some (.inl x2), some (.inl (-1))] (v.toList ++ []) M1 Q)) ∧ (x2 = 3 → sm_Run d 176 0 (sm_ent 176 [.inr (some a0), .inl x1, .inl 128, .inl 6, .inl 512, .inl 0, .inl 9]) [] (sm_putI M b_2 (x1).toNatClampNeg x2) (fun v M1 => sm_Run (d + 1) 188 116 [some (.inr (some a0)), some (.inl x1), some (.inl x2), some (.inl (-1))] (v.toList ++ []) M1 Q)) ∧ (x2 = 4 → ∃ b_11, sm_R (sm_putI M b_2 (x1).toNatClampNeg x2) a0 85 = some b_11 ∧ sm_iA M b_11 ∧ sm_in_ M b_11 x1 ∧ sm_Run d 176 0 (sm_ent 176 [.inr (some a0), .inl x1, .inl 128, .inl 6, .inl 512, .inl 0, .inl (sm_I (sm_putI M b_2 (x1).toNatClampNeg x2) b_11 (x1).toNatClampNeg)]) [] (sm_putI M b_2 (x1).toNatClampNeg x2) (fun v M1 => sm_Run (d + 1) 188 140 [some (.inr (some a0)), some (.inl x1), some (.inl x2), some (.inl (-1))] (v.toList ++ []) M1 Q)) ∧ (¬ x2 = 0 → ¬ x2 = 1 → ¬ x2 = 2 → ¬ x2 = 3 → ¬ x2 = 4 → sm_Run d 176 0 (sm_ent 176 [.inr (some a0), .inl x1, .inl 0, .inl 9, .inl 1, .inl 0, .inl 0]) [] (sm_putI M b_2 (x1).toNatClampNeg x2) (fun v M1 => sm_Run (d + 1) 188 155 [some (.inr (some a0)), some (.inl x1), some (.inl x2), some (.inl (-1))] (v.toList ++ []) M1 Q)))) :
    sm_Run (d + 1) 188 0 [some (.inr (some a0)), some (.inl x1), some (.inl x2), z3] [] M Q := by
  refine ru_go (t := (1, [some (.inr (some a0)), some (.inl x1), some (.inl x2), z3], [.inr (some a0)], M)) sm_a188_0 rfl rfl rfl ?_
  obtain ⟨h_1, h⟩ := h
  refine ru_go (t := (4, [some (.inr (some a0)), some (.inl x1), some (.inl x2), z3], [.inr (sm_R M a0 60)], M)) sm_a188_1 rfl rfl (st_getR h_1 rfl rfl) ?_
  refine ru_go (t := (5, [some (.inr (some a0)), some (.inl x1), some (.inl x2), z3], [.inl x1, .inr (sm_R M a0 60)], M)) sm_a188_4 rfl rfl rfl ?_
  refine ru_go (t := (6, [some (.inr (some a0)), some (.inl x1), some (.inl x2), z3], [.inl x2, .inl x1, .inr (sm_R M a0 60)], M)) sm_a188_5 rfl rfl rfl ?_
  obtain ⟨b_2, hb_3, h⟩ := h
  rw [hb_3]
  obtain ⟨h_4, h⟩ := h
  obtain ⟨h_5, h⟩ := h
  refine ru_go (t := (7, [some (.inr (some a0)), some (.inl x1), some (.inl x2), z3], [], sm_putI M b_2 (x1).toNatClampNeg x2)) sm_a188_6 rfl rfl (st_iast h_4 h_5) ?_
  refine ru_go (t := (8, [some (.inr (some a0)), some (.inl x1), some (.inl x2), z3], [.inl (-1)], sm_putI M b_2 (x1).toNatClampNeg x2)) sm_a188_7 rfl rfl (st_iconst (by decide)) ?_
  refine ru_go (t := (9, [some (.inr (some a0)), some (.inl x1), some (.inl x2), some (.inl (-1))], [], sm_putI M b_2 (x1).toNatClampNeg x2)) sm_a188_8 rfl rfl rfl ?_
  refine ru_go (t := (10, [some (.inr (some a0)), some (.inl x1), some (.inl x2), some (.inl (-1))], [.inl x2], sm_putI M b_2 (x1).toNatClampNeg x2)) sm_a188_9 rfl rfl rfl ?_
  by_cases hc_6 : x2 = 0
  · have h := h.1 hc_6
    refine ru_tsw (pc := 10) (v := 0) (p := 44) sm_a188_10 hc_6 (by decide) ?_
    refine ru_go (t := (45, [some (.inr (some a0)), some (.inl x1), some (.inl x2), some (.inl (-1))], [.inr (some a0)], sm_putI M b_2 (x1).toNatClampNeg x2)) sm_a188_44 rfl rfl rfl ?_
    refine ru_go (t := (46, [some (.inr (some a0)), some (.inl x1), some (.inl x2), some (.inl (-1))], [.inl x1, .inr (some a0)], sm_putI M b_2 (x1).toNatClampNeg x2)) sm_a188_45 rfl rfl rfl ?_
    refine ru_go (t := (49, [some (.inr (some a0)), some (.inl x1), some (.inl x2), some (.inl (-1))], [.inl 128, .inl x1, .inr (some a0)], sm_putI M b_2 (x1).toNatClampNeg x2)) sm_a188_46 rfl rfl (st_sipush (by decide)) ?_
    refine ru_go (t := (51, [some (.inr (some a0)), some (.inl x1), some (.inl x2), some (.inl (-1))], [.inl 6, .inl 128, .inl x1, .inr (some a0)], sm_putI M b_2 (x1).toNatClampNeg x2)) sm_a188_49 rfl rfl (st_bipush (by decide)) ?_
    refine ru_go (t := (54, [some (.inr (some a0)), some (.inl x1), some (.inl x2), some (.inl (-1))], [.inl 256, .inl 6, .inl 128, .inl x1, .inr (some a0)], sm_putI M b_2 (x1).toNatClampNeg x2)) sm_a188_51 rfl rfl (st_sipush (by decide)) ?_
    refine ru_go (t := (55, [some (.inr (some a0)), some (.inl x1), some (.inl x2), some (.inl (-1))], [.inl 0, .inl 256, .inl 6, .inl 128, .inl x1, .inr (some a0)], sm_putI M b_2 (x1).toNatClampNeg x2)) sm_a188_54 rfl rfl (st_iconst (by decide)) ?_
    refine ru_go (t := (57, [some (.inr (some a0)), some (.inl x1), some (.inl x2), some (.inl (-1))], [.inl 8, .inl 0, .inl 256, .inl 6, .inl 128, .inl x1, .inr (some a0)], sm_putI M b_2 (x1).toNatClampNeg x2)) sm_a188_55 rfl rfl (st_bipush (by decide)) ?_
    exact ru_call (p := 60) sm_a188_57 rfl (sc_virt (Or.inl rfl) rfl rfl h_1 (Nat.le_of_ble_eq_true rfl)) rfl h
  · by_cases hc_7 : x2 = 1
    · have h := h.2.1 hc_7
      refine ru_tsw (pc := 10) (v := 1) (p := 64) sm_a188_10 hc_7 (by decide) ?_
      refine ru_go (t := (65, [some (.inr (some a0)), some (.inl x1), some (.inl x2), some (.inl (-1))], [.inr (some a0)], sm_putI M b_2 (x1).toNatClampNeg x2)) sm_a188_64 rfl rfl rfl ?_
      refine ru_go (t := (66, [some (.inr (some a0)), some (.inl x1), some (.inl x2), some (.inl (-1))], [.inl x1, .inr (some a0)], sm_putI M b_2 (x1).toNatClampNeg x2)) sm_a188_65 rfl rfl rfl ?_
      refine ru_go (t := (67, [some (.inr (some a0)), some (.inl x1), some (.inl x2), some (.inl (-1))], [.inl 0, .inl x1, .inr (some a0)], sm_putI M b_2 (x1).toNatClampNeg x2)) sm_a188_66 rfl rfl (st_iconst (by decide)) ?_
      refine ru_go (t := (68, [some (.inr (some a0)), some (.inl x1), some (.inl x2), some (.inl (-1))], [.inl 5, .inl 0, .inl x1, .inr (some a0)], sm_putI M b_2 (x1).toNatClampNeg x2)) sm_a188_67 rfl rfl (st_iconst (by decide)) ?_
      refine ru_go (t := (69, [some (.inr (some a0)), some (.inl x1), some (.inl x2), some (.inl (-1))], [.inl x1, .inl 5, .inl 0, .inl x1, .inr (some a0)], sm_putI M b_2 (x1).toNatClampNeg x2)) sm_a188_68 rfl rfl rfl ?_
      refine ru_go (t := (70, [some (.inr (some a0)), some (.inl x1), some (.inl x2), some (.inl (-1))], [.inl 1, .inl x1, .inl 5, .inl 0, .inl x1, .inr (some a0)], sm_putI M b_2 (x1).toNatClampNeg x2)) sm_a188_69 rfl rfl (st_iconst (by decide)) ?_
      refine ru_go (t := (71, [some (.inr (some a0)), some (.inl x1), some (.inl x2), some (.inl (-1))], [.inl (x1 + 1), .inl 5, .inl 0, .inl x1, .inr (some a0)], sm_putI M b_2 (x1).toNatClampNeg x2)) sm_a188_70 rfl rfl rfl ?_
      refine ru_go (t := (72, [some (.inr (some a0)), some (.inl x1), some (.inl x2), some (.inl (-1))], [.inl 0, .inl (x1 + 1), .inl 5, .inl 0, .inl x1, .inr (some a0)], sm_putI M b_2 (x1).toNatClampNeg x2)) sm_a188_71 rfl rfl (st_iconst (by decide)) ?_
      refine ru_go (t := (73, [some (.inr (some a0)), some (.inl x1), some (.inl x2), some (.inl (-1))], [.inl 0, .inl 0, .inl (x1 + 1), .inl 5, .inl 0, .inl x1, .inr (some a0)], sm_putI M b_2 (x1).toNatClampNeg x2)) sm_a188_72 rfl rfl (st_iconst (by decide)) ?_
      exact ru_call (p := 76) sm_a188_73 rfl (sc_virt (Or.inl rfl) rfl rfl h_1 (Nat.le_of_ble_eq_true rfl)) rfl h
    · by_cases hc_8 : x2 = 2
      · have h := h.2.2.1 hc_8
        refine ru_tsw (pc := 10) (v := 2) (p := 80) sm_a188_10 hc_8 (by decide) ?_
        refine ru_go (t := (81, [some (.inr (some a0)), some (.inl x1), some (.inl x2), some (.inl (-1))], [.inr (some a0)], sm_putI M b_2 (x1).toNatClampNeg x2)) sm_a188_80 rfl rfl rfl ?_
        refine ru_go (t := (82, [some (.inr (some a0)), some (.inl x1), some (.inl x2), some (.inl (-1))], [.inl x1, .inr (some a0)], sm_putI M b_2 (x1).toNatClampNeg x2)) sm_a188_81 rfl rfl rfl ?_
        refine ru_go (t := (85, [some (.inr (some a0)), some (.inl x1), some (.inl x2), some (.inl (-1))], [.inl 128, .inl x1, .inr (some a0)], sm_putI M b_2 (x1).toNatClampNeg x2)) sm_a188_82 rfl rfl (st_sipush (by decide)) ?_
        refine ru_go (t := (87, [some (.inr (some a0)), some (.inl x1), some (.inl x2), some (.inl (-1))], [.inl 6, .inl 128, .inl x1, .inr (some a0)], sm_putI M b_2 (x1).toNatClampNeg x2)) sm_a188_85 rfl rfl (st_bipush (by decide)) ?_
        refine ru_go (t := (90, [some (.inr (some a0)), some (.inl x1), some (.inl x2), some (.inl (-1))], [.inl 256, .inl 6, .inl 128, .inl x1, .inr (some a0)], sm_putI M b_2 (x1).toNatClampNeg x2)) sm_a188_87 rfl rfl (st_sipush (by decide)) ?_
        refine ru_go (t := (91, [some (.inr (some a0)), some (.inl x1), some (.inl x2), some (.inl (-1))], [.inl 0, .inl 256, .inl 6, .inl 128, .inl x1, .inr (some a0)], sm_putI M b_2 (x1).toNatClampNeg x2)) sm_a188_90 rfl rfl (st_iconst (by decide)) ?_
        refine ru_go (t := (93, [some (.inr (some a0)), some (.inl x1), some (.inl x2), some (.inl (-1))], [.inl 18, .inl 0, .inl 256, .inl 6, .inl 128, .inl x1, .inr (some a0)], sm_putI M b_2 (x1).toNatClampNeg x2)) sm_a188_91 rfl rfl (st_bipush (by decide)) ?_
        exact ru_call (p := 96) sm_a188_93 rfl (sc_virt (Or.inl rfl) rfl rfl h_1 (Nat.le_of_ble_eq_true rfl)) rfl h
      · by_cases hc_9 : x2 = 3
        · have h := h.2.2.2.1 hc_9
          refine ru_tsw (pc := 10) (v := 3) (p := 100) sm_a188_10 hc_9 (by decide) ?_
          refine ru_go (t := (101, [some (.inr (some a0)), some (.inl x1), some (.inl x2), some (.inl (-1))], [.inr (some a0)], sm_putI M b_2 (x1).toNatClampNeg x2)) sm_a188_100 rfl rfl rfl ?_
          refine ru_go (t := (102, [some (.inr (some a0)), some (.inl x1), some (.inl x2), some (.inl (-1))], [.inl x1, .inr (some a0)], sm_putI M b_2 (x1).toNatClampNeg x2)) sm_a188_101 rfl rfl rfl ?_
          refine ru_go (t := (105, [some (.inr (some a0)), some (.inl x1), some (.inl x2), some (.inl (-1))], [.inl 128, .inl x1, .inr (some a0)], sm_putI M b_2 (x1).toNatClampNeg x2)) sm_a188_102 rfl rfl (st_sipush (by decide)) ?_
          refine ru_go (t := (107, [some (.inr (some a0)), some (.inl x1), some (.inl x2), some (.inl (-1))], [.inl 6, .inl 128, .inl x1, .inr (some a0)], sm_putI M b_2 (x1).toNatClampNeg x2)) sm_a188_105 rfl rfl (st_bipush (by decide)) ?_
          refine ru_go (t := (110, [some (.inr (some a0)), some (.inl x1), some (.inl x2), some (.inl (-1))], [.inl 512, .inl 6, .inl 128, .inl x1, .inr (some a0)], sm_putI M b_2 (x1).toNatClampNeg x2)) sm_a188_107 rfl rfl (st_sipush (by decide)) ?_
          refine ru_go (t := (111, [some (.inr (some a0)), some (.inl x1), some (.inl x2), some (.inl (-1))], [.inl 0, .inl 512, .inl 6, .inl 128, .inl x1, .inr (some a0)], sm_putI M b_2 (x1).toNatClampNeg x2)) sm_a188_110 rfl rfl (st_iconst (by decide)) ?_
          refine ru_go (t := (113, [some (.inr (some a0)), some (.inl x1), some (.inl x2), some (.inl (-1))], [.inl 9, .inl 0, .inl 512, .inl 6, .inl 128, .inl x1, .inr (some a0)], sm_putI M b_2 (x1).toNatClampNeg x2)) sm_a188_111 rfl rfl (st_bipush (by decide)) ?_
          exact ru_call (p := 116) sm_a188_113 rfl (sc_virt (Or.inl rfl) rfl rfl h_1 (Nat.le_of_ble_eq_true rfl)) rfl h
        · by_cases hc_10 : x2 = 4
          · have h := h.2.2.2.2.1 hc_10
            refine ru_tsw (pc := 10) (v := 4) (p := 120) sm_a188_10 hc_10 (by decide) ?_
            refine ru_go (t := (121, [some (.inr (some a0)), some (.inl x1), some (.inl x2), some (.inl (-1))], [.inr (some a0)], sm_putI M b_2 (x1).toNatClampNeg x2)) sm_a188_120 rfl rfl rfl ?_
            refine ru_go (t := (122, [some (.inr (some a0)), some (.inl x1), some (.inl x2), some (.inl (-1))], [.inl x1, .inr (some a0)], sm_putI M b_2 (x1).toNatClampNeg x2)) sm_a188_121 rfl rfl rfl ?_
            refine ru_go (t := (125, [some (.inr (some a0)), some (.inl x1), some (.inl x2), some (.inl (-1))], [.inl 128, .inl x1, .inr (some a0)], sm_putI M b_2 (x1).toNatClampNeg x2)) sm_a188_122 rfl rfl (st_sipush (by decide)) ?_
            refine ru_go (t := (127, [some (.inr (some a0)), some (.inl x1), some (.inl x2), some (.inl (-1))], [.inl 6, .inl 128, .inl x1, .inr (some a0)], sm_putI M b_2 (x1).toNatClampNeg x2)) sm_a188_125 rfl rfl (st_bipush (by decide)) ?_
            refine ru_go (t := (130, [some (.inr (some a0)), some (.inl x1), some (.inl x2), some (.inl (-1))], [.inl 512, .inl 6, .inl 128, .inl x1, .inr (some a0)], sm_putI M b_2 (x1).toNatClampNeg x2)) sm_a188_127 rfl rfl (st_sipush (by decide)) ?_
            refine ru_go (t := (131, [some (.inr (some a0)), some (.inl x1), some (.inl x2), some (.inl (-1))], [.inl 0, .inl 512, .inl 6, .inl 128, .inl x1, .inr (some a0)], sm_putI M b_2 (x1).toNatClampNeg x2)) sm_a188_130 rfl rfl (st_iconst (by decide)) ?_
            refine ru_go (t := (132, [some (.inr (some a0)), some (.inl x1), some (.inl x2), some (.inl (-1))], [.inr (some a0), .inl 0, .inl 512, .inl 6, .inl 128, .inl x1, .inr (some a0)], sm_putI M b_2 (x1).toNatClampNeg x2)) sm_a188_131 rfl rfl rfl ?_
            refine ru_go (t := (135, [some (.inr (some a0)), some (.inl x1), some (.inl x2), some (.inl (-1))], [.inr (sm_R (sm_putI M b_2 (x1).toNatClampNeg x2) a0 85), .inl 0, .inl 512, .inl 6, .inl 128, .inl x1, .inr (some a0)], sm_putI M b_2 (x1).toNatClampNeg x2)) sm_a188_132 rfl rfl (st_getR h_1 rfl rfl) ?_
            refine ru_go (t := (136, [some (.inr (some a0)), some (.inl x1), some (.inl x2), some (.inl (-1))], [.inl x1, .inr (sm_R (sm_putI M b_2 (x1).toNatClampNeg x2) a0 85), .inl 0, .inl 512, .inl 6, .inl 128, .inl x1, .inr (some a0)], sm_putI M b_2 (x1).toNatClampNeg x2)) sm_a188_135 rfl rfl rfl ?_
            obtain ⟨b_11, hb_12, h⟩ := h
            rw [hb_12]
            obtain ⟨h_13, h⟩ := h
            obtain ⟨h_14, h⟩ := h
            refine ru_go (t := (137, [some (.inr (some a0)), some (.inl x1), some (.inl x2), some (.inl (-1))], [.inl (sm_I (sm_putI M b_2 (x1).toNatClampNeg x2) b_11 (x1).toNatClampNeg), .inl 0, .inl 512, .inl 6, .inl 128, .inl x1, .inr (some a0)], sm_putI M b_2 (x1).toNatClampNeg x2)) sm_a188_136 rfl rfl (st_iald h_13 h_14) ?_
            exact ru_call (p := 140) sm_a188_137 rfl (sc_virt (Or.inl rfl) rfl rfl h_1 (Nat.le_of_ble_eq_true rfl)) rfl h
          · have h := h.2.2.2.2.2 hc_6 hc_7 hc_8 hc_9 hc_10
            have zhc_6 := sm_ne_toInt hc_6; rw [show (0 : Int32).toInt = 0 by decide] at zhc_6
            have zhc_7 := sm_ne_toInt hc_7; rw [show (1 : Int32).toInt = 1 by decide] at zhc_7
            have zhc_8 := sm_ne_toInt hc_8; rw [show (2 : Int32).toInt = 2 by decide] at zhc_8
            have zhc_9 := sm_ne_toInt hc_9; rw [show (3 : Int32).toInt = 3 by decide] at zhc_9
            have zhc_10 := sm_ne_toInt hc_10; rw [show (4 : Int32).toInt = 4 by decide] at zhc_10
            refine ru_tswd (pc := 10) (p := 144) sm_a188_10 (by omega) (by decide) ?_
            refine ru_go (t := (145, [some (.inr (some a0)), some (.inl x1), some (.inl x2), some (.inl (-1))], [.inr (some a0)], sm_putI M b_2 (x1).toNatClampNeg x2)) sm_a188_144 rfl rfl rfl ?_
            refine ru_go (t := (146, [some (.inr (some a0)), some (.inl x1), some (.inl x2), some (.inl (-1))], [.inl x1, .inr (some a0)], sm_putI M b_2 (x1).toNatClampNeg x2)) sm_a188_145 rfl rfl rfl ?_
            refine ru_go (t := (147, [some (.inr (some a0)), some (.inl x1), some (.inl x2), some (.inl (-1))], [.inl 0, .inl x1, .inr (some a0)], sm_putI M b_2 (x1).toNatClampNeg x2)) sm_a188_146 rfl rfl (st_iconst (by decide)) ?_
            refine ru_go (t := (149, [some (.inr (some a0)), some (.inl x1), some (.inl x2), some (.inl (-1))], [.inl 9, .inl 0, .inl x1, .inr (some a0)], sm_putI M b_2 (x1).toNatClampNeg x2)) sm_a188_147 rfl rfl (st_bipush (by decide)) ?_
            refine ru_go (t := (150, [some (.inr (some a0)), some (.inl x1), some (.inl x2), some (.inl (-1))], [.inl 1, .inl 9, .inl 0, .inl x1, .inr (some a0)], sm_putI M b_2 (x1).toNatClampNeg x2)) sm_a188_149 rfl rfl (st_iconst (by decide)) ?_
            refine ru_go (t := (151, [some (.inr (some a0)), some (.inl x1), some (.inl x2), some (.inl (-1))], [.inl 0, .inl 1, .inl 9, .inl 0, .inl x1, .inr (some a0)], sm_putI M b_2 (x1).toNatClampNeg x2)) sm_a188_150 rfl rfl (st_iconst (by decide)) ?_
            refine ru_go (t := (152, [some (.inr (some a0)), some (.inl x1), some (.inl x2), some (.inl (-1))], [.inl 0, .inl 0, .inl 1, .inl 9, .inl 0, .inl x1, .inr (some a0)], sm_putI M b_2 (x1).toNatClampNeg x2)) sm_a188_151 rfl rfl (st_iconst (by decide)) ?_
            exact ru_call (p := 155) sm_a188_152 rfl (sc_virt (Or.inl rfl) rfl rfl h_1 (Nat.le_of_ble_eq_true rfl)) rfl h
theorem bb_188_60 {d : Nat} {M : sm_M} {Q : Option sm_V → sm_M → Prop} {a0 : Nat} {x1 : Int32} {x2 : Int32} {x3 : Int32} {y0 : Int32}
    (h : sm_K M a0 = 39 ∧ ∃ b_2, sm_R M a0 79 = some b_2 ∧ sm_wZ 1 M b_2 ∧ sm_in_ M b_2 y0 ∧ Q none (sm_putI M b_2 (y0).toNatClampNeg 1)) :
    sm_Run (d + 1) 188 60 [some (.inr (some a0)), some (.inl x1), some (.inl x2), some (.inl x3)] [.inl y0] M Q := by
  refine ru_go (t := (61, [some (.inr (some a0)), some (.inl x1), some (.inl x2), some (.inl y0)], [], M)) sm_a188_60 rfl rfl rfl ?_
  refine ru_go (t := (156, [some (.inr (some a0)), some (.inl x1), some (.inl x2), some (.inl y0)], [], M)) sm_a188_61 rfl rfl (st_goto (pc := 61) (by decide)) ?_
  refine ru_go (t := (157, [some (.inr (some a0)), some (.inl x1), some (.inl x2), some (.inl y0)], [.inr (some a0)], M)) sm_a188_156 rfl rfl rfl ?_
  obtain ⟨h_1, h⟩ := h
  refine ru_go (t := (160, [some (.inr (some a0)), some (.inl x1), some (.inl x2), some (.inl y0)], [.inr (sm_R M a0 79)], M)) sm_a188_157 rfl rfl (st_getR h_1 rfl rfl) ?_
  refine ru_go (t := (161, [some (.inr (some a0)), some (.inl x1), some (.inl x2), some (.inl y0)], [.inl y0, .inr (sm_R M a0 79)], M)) sm_a188_160 rfl rfl rfl ?_
  refine ru_go (t := (162, [some (.inr (some a0)), some (.inl x1), some (.inl x2), some (.inl y0)], [.inl 1, .inl y0, .inr (sm_R M a0 79)], M)) sm_a188_161 rfl rfl (st_iconst (by decide)) ?_
  obtain ⟨b_2, hb_3, h⟩ := h
  rw [hb_3]
  obtain ⟨h_4, h⟩ := h
  obtain ⟨h_5, h⟩ := h
  refine ru_go (t := (163, [some (.inr (some a0)), some (.inl x1), some (.inl x2), some (.inl y0)], [], sm_putI M b_2 (y0).toNatClampNeg 1)) sm_a188_162 rfl rfl (st_zast h_4 h_5 (by decide)) ?_
  exact ru_ret sm_a188_163 (sm_rvv rfl) h
theorem bb_188_76 {d : Nat} {M : sm_M} {Q : Option sm_V → sm_M → Prop} {a0 : Nat} {x1 : Int32} {x2 : Int32} {x3 : Int32} {y0 : Int32}
    (h : sm_K M a0 = 39 ∧ ∃ b_2, sm_R M a0 79 = some b_2 ∧ sm_wZ 1 M b_2 ∧ sm_in_ M b_2 y0 ∧ Q none (sm_putI M b_2 (y0).toNatClampNeg 1)) :
    sm_Run (d + 1) 188 76 [some (.inr (some a0)), some (.inl x1), some (.inl x2), some (.inl x3)] [.inl y0] M Q := by
  refine ru_go (t := (77, [some (.inr (some a0)), some (.inl x1), some (.inl x2), some (.inl y0)], [], M)) sm_a188_76 rfl rfl rfl ?_
  refine ru_go (t := (156, [some (.inr (some a0)), some (.inl x1), some (.inl x2), some (.inl y0)], [], M)) sm_a188_77 rfl rfl (st_goto (pc := 77) (by decide)) ?_
  refine ru_go (t := (157, [some (.inr (some a0)), some (.inl x1), some (.inl x2), some (.inl y0)], [.inr (some a0)], M)) sm_a188_156 rfl rfl rfl ?_
  obtain ⟨h_1, h⟩ := h
  refine ru_go (t := (160, [some (.inr (some a0)), some (.inl x1), some (.inl x2), some (.inl y0)], [.inr (sm_R M a0 79)], M)) sm_a188_157 rfl rfl (st_getR h_1 rfl rfl) ?_
  refine ru_go (t := (161, [some (.inr (some a0)), some (.inl x1), some (.inl x2), some (.inl y0)], [.inl y0, .inr (sm_R M a0 79)], M)) sm_a188_160 rfl rfl rfl ?_
  refine ru_go (t := (162, [some (.inr (some a0)), some (.inl x1), some (.inl x2), some (.inl y0)], [.inl 1, .inl y0, .inr (sm_R M a0 79)], M)) sm_a188_161 rfl rfl (st_iconst (by decide)) ?_
  obtain ⟨b_2, hb_3, h⟩ := h
  rw [hb_3]
  obtain ⟨h_4, h⟩ := h
  obtain ⟨h_5, h⟩ := h
  refine ru_go (t := (163, [some (.inr (some a0)), some (.inl x1), some (.inl x2), some (.inl y0)], [], sm_putI M b_2 (y0).toNatClampNeg 1)) sm_a188_162 rfl rfl (st_zast h_4 h_5 (by decide)) ?_
  exact ru_ret sm_a188_163 (sm_rvv rfl) h
theorem bb_188_96 {d : Nat} {M : sm_M} {Q : Option sm_V → sm_M → Prop} {a0 : Nat} {x1 : Int32} {x2 : Int32} {x3 : Int32} {y0 : Int32}
    (h : sm_K M a0 = 39 ∧ ∃ b_2, sm_R M a0 79 = some b_2 ∧ sm_wZ 1 M b_2 ∧ sm_in_ M b_2 y0 ∧ Q none (sm_putI M b_2 (y0).toNatClampNeg 1)) :
    sm_Run (d + 1) 188 96 [some (.inr (some a0)), some (.inl x1), some (.inl x2), some (.inl x3)] [.inl y0] M Q := by
  refine ru_go (t := (97, [some (.inr (some a0)), some (.inl x1), some (.inl x2), some (.inl y0)], [], M)) sm_a188_96 rfl rfl rfl ?_
  refine ru_go (t := (156, [some (.inr (some a0)), some (.inl x1), some (.inl x2), some (.inl y0)], [], M)) sm_a188_97 rfl rfl (st_goto (pc := 97) (by decide)) ?_
  refine ru_go (t := (157, [some (.inr (some a0)), some (.inl x1), some (.inl x2), some (.inl y0)], [.inr (some a0)], M)) sm_a188_156 rfl rfl rfl ?_
  obtain ⟨h_1, h⟩ := h
  refine ru_go (t := (160, [some (.inr (some a0)), some (.inl x1), some (.inl x2), some (.inl y0)], [.inr (sm_R M a0 79)], M)) sm_a188_157 rfl rfl (st_getR h_1 rfl rfl) ?_
  refine ru_go (t := (161, [some (.inr (some a0)), some (.inl x1), some (.inl x2), some (.inl y0)], [.inl y0, .inr (sm_R M a0 79)], M)) sm_a188_160 rfl rfl rfl ?_
  refine ru_go (t := (162, [some (.inr (some a0)), some (.inl x1), some (.inl x2), some (.inl y0)], [.inl 1, .inl y0, .inr (sm_R M a0 79)], M)) sm_a188_161 rfl rfl (st_iconst (by decide)) ?_
  obtain ⟨b_2, hb_3, h⟩ := h
  rw [hb_3]
  obtain ⟨h_4, h⟩ := h
  obtain ⟨h_5, h⟩ := h
  refine ru_go (t := (163, [some (.inr (some a0)), some (.inl x1), some (.inl x2), some (.inl y0)], [], sm_putI M b_2 (y0).toNatClampNeg 1)) sm_a188_162 rfl rfl (st_zast h_4 h_5 (by decide)) ?_
  exact ru_ret sm_a188_163 (sm_rvv rfl) h
theorem bb_188_116 {d : Nat} {M : sm_M} {Q : Option sm_V → sm_M → Prop} {a0 : Nat} {x1 : Int32} {x2 : Int32} {x3 : Int32} {y0 : Int32}
    (h : sm_K M a0 = 39 ∧ ∃ b_2, sm_R M a0 79 = some b_2 ∧ sm_wZ 1 M b_2 ∧ sm_in_ M b_2 y0 ∧ Q none (sm_putI M b_2 (y0).toNatClampNeg 1)) :
    sm_Run (d + 1) 188 116 [some (.inr (some a0)), some (.inl x1), some (.inl x2), some (.inl x3)] [.inl y0] M Q := by
  refine ru_go (t := (117, [some (.inr (some a0)), some (.inl x1), some (.inl x2), some (.inl y0)], [], M)) sm_a188_116 rfl rfl rfl ?_
  refine ru_go (t := (156, [some (.inr (some a0)), some (.inl x1), some (.inl x2), some (.inl y0)], [], M)) sm_a188_117 rfl rfl (st_goto (pc := 117) (by decide)) ?_
  refine ru_go (t := (157, [some (.inr (some a0)), some (.inl x1), some (.inl x2), some (.inl y0)], [.inr (some a0)], M)) sm_a188_156 rfl rfl rfl ?_
  obtain ⟨h_1, h⟩ := h
  refine ru_go (t := (160, [some (.inr (some a0)), some (.inl x1), some (.inl x2), some (.inl y0)], [.inr (sm_R M a0 79)], M)) sm_a188_157 rfl rfl (st_getR h_1 rfl rfl) ?_
  refine ru_go (t := (161, [some (.inr (some a0)), some (.inl x1), some (.inl x2), some (.inl y0)], [.inl y0, .inr (sm_R M a0 79)], M)) sm_a188_160 rfl rfl rfl ?_
  refine ru_go (t := (162, [some (.inr (some a0)), some (.inl x1), some (.inl x2), some (.inl y0)], [.inl 1, .inl y0, .inr (sm_R M a0 79)], M)) sm_a188_161 rfl rfl (st_iconst (by decide)) ?_
  obtain ⟨b_2, hb_3, h⟩ := h
  rw [hb_3]
  obtain ⟨h_4, h⟩ := h
  obtain ⟨h_5, h⟩ := h
  refine ru_go (t := (163, [some (.inr (some a0)), some (.inl x1), some (.inl x2), some (.inl y0)], [], sm_putI M b_2 (y0).toNatClampNeg 1)) sm_a188_162 rfl rfl (st_zast h_4 h_5 (by decide)) ?_
  exact ru_ret sm_a188_163 (sm_rvv rfl) h
theorem bb_188_140 {d : Nat} {M : sm_M} {Q : Option sm_V → sm_M → Prop} {a0 : Nat} {x1 : Int32} {x2 : Int32} {x3 : Int32} {y0 : Int32}
    (h : sm_K M a0 = 39 ∧ ∃ b_2, sm_R M a0 79 = some b_2 ∧ sm_wZ 1 M b_2 ∧ sm_in_ M b_2 y0 ∧ Q none (sm_putI M b_2 (y0).toNatClampNeg 1)) :
    sm_Run (d + 1) 188 140 [some (.inr (some a0)), some (.inl x1), some (.inl x2), some (.inl x3)] [.inl y0] M Q := by
  refine ru_go (t := (141, [some (.inr (some a0)), some (.inl x1), some (.inl x2), some (.inl y0)], [], M)) sm_a188_140 rfl rfl rfl ?_
  refine ru_go (t := (156, [some (.inr (some a0)), some (.inl x1), some (.inl x2), some (.inl y0)], [], M)) sm_a188_141 rfl rfl (st_goto (pc := 141) (by decide)) ?_
  refine ru_go (t := (157, [some (.inr (some a0)), some (.inl x1), some (.inl x2), some (.inl y0)], [.inr (some a0)], M)) sm_a188_156 rfl rfl rfl ?_
  obtain ⟨h_1, h⟩ := h
  refine ru_go (t := (160, [some (.inr (some a0)), some (.inl x1), some (.inl x2), some (.inl y0)], [.inr (sm_R M a0 79)], M)) sm_a188_157 rfl rfl (st_getR h_1 rfl rfl) ?_
  refine ru_go (t := (161, [some (.inr (some a0)), some (.inl x1), some (.inl x2), some (.inl y0)], [.inl y0, .inr (sm_R M a0 79)], M)) sm_a188_160 rfl rfl rfl ?_
  refine ru_go (t := (162, [some (.inr (some a0)), some (.inl x1), some (.inl x2), some (.inl y0)], [.inl 1, .inl y0, .inr (sm_R M a0 79)], M)) sm_a188_161 rfl rfl (st_iconst (by decide)) ?_
  obtain ⟨b_2, hb_3, h⟩ := h
  rw [hb_3]
  obtain ⟨h_4, h⟩ := h
  obtain ⟨h_5, h⟩ := h
  refine ru_go (t := (163, [some (.inr (some a0)), some (.inl x1), some (.inl x2), some (.inl y0)], [], sm_putI M b_2 (y0).toNatClampNeg 1)) sm_a188_162 rfl rfl (st_zast h_4 h_5 (by decide)) ?_
  exact ru_ret sm_a188_163 (sm_rvv rfl) h
theorem bb_188_155 {d : Nat} {M : sm_M} {Q : Option sm_V → sm_M → Prop} {a0 : Nat} {x1 : Int32} {x2 : Int32} {x3 : Int32} {y0 : Int32}
    (h : sm_K M a0 = 39 ∧ ∃ b_2, sm_R M a0 79 = some b_2 ∧ sm_wZ 1 M b_2 ∧ sm_in_ M b_2 y0 ∧ Q none (sm_putI M b_2 (y0).toNatClampNeg 1)) :
    sm_Run (d + 1) 188 155 [some (.inr (some a0)), some (.inl x1), some (.inl x2), some (.inl x3)] [.inl y0] M Q := by
  refine ru_go (t := (156, [some (.inr (some a0)), some (.inl x1), some (.inl x2), some (.inl y0)], [], M)) sm_a188_155 rfl rfl rfl ?_
  refine ru_go (t := (157, [some (.inr (some a0)), some (.inl x1), some (.inl x2), some (.inl y0)], [.inr (some a0)], M)) sm_a188_156 rfl rfl rfl ?_
  obtain ⟨h_1, h⟩ := h
  refine ru_go (t := (160, [some (.inr (some a0)), some (.inl x1), some (.inl x2), some (.inl y0)], [.inr (sm_R M a0 79)], M)) sm_a188_157 rfl rfl (st_getR h_1 rfl rfl) ?_
  refine ru_go (t := (161, [some (.inr (some a0)), some (.inl x1), some (.inl x2), some (.inl y0)], [.inl y0, .inr (sm_R M a0 79)], M)) sm_a188_160 rfl rfl rfl ?_
  refine ru_go (t := (162, [some (.inr (some a0)), some (.inl x1), some (.inl x2), some (.inl y0)], [.inl 1, .inl y0, .inr (sm_R M a0 79)], M)) sm_a188_161 rfl rfl (st_iconst (by decide)) ?_
  obtain ⟨b_2, hb_3, h⟩ := h
  rw [hb_3]
  obtain ⟨h_4, h⟩ := h
  obtain ⟨h_5, h⟩ := h
  refine ru_go (t := (163, [some (.inr (some a0)), some (.inl x1), some (.inl x2), some (.inl y0)], [], sm_putI M b_2 (y0).toNatClampNeg 1)) sm_a188_162 rfl rfl (st_zast h_4 h_5 (by decide)) ?_
  exact ru_ret sm_a188_163 (sm_rvv rfl) h

/-! WireBusModel.isOver:(I)V -/
theorem sm_a189_0 : sm_at 189 0 = some (.aload_n 0, 1, (0, 0, 0, 0)) := by decide +kernel
theorem sm_a189_1 : sm_at 189 1 = some (.getfield 185, 3, (12, 71, 0, 1254)) := by decide +kernel
theorem sm_a189_4 : sm_at 189 4 = some (.iload_n 1, 1, (0, 0, 0, 0)) := by decide +kernel
theorem sm_a189_5 : sm_at 189 5 = some (.iaload, 1, (0, 0, 0, 0)) := by decide +kernel
theorem sm_a189_6 : sm_at 189 6 = some (.istore_n 2, 1, (0, 0, 0, 0)) := by decide +kernel
theorem sm_a189_7 : sm_at 189 7 = some (.aload_n 0, 1, (0, 0, 0, 0)) := by decide +kernel
theorem sm_a189_8 : sm_at 189 8 = some (.getfield 209, 3, (12, 79, 0, 1262)) := by decide +kernel
theorem sm_a189_11 : sm_at 189 11 = some (.iload_n 1, 1, (0, 0, 0, 0)) := by decide +kernel
theorem sm_a189_12 : sm_at 189 12 = some (.baload, 1, (0, 0, 0, 0)) := by decide +kernel
theorem sm_a189_13 : sm_at 189 13 = some (.ifCond .eq 9, 3, (0, 0, 0, 0)) := by decide +kernel
theorem sm_a189_16 : sm_at 189 16 = some (.aload_n 0, 1, (0, 0, 0, 0)) := by decide +kernel
theorem sm_a189_17 : sm_at 189 17 = some (.iload_n 1, 1, (0, 0, 0, 0)) := by decide +kernel
theorem sm_a189_18 : sm_at 189 18 = some (.iload_n 2, 1, (0, 0, 0, 0)) := by decide +kernel
theorem sm_a189_19 : sm_at 189 19 = some (.invokevirtual 382, 3, (10, 190, 12, 1649)) := by decide +kernel
theorem sm_a189_22 : sm_at 189 22 = some (.aload_n 0, 1, (0, 0, 0, 0)) := by decide +kernel
theorem sm_a189_23 : sm_at 189 23 = some (.getfield 191, 3, (12, 73, 0, 1256)) := by decide +kernel
theorem sm_a189_26 : sm_at 189 26 = some (.iload_n 1, 1, (0, 0, 0, 0)) := by decide +kernel
theorem sm_a189_27 : sm_at 189 27 = some (.iaload, 1, (0, 0, 0, 0)) := by decide +kernel
theorem sm_a189_28 : sm_at 189 28 = some (.iconst 1, 1, (0, 0, 0, 0)) := by decide +kernel
theorem sm_a189_29 : sm_at 189 29 = some (.if_icmp .eq 4, 3, (0, 0, 0, 0)) := by decide +kernel
theorem sm_a189_32 : sm_at 189 32 = some (.return_, 1, (0, 0, 0, 0)) := by decide +kernel
theorem sm_a189_33 : sm_at 189 33 = some (.sipush 256, 3, (0, 0, 0, 0)) := by decide +kernel
theorem sm_a189_36 : sm_at 189 36 = some (.aload_n 0, 1, (0, 0, 0, 0)) := by decide +kernel
theorem sm_a189_37 : sm_at 189 37 = some (.getfield 212, 3, (12, 80, 0, 1263)) := by decide +kernel
theorem sm_a189_40 : sm_at 189 40 = some (.bipush 8, 2, (0, 0, 0, 0)) := by decide +kernel
theorem sm_a189_42 : sm_at 189 42 = some (.iload_n 1, 1, (0, 0, 0, 0)) := by decide +kernel
theorem sm_a189_43 : sm_at 189 43 = some (.imul, 1, (0, 0, 0, 0)) := by decide +kernel
theorem sm_a189_44 : sm_at 189 44 = some (.iaload, 1, (0, 0, 0, 0)) := by decide +kernel
theorem sm_a189_45 : sm_at 189 45 = some (.imul, 1, (0, 0, 0, 0)) := by decide +kernel
theorem sm_a189_46 : sm_at 189 46 = some (.aload_n 0, 1, (0, 0, 0, 0)) := by decide +kernel
theorem sm_a189_47 : sm_at 189 47 = some (.getfield 212, 3, (12, 80, 0, 1263)) := by decide +kernel
theorem sm_a189_50 : sm_at 189 50 = some (.bipush 8, 2, (0, 0, 0, 0)) := by decide +kernel
theorem sm_a189_52 : sm_at 189 52 = some (.iload_n 1, 1, (0, 0, 0, 0)) := by decide +kernel
theorem sm_a189_53 : sm_at 189 53 = some (.imul, 1, (0, 0, 0, 0)) := by decide +kernel
theorem sm_a189_54 : sm_at 189 54 = some (.iconst 1, 1, (0, 0, 0, 0)) := by decide +kernel
theorem sm_a189_55 : sm_at 189 55 = some (.iadd, 1, (0, 0, 0, 0)) := by decide +kernel
theorem sm_a189_56 : sm_at 189 56 = some (.iaload, 1, (0, 0, 0, 0)) := by decide +kernel
theorem sm_a189_57 : sm_at 189 57 = some (.iadd, 1, (0, 0, 0, 0)) := by decide +kernel
theorem sm_a189_58 : sm_at 189 58 = some (.istore_n 3, 1, (0, 0, 0, 0)) := by decide +kernel
theorem sm_a189_59 : sm_at 189 59 = some (.aload_n 0, 1, (0, 0, 0, 0)) := by decide +kernel
theorem sm_a189_60 : sm_at 189 60 = some (.getfield 212, 3, (12, 80, 0, 1263)) := by decide +kernel
theorem sm_a189_63 : sm_at 189 63 = some (.bipush 8, 2, (0, 0, 0, 0)) := by decide +kernel
theorem sm_a189_65 : sm_at 189 65 = some (.iload_n 1, 1, (0, 0, 0, 0)) := by decide +kernel
theorem sm_a189_66 : sm_at 189 66 = some (.imul, 1, (0, 0, 0, 0)) := by decide +kernel
theorem sm_a189_67 : sm_at 189 67 = some (.iconst 2, 1, (0, 0, 0, 0)) := by decide +kernel
theorem sm_a189_68 : sm_at 189 68 = some (.iadd, 1, (0, 0, 0, 0)) := by decide +kernel
theorem sm_a189_69 : sm_at 189 69 = some (.iaload, 1, (0, 0, 0, 0)) := by decide +kernel
theorem sm_a189_70 : sm_at 189 70 = some (.sipush 256, 3, (0, 0, 0, 0)) := by decide +kernel
theorem sm_a189_73 : sm_at 189 73 = some (.aload_n 0, 1, (0, 0, 0, 0)) := by decide +kernel
theorem sm_a189_74 : sm_at 189 74 = some (.getfield 212, 3, (12, 80, 0, 1263)) := by decide +kernel
theorem sm_a189_77 : sm_at 189 77 = some (.bipush 8, 2, (0, 0, 0, 0)) := by decide +kernel
theorem sm_a189_79 : sm_at 189 79 = some (.iload_n 1, 1, (0, 0, 0, 0)) := by decide +kernel
theorem sm_a189_80 : sm_at 189 80 = some (.imul, 1, (0, 0, 0, 0)) := by decide +kernel
theorem sm_a189_81 : sm_at 189 81 = some (.iconst 3, 1, (0, 0, 0, 0)) := by decide +kernel
theorem sm_a189_82 : sm_at 189 82 = some (.iadd, 1, (0, 0, 0, 0)) := by decide +kernel
theorem sm_a189_83 : sm_at 189 83 = some (.iaload, 1, (0, 0, 0, 0)) := by decide +kernel
theorem sm_a189_84 : sm_at 189 84 = some (.imul, 1, (0, 0, 0, 0)) := by decide +kernel
theorem sm_a189_85 : sm_at 189 85 = some (.iadd, 1, (0, 0, 0, 0)) := by decide +kernel
theorem sm_a189_86 : sm_at 189 86 = some (.istore 4, 2, (0, 0, 0, 0)) := by decide +kernel
theorem sm_a189_88 : sm_at 189 88 = some (.iload_n 3, 1, (0, 0, 0, 0)) := by decide +kernel
theorem sm_a189_89 : sm_at 189 89 = some (.sipush 513, 3, (0, 0, 0, 0)) := by decide +kernel
theorem sm_a189_92 : sm_at 189 92 = some (.if_icmp .ne 51, 3, (0, 0, 0, 0)) := by decide +kernel
theorem sm_a189_95 : sm_at 189 95 = some (.iload 4, 2, (0, 0, 0, 0)) := by decide +kernel
theorem sm_a189_97 : sm_at 189 97 = some (.ifCond .ne 46, 3, (0, 0, 0, 0)) := by decide +kernel
theorem sm_a189_100 : sm_at 189 100 = some (.aload_n 0, 1, (0, 0, 0, 0)) := by decide +kernel
theorem sm_a189_101 : sm_at 189 101 = some (.iload_n 2, 1, (0, 0, 0, 0)) := by decide +kernel
theorem sm_a189_102 : sm_at 189 102 = some (.aload_n 0, 1, (0, 0, 0, 0)) := by decide +kernel
theorem sm_a189_103 : sm_at 189 103 = some (.getfield 212, 3, (12, 80, 0, 1263)) := by decide +kernel
theorem sm_a189_106 : sm_at 189 106 = some (.bipush 8, 2, (0, 0, 0, 0)) := by decide +kernel
theorem sm_a189_108 : sm_at 189 108 = some (.iload_n 1, 1, (0, 0, 0, 0)) := by decide +kernel
theorem sm_a189_109 : sm_at 189 109 = some (.imul, 1, (0, 0, 0, 0)) := by decide +kernel
theorem sm_a189_110 : sm_at 189 110 = some (.iconst 4, 1, (0, 0, 0, 0)) := by decide +kernel
theorem sm_a189_111 : sm_at 189 111 = some (.iadd, 1, (0, 0, 0, 0)) := by decide +kernel
theorem sm_a189_112 : sm_at 189 112 = some (.iaload, 1, (0, 0, 0, 0)) := by decide +kernel
theorem sm_a189_113 : sm_at 189 113 = some (.invokevirtual 385, 3, (10, 177, 12, 1498)) := by decide +kernel
theorem sm_a189_116 : sm_at 189 116 = some (.istore 5, 2, (0, 0, 0, 0)) := by decide +kernel
theorem sm_a189_118 : sm_at 189 118 = some (.iload 5, 2, (0, 0, 0, 0)) := by decide +kernel
theorem sm_a189_120 : sm_at 189 120 = some (.iconst (-1), 1, (0, 0, 0, 0)) := by decide +kernel
theorem sm_a189_121 : sm_at 189 121 = some (.if_icmp .eq 19, 3, (0, 0, 0, 0)) := by decide +kernel
theorem sm_a189_124 : sm_at 189 124 = some (.aload_n 0, 1, (0, 0, 0, 0)) := by decide +kernel
theorem sm_a189_125 : sm_at 189 125 = some (.getfield 179, 3, (12, 67, 0, 1250)) := by decide +kernel
theorem sm_a189_128 : sm_at 189 128 = some (.iload 5, 2, (0, 0, 0, 0)) := by decide +kernel
theorem sm_a189_130 : sm_at 189 130 = some (.iconst 1, 1, (0, 0, 0, 0)) := by decide +kernel
theorem sm_a189_131 : sm_at 189 131 = some (.bastore, 1, (1, 0, 0, 0)) := by decide +kernel
theorem sm_a189_132 : sm_at 189 132 = some (.aload_n 0, 1, (0, 0, 0, 0)) := by decide +kernel
theorem sm_a189_133 : sm_at 189 133 = some (.getfield 176, 3, (12, 66, 0, 1249)) := by decide +kernel
theorem sm_a189_136 : sm_at 189 136 = some (.iload 5, 2, (0, 0, 0, 0)) := by decide +kernel
theorem sm_a189_138 : sm_at 189 138 = some (.iconst 0, 1, (0, 0, 0, 0)) := by decide +kernel
theorem sm_a189_139 : sm_at 189 139 = some (.iastore, 1, (1, 0, 0, 0)) := by decide +kernel
theorem sm_a189_140 : sm_at 189 140 = some (.goto 59, 3, (0, 0, 0, 0)) := by decide +kernel
theorem sm_a189_143 : sm_at 189 143 = some (.iload_n 3, 1, (0, 0, 0, 0)) := by decide +kernel
theorem sm_a189_144 : sm_at 189 144 = some (.bipush 9, 2, (0, 0, 0, 0)) := by decide +kernel
theorem sm_a189_146 : sm_at 189 146 = some (.if_icmp .ne 53, 3, (0, 0, 0, 0)) := by decide +kernel
theorem sm_a189_149 : sm_at 189 149 = some (.iload 4, 2, (0, 0, 0, 0)) := by decide +kernel
theorem sm_a189_151 : sm_at 189 151 = some (.iconst 1, 1, (0, 0, 0, 0)) := by decide +kernel
theorem sm_a189_152 : sm_at 189 152 = some (.if_icmp .ne 47, 3, (0, 0, 0, 0)) := by decide +kernel
theorem sm_a189_155 : sm_at 189 155 = some (.bipush 10, 2, (0, 0, 0, 0)) := by decide +kernel
theorem sm_a189_157 : sm_at 189 157 = some (.iload_n 2, 1, (0, 0, 0, 0)) := by decide +kernel
theorem sm_a189_158 : sm_at 189 158 = some (.imul, 1, (0, 0, 0, 0)) := by decide +kernel
theorem sm_a189_159 : sm_at 189 159 = some (.istore 5, 2, (0, 0, 0, 0)) := by decide +kernel
theorem sm_a189_161 : sm_at 189 161 = some (.iload 5, 2, (0, 0, 0, 0)) := by decide +kernel
theorem sm_a189_163 : sm_at 189 163 = some (.bipush 10, 2, (0, 0, 0, 0)) := by decide +kernel
theorem sm_a189_165 : sm_at 189 165 = some (.iload_n 2, 1, (0, 0, 0, 0)) := by decide +kernel
theorem sm_a189_166 : sm_at 189 166 = some (.imul, 1, (0, 0, 0, 0)) := by decide +kernel
theorem sm_a189_167 : sm_at 189 167 = some (.aload_n 0, 1, (0, 0, 0, 0)) := by decide +kernel
theorem sm_a189_168 : sm_at 189 168 = some (.getfield 161, 3, (12, 61, 0, 1244)) := by decide +kernel
theorem sm_a189_171 : sm_at 189 171 = some (.iload_n 2, 1, (0, 0, 0, 0)) := by decide +kernel
theorem sm_a189_172 : sm_at 189 172 = some (.iaload, 1, (0, 0, 0, 0)) := by decide +kernel
theorem sm_a189_173 : sm_at 189 173 = some (.iadd, 1, (0, 0, 0, 0)) := by decide +kernel
theorem sm_a189_174 : sm_at 189 174 = some (.if_icmp .ge 25, 3, (0, 0, 0, 0)) := by decide +kernel
theorem sm_a189_177 : sm_at 189 177 = some (.aload_n 0, 1, (0, 0, 0, 0)) := by decide +kernel
theorem sm_a189_178 : sm_at 189 178 = some (.getfield 179, 3, (12, 67, 0, 1250)) := by decide +kernel
theorem sm_a189_181 : sm_at 189 181 = some (.iload 5, 2, (0, 0, 0, 0)) := by decide +kernel
theorem sm_a189_183 : sm_at 189 183 = some (.iconst 1, 1, (0, 0, 0, 0)) := by decide +kernel
theorem sm_a189_184 : sm_at 189 184 = some (.bastore, 1, (1, 0, 0, 0)) := by decide +kernel
theorem sm_a189_185 : sm_at 189 185 = some (.aload_n 0, 1, (0, 0, 0, 0)) := by decide +kernel
theorem sm_a189_186 : sm_at 189 186 = some (.getfield 176, 3, (12, 66, 0, 1249)) := by decide +kernel
theorem sm_a189_189 : sm_at 189 189 = some (.iload 5, 2, (0, 0, 0, 0)) := by decide +kernel
theorem sm_a189_191 : sm_at 189 191 = some (.iconst 0, 1, (0, 0, 0, 0)) := by decide +kernel
theorem sm_a189_192 : sm_at 189 192 = some (.iastore, 1, (1, 0, 0, 0)) := by decide +kernel
theorem sm_a189_193 : sm_at 189 193 = some (.iinc 5 1, 3, (0, 0, 0, 0)) := by decide +kernel
theorem sm_a189_196 : sm_at 189 196 = some (.goto (-35), 3, (0, 0, 0, 0)) := by decide +kernel
theorem sm_a189_199 : sm_at 189 199 = some (.return_, 1, (0, 0, 0, 0)) := by decide +kernel
theorem bb_189_0 {d : Nat} {M : sm_M} {Q : Option sm_V → sm_M → Prop} {a0 : Nat} {x1 : Int32} {z2 : Option sm_V} {z3 : Option sm_V} {z4 : Option sm_V} {z5 : Option sm_V}
    (h : sm_K M a0 = 39 ∧ ∃ b_2, sm_R M a0 71 = some b_2 ∧ sm_iA M b_2 ∧ sm_in_ M b_2 x1 ∧ ∃ b_6, sm_R M a0 79 = some b_6 ∧ sm_wZ 1 M b_6 ∧ sm_in_ M b_6 x1 ∧ (((sm_I M b_6 (x1).toNatClampNeg) = 0 → sm_Run (d + 1) 189 22 [some (.inr (some a0)), some (.inl x1), some (.inl (sm_I M b_2 (x1).toNatClampNeg)), z3, z4, z5] [] M Q) ∧ (¬ ((sm_I M b_6 (x1).toNatClampNeg) = 0) → sm_Run d 190 0 (sm_ent 190 [.inr (some a0), .inl x1, .inl (sm_I M b_2 (x1).toNatClampNeg)]) [] M (fun v M1 => sm_Run (d + 1) 189 22 [some (.inr (some a0)), some (.inl x1), some (.inl (sm_I M b_2 (x1).toNatClampNeg)), z3, z4, z5] (v.toList ++ []) M1 Q)))) :
    sm_Run (d + 1) 189 0 [some (.inr (some a0)), some (.inl x1), z2, z3, z4, z5] [] M Q := by
  refine ru_go (t := (1, [some (.inr (some a0)), some (.inl x1), z2, z3, z4, z5], [.inr (some a0)], M)) sm_a189_0 rfl rfl rfl ?_
  obtain ⟨h_1, h⟩ := h
  refine ru_go (t := (4, [some (.inr (some a0)), some (.inl x1), z2, z3, z4, z5], [.inr (sm_R M a0 71)], M)) sm_a189_1 rfl rfl (st_getR h_1 rfl rfl) ?_
  refine ru_go (t := (5, [some (.inr (some a0)), some (.inl x1), z2, z3, z4, z5], [.inl x1, .inr (sm_R M a0 71)], M)) sm_a189_4 rfl rfl rfl ?_
  obtain ⟨b_2, hb_3, h⟩ := h
  rw [hb_3]
  obtain ⟨h_4, h⟩ := h
  obtain ⟨h_5, h⟩ := h
  refine ru_go (t := (6, [some (.inr (some a0)), some (.inl x1), z2, z3, z4, z5], [.inl (sm_I M b_2 (x1).toNatClampNeg)], M)) sm_a189_5 rfl rfl (st_iald h_4 h_5) ?_
  refine ru_go (t := (7, [some (.inr (some a0)), some (.inl x1), some (.inl (sm_I M b_2 (x1).toNatClampNeg)), z3, z4, z5], [], M)) sm_a189_6 rfl rfl rfl ?_
  refine ru_go (t := (8, [some (.inr (some a0)), some (.inl x1), some (.inl (sm_I M b_2 (x1).toNatClampNeg)), z3, z4, z5], [.inr (some a0)], M)) sm_a189_7 rfl rfl rfl ?_
  refine ru_go (t := (11, [some (.inr (some a0)), some (.inl x1), some (.inl (sm_I M b_2 (x1).toNatClampNeg)), z3, z4, z5], [.inr (sm_R M a0 79)], M)) sm_a189_8 rfl rfl (st_getR h_1 rfl rfl) ?_
  refine ru_go (t := (12, [some (.inr (some a0)), some (.inl x1), some (.inl (sm_I M b_2 (x1).toNatClampNeg)), z3, z4, z5], [.inl x1, .inr (sm_R M a0 79)], M)) sm_a189_11 rfl rfl rfl ?_
  obtain ⟨b_6, hb_7, h⟩ := h
  rw [hb_7]
  obtain ⟨h_8, h⟩ := h
  obtain ⟨h_9, h⟩ := h
  refine ru_go (t := (13, [some (.inr (some a0)), some (.inl x1), some (.inl (sm_I M b_2 (x1).toNatClampNeg)), z3, z4, z5], [.inl (sm_I M b_6 (x1).toNatClampNeg)], M)) sm_a189_12 rfl rfl (st_zald h_8 h_9) ?_
  refine ru_if (pc := 13) (p := 22) (p2 := 16) sm_a189_13 (by decide) rfl ⟨fun hc_10 => ?_, fun hc_10 => ?_⟩
  · have h := h.1 hc_10
    exact h
  · have h := h.2 hc_10
    refine ru_go (t := (17, [some (.inr (some a0)), some (.inl x1), some (.inl (sm_I M b_2 (x1).toNatClampNeg)), z3, z4, z5], [.inr (some a0)], M)) sm_a189_16 rfl rfl rfl ?_
    refine ru_go (t := (18, [some (.inr (some a0)), some (.inl x1), some (.inl (sm_I M b_2 (x1).toNatClampNeg)), z3, z4, z5], [.inl x1, .inr (some a0)], M)) sm_a189_17 rfl rfl rfl ?_
    refine ru_go (t := (19, [some (.inr (some a0)), some (.inl x1), some (.inl (sm_I M b_2 (x1).toNatClampNeg)), z3, z4, z5], [.inl (sm_I M b_2 (x1).toNatClampNeg), .inl x1, .inr (some a0)], M)) sm_a189_18 rfl rfl rfl ?_
    exact ru_call (p := 22) sm_a189_19 rfl (sc_virt (Or.inl rfl) rfl rfl h_1 (Nat.le_of_ble_eq_true rfl)) rfl h
theorem bb_189_22 {d : Nat} {M : sm_M} {Q : Option sm_V → sm_M → Prop} {a0 : Nat} {x1 : Int32} {x2 : Int32} {z3 : Option sm_V} {z4 : Option sm_V} {z5 : Option sm_V}
    (h : sm_K M a0 = 39 ∧ ∃ b_2, sm_R M a0 73 = some b_2 ∧ sm_iA M b_2 ∧ sm_in_ M b_2 x1 ∧ (((sm_I M b_2 (x1).toNatClampNeg) = 1 → ∃ b_7, sm_R M a0 80 = some b_7 ∧ sm_iA M b_7 ∧ sm_in_ M b_7 (8 * x1) ∧ ∃ b_11, sm_R M a0 80 = some b_11 ∧ sm_iA M b_11 ∧ sm_in_ M b_11 ((8 * x1) + 1) ∧ ∃ b_15, sm_R M a0 80 = some b_15 ∧ sm_iA M b_15 ∧ sm_in_ M b_15 ((8 * x1) + 2) ∧ ∃ b_19, sm_R M a0 80 = some b_19 ∧ sm_iA M b_19 ∧ sm_in_ M b_19 ((8 * x1) + 3) ∧ ((¬ ((256 * (sm_I M b_7 (8 * x1).toNatClampNeg)) + (sm_I M b_11 ((8 * x1) + 1).toNatClampNeg)) = 513 → sm_Run (d + 1) 189 143 [some (.inr (some a0)), some (.inl x1), some (.inl x2), some (.inl ((256 * (sm_I M b_7 (8 * x1).toNatClampNeg)) + (sm_I M b_11 ((8 * x1) + 1).toNatClampNeg))), some (.inl ((sm_I M b_15 ((8 * x1) + 2).toNatClampNeg) + (256 * (sm_I M b_19 ((8 * x1) + 3).toNatClampNeg)))), z5] [] M Q) ∧ (¬ (¬ ((256 * (sm_I M b_7 (8 * x1).toNatClampNeg)) + (sm_I M b_11 ((8 * x1) + 1).toNatClampNeg)) = 513) → ((¬ ((sm_I M b_15 ((8 * x1) + 2).toNatClampNeg) + (256 * (sm_I M b_19 ((8 * x1) + 3).toNatClampNeg))) = 0 → sm_Run (d + 1) 189 143 [some (.inr (some a0)), some (.inl x1), some (.inl x2), some (.inl ((256 * (sm_I M b_7 (8 * x1).toNatClampNeg)) + (sm_I M b_11 ((8 * x1) + 1).toNatClampNeg))), some (.inl ((sm_I M b_15 ((8 * x1) + 2).toNatClampNeg) + (256 * (sm_I M b_19 ((8 * x1) + 3).toNatClampNeg)))), z5] [] M Q) ∧ (¬ (¬ ((sm_I M b_15 ((8 * x1) + 2).toNatClampNeg) + (256 * (sm_I M b_19 ((8 * x1) + 3).toNatClampNeg))) = 0) → ∃ b_25, sm_R M a0 80 = some b_25 ∧ sm_iA M b_25 ∧ sm_in_ M b_25 ((8 * x1) + 4) ∧ sm_Run d 177 0 (sm_ent 177 [.inr (some a0), .inl x2, .inl (sm_I M b_25 ((8 * x1) + 4).toNatClampNeg)]) [] M (fun v M1 => sm_Run (d + 1) 189 116 [some (.inr (some a0)), some (.inl x1), some (.inl x2), some (.inl ((256 * (sm_I M b_7 (8 * x1).toNatClampNeg)) + (sm_I M b_11 ((8 * x1) + 1).toNatClampNeg))), some (.inl ((sm_I M b_15 ((8 * x1) + 2).toNatClampNeg) + (256 * (sm_I M b_19 ((8 * x1) + 3).toNatClampNeg)))), z5] (v.toList ++ []) M1 Q)))))) ∧ (¬ ((sm_I M b_2 (x1).toNatClampNeg) = 1) → Q none M))) :
    sm_Run (d + 1) 189 22 [some (.inr (some a0)), some (.inl x1), some (.inl x2), z3, z4, z5] [] M Q := by
  refine ru_go (t := (23, [some (.inr (some a0)), some (.inl x1), some (.inl x2), z3, z4, z5], [.inr (some a0)], M)) sm_a189_22 rfl rfl rfl ?_
  obtain ⟨h_1, h⟩ := h
  refine ru_go (t := (26, [some (.inr (some a0)), some (.inl x1), some (.inl x2), z3, z4, z5], [.inr (sm_R M a0 73)], M)) sm_a189_23 rfl rfl (st_getR h_1 rfl rfl) ?_
  refine ru_go (t := (27, [some (.inr (some a0)), some (.inl x1), some (.inl x2), z3, z4, z5], [.inl x1, .inr (sm_R M a0 73)], M)) sm_a189_26 rfl rfl rfl ?_
  obtain ⟨b_2, hb_3, h⟩ := h
  rw [hb_3]
  obtain ⟨h_4, h⟩ := h
  obtain ⟨h_5, h⟩ := h
  refine ru_go (t := (28, [some (.inr (some a0)), some (.inl x1), some (.inl x2), z3, z4, z5], [.inl (sm_I M b_2 (x1).toNatClampNeg)], M)) sm_a189_27 rfl rfl (st_iald h_4 h_5) ?_
  refine ru_go (t := (29, [some (.inr (some a0)), some (.inl x1), some (.inl x2), z3, z4, z5], [.inl 1, .inl (sm_I M b_2 (x1).toNatClampNeg)], M)) sm_a189_28 rfl rfl (st_iconst (by decide)) ?_
  refine ru_icmp (pc := 29) (p := 33) (p2 := 32) sm_a189_29 (by decide) rfl ⟨fun hc_6 => ?_, fun hc_6 => ?_⟩
  · have h := h.1 hc_6
    refine ru_go (t := (36, [some (.inr (some a0)), some (.inl x1), some (.inl x2), z3, z4, z5], [.inl 256], M)) sm_a189_33 rfl rfl (st_sipush (by decide)) ?_
    refine ru_go (t := (37, [some (.inr (some a0)), some (.inl x1), some (.inl x2), z3, z4, z5], [.inr (some a0), .inl 256], M)) sm_a189_36 rfl rfl rfl ?_
    refine ru_go (t := (40, [some (.inr (some a0)), some (.inl x1), some (.inl x2), z3, z4, z5], [.inr (sm_R M a0 80), .inl 256], M)) sm_a189_37 rfl rfl (st_getR h_1 rfl rfl) ?_
    refine ru_go (t := (42, [some (.inr (some a0)), some (.inl x1), some (.inl x2), z3, z4, z5], [.inl 8, .inr (sm_R M a0 80), .inl 256], M)) sm_a189_40 rfl rfl (st_bipush (by decide)) ?_
    refine ru_go (t := (43, [some (.inr (some a0)), some (.inl x1), some (.inl x2), z3, z4, z5], [.inl x1, .inl 8, .inr (sm_R M a0 80), .inl 256], M)) sm_a189_42 rfl rfl rfl ?_
    refine ru_go (t := (44, [some (.inr (some a0)), some (.inl x1), some (.inl x2), z3, z4, z5], [.inl (8 * x1), .inr (sm_R M a0 80), .inl 256], M)) sm_a189_43 rfl rfl rfl ?_
    obtain ⟨b_7, hb_8, h⟩ := h
    rw [hb_8]
    obtain ⟨h_9, h⟩ := h
    obtain ⟨h_10, h⟩ := h
    refine ru_go (t := (45, [some (.inr (some a0)), some (.inl x1), some (.inl x2), z3, z4, z5], [.inl (sm_I M b_7 (8 * x1).toNatClampNeg), .inl 256], M)) sm_a189_44 rfl rfl (st_iald h_9 h_10) ?_
    refine ru_go (t := (46, [some (.inr (some a0)), some (.inl x1), some (.inl x2), z3, z4, z5], [.inl (256 * (sm_I M b_7 (8 * x1).toNatClampNeg))], M)) sm_a189_45 rfl rfl rfl ?_
    refine ru_go (t := (47, [some (.inr (some a0)), some (.inl x1), some (.inl x2), z3, z4, z5], [.inr (some a0), .inl (256 * (sm_I M b_7 (8 * x1).toNatClampNeg))], M)) sm_a189_46 rfl rfl rfl ?_
    refine ru_go (t := (50, [some (.inr (some a0)), some (.inl x1), some (.inl x2), z3, z4, z5], [.inr (sm_R M a0 80), .inl (256 * (sm_I M b_7 (8 * x1).toNatClampNeg))], M)) sm_a189_47 rfl rfl (st_getR h_1 rfl rfl) ?_
    refine ru_go (t := (52, [some (.inr (some a0)), some (.inl x1), some (.inl x2), z3, z4, z5], [.inl 8, .inr (sm_R M a0 80), .inl (256 * (sm_I M b_7 (8 * x1).toNatClampNeg))], M)) sm_a189_50 rfl rfl (st_bipush (by decide)) ?_
    refine ru_go (t := (53, [some (.inr (some a0)), some (.inl x1), some (.inl x2), z3, z4, z5], [.inl x1, .inl 8, .inr (sm_R M a0 80), .inl (256 * (sm_I M b_7 (8 * x1).toNatClampNeg))], M)) sm_a189_52 rfl rfl rfl ?_
    refine ru_go (t := (54, [some (.inr (some a0)), some (.inl x1), some (.inl x2), z3, z4, z5], [.inl (8 * x1), .inr (sm_R M a0 80), .inl (256 * (sm_I M b_7 (8 * x1).toNatClampNeg))], M)) sm_a189_53 rfl rfl rfl ?_
    refine ru_go (t := (55, [some (.inr (some a0)), some (.inl x1), some (.inl x2), z3, z4, z5], [.inl 1, .inl (8 * x1), .inr (sm_R M a0 80), .inl (256 * (sm_I M b_7 (8 * x1).toNatClampNeg))], M)) sm_a189_54 rfl rfl (st_iconst (by decide)) ?_
    refine ru_go (t := (56, [some (.inr (some a0)), some (.inl x1), some (.inl x2), z3, z4, z5], [.inl ((8 * x1) + 1), .inr (sm_R M a0 80), .inl (256 * (sm_I M b_7 (8 * x1).toNatClampNeg))], M)) sm_a189_55 rfl rfl rfl ?_
    obtain ⟨b_11, hb_12, h⟩ := h
    rw [hb_12]
    obtain ⟨h_13, h⟩ := h
    obtain ⟨h_14, h⟩ := h
    refine ru_go (t := (57, [some (.inr (some a0)), some (.inl x1), some (.inl x2), z3, z4, z5], [.inl (sm_I M b_11 ((8 * x1) + 1).toNatClampNeg), .inl (256 * (sm_I M b_7 (8 * x1).toNatClampNeg))], M)) sm_a189_56 rfl rfl (st_iald h_13 h_14) ?_
    refine ru_go (t := (58, [some (.inr (some a0)), some (.inl x1), some (.inl x2), z3, z4, z5], [.inl ((256 * (sm_I M b_7 (8 * x1).toNatClampNeg)) + (sm_I M b_11 ((8 * x1) + 1).toNatClampNeg))], M)) sm_a189_57 rfl rfl rfl ?_
    refine ru_go (t := (59, [some (.inr (some a0)), some (.inl x1), some (.inl x2), some (.inl ((256 * (sm_I M b_7 (8 * x1).toNatClampNeg)) + (sm_I M b_11 ((8 * x1) + 1).toNatClampNeg))), z4, z5], [], M)) sm_a189_58 rfl rfl rfl ?_
    refine ru_go (t := (60, [some (.inr (some a0)), some (.inl x1), some (.inl x2), some (.inl ((256 * (sm_I M b_7 (8 * x1).toNatClampNeg)) + (sm_I M b_11 ((8 * x1) + 1).toNatClampNeg))), z4, z5], [.inr (some a0)], M)) sm_a189_59 rfl rfl rfl ?_
    refine ru_go (t := (63, [some (.inr (some a0)), some (.inl x1), some (.inl x2), some (.inl ((256 * (sm_I M b_7 (8 * x1).toNatClampNeg)) + (sm_I M b_11 ((8 * x1) + 1).toNatClampNeg))), z4, z5], [.inr (sm_R M a0 80)], M)) sm_a189_60 rfl rfl (st_getR h_1 rfl rfl) ?_
    refine ru_go (t := (65, [some (.inr (some a0)), some (.inl x1), some (.inl x2), some (.inl ((256 * (sm_I M b_7 (8 * x1).toNatClampNeg)) + (sm_I M b_11 ((8 * x1) + 1).toNatClampNeg))), z4, z5], [.inl 8, .inr (sm_R M a0 80)], M)) sm_a189_63 rfl rfl (st_bipush (by decide)) ?_
    refine ru_go (t := (66, [some (.inr (some a0)), some (.inl x1), some (.inl x2), some (.inl ((256 * (sm_I M b_7 (8 * x1).toNatClampNeg)) + (sm_I M b_11 ((8 * x1) + 1).toNatClampNeg))), z4, z5], [.inl x1, .inl 8, .inr (sm_R M a0 80)], M)) sm_a189_65 rfl rfl rfl ?_
    refine ru_go (t := (67, [some (.inr (some a0)), some (.inl x1), some (.inl x2), some (.inl ((256 * (sm_I M b_7 (8 * x1).toNatClampNeg)) + (sm_I M b_11 ((8 * x1) + 1).toNatClampNeg))), z4, z5], [.inl (8 * x1), .inr (sm_R M a0 80)], M)) sm_a189_66 rfl rfl rfl ?_
    refine ru_go (t := (68, [some (.inr (some a0)), some (.inl x1), some (.inl x2), some (.inl ((256 * (sm_I M b_7 (8 * x1).toNatClampNeg)) + (sm_I M b_11 ((8 * x1) + 1).toNatClampNeg))), z4, z5], [.inl 2, .inl (8 * x1), .inr (sm_R M a0 80)], M)) sm_a189_67 rfl rfl (st_iconst (by decide)) ?_
    refine ru_go (t := (69, [some (.inr (some a0)), some (.inl x1), some (.inl x2), some (.inl ((256 * (sm_I M b_7 (8 * x1).toNatClampNeg)) + (sm_I M b_11 ((8 * x1) + 1).toNatClampNeg))), z4, z5], [.inl ((8 * x1) + 2), .inr (sm_R M a0 80)], M)) sm_a189_68 rfl rfl rfl ?_
    obtain ⟨b_15, hb_16, h⟩ := h
    rw [hb_16]
    obtain ⟨h_17, h⟩ := h
    obtain ⟨h_18, h⟩ := h
    refine ru_go (t := (70, [some (.inr (some a0)), some (.inl x1), some (.inl x2), some (.inl ((256 * (sm_I M b_7 (8 * x1).toNatClampNeg)) + (sm_I M b_11 ((8 * x1) + 1).toNatClampNeg))), z4, z5], [.inl (sm_I M b_15 ((8 * x1) + 2).toNatClampNeg)], M)) sm_a189_69 rfl rfl (st_iald h_17 h_18) ?_
    refine ru_go (t := (73, [some (.inr (some a0)), some (.inl x1), some (.inl x2), some (.inl ((256 * (sm_I M b_7 (8 * x1).toNatClampNeg)) + (sm_I M b_11 ((8 * x1) + 1).toNatClampNeg))), z4, z5], [.inl 256, .inl (sm_I M b_15 ((8 * x1) + 2).toNatClampNeg)], M)) sm_a189_70 rfl rfl (st_sipush (by decide)) ?_
    refine ru_go (t := (74, [some (.inr (some a0)), some (.inl x1), some (.inl x2), some (.inl ((256 * (sm_I M b_7 (8 * x1).toNatClampNeg)) + (sm_I M b_11 ((8 * x1) + 1).toNatClampNeg))), z4, z5], [.inr (some a0), .inl 256, .inl (sm_I M b_15 ((8 * x1) + 2).toNatClampNeg)], M)) sm_a189_73 rfl rfl rfl ?_
    refine ru_go (t := (77, [some (.inr (some a0)), some (.inl x1), some (.inl x2), some (.inl ((256 * (sm_I M b_7 (8 * x1).toNatClampNeg)) + (sm_I M b_11 ((8 * x1) + 1).toNatClampNeg))), z4, z5], [.inr (sm_R M a0 80), .inl 256, .inl (sm_I M b_15 ((8 * x1) + 2).toNatClampNeg)], M)) sm_a189_74 rfl rfl (st_getR h_1 rfl rfl) ?_
    refine ru_go (t := (79, [some (.inr (some a0)), some (.inl x1), some (.inl x2), some (.inl ((256 * (sm_I M b_7 (8 * x1).toNatClampNeg)) + (sm_I M b_11 ((8 * x1) + 1).toNatClampNeg))), z4, z5], [.inl 8, .inr (sm_R M a0 80), .inl 256, .inl (sm_I M b_15 ((8 * x1) + 2).toNatClampNeg)], M)) sm_a189_77 rfl rfl (st_bipush (by decide)) ?_
    refine ru_go (t := (80, [some (.inr (some a0)), some (.inl x1), some (.inl x2), some (.inl ((256 * (sm_I M b_7 (8 * x1).toNatClampNeg)) + (sm_I M b_11 ((8 * x1) + 1).toNatClampNeg))), z4, z5], [.inl x1, .inl 8, .inr (sm_R M a0 80), .inl 256, .inl (sm_I M b_15 ((8 * x1) + 2).toNatClampNeg)], M)) sm_a189_79 rfl rfl rfl ?_
    refine ru_go (t := (81, [some (.inr (some a0)), some (.inl x1), some (.inl x2), some (.inl ((256 * (sm_I M b_7 (8 * x1).toNatClampNeg)) + (sm_I M b_11 ((8 * x1) + 1).toNatClampNeg))), z4, z5], [.inl (8 * x1), .inr (sm_R M a0 80), .inl 256, .inl (sm_I M b_15 ((8 * x1) + 2).toNatClampNeg)], M)) sm_a189_80 rfl rfl rfl ?_
    refine ru_go (t := (82, [some (.inr (some a0)), some (.inl x1), some (.inl x2), some (.inl ((256 * (sm_I M b_7 (8 * x1).toNatClampNeg)) + (sm_I M b_11 ((8 * x1) + 1).toNatClampNeg))), z4, z5], [.inl 3, .inl (8 * x1), .inr (sm_R M a0 80), .inl 256, .inl (sm_I M b_15 ((8 * x1) + 2).toNatClampNeg)], M)) sm_a189_81 rfl rfl (st_iconst (by decide)) ?_
    refine ru_go (t := (83, [some (.inr (some a0)), some (.inl x1), some (.inl x2), some (.inl ((256 * (sm_I M b_7 (8 * x1).toNatClampNeg)) + (sm_I M b_11 ((8 * x1) + 1).toNatClampNeg))), z4, z5], [.inl ((8 * x1) + 3), .inr (sm_R M a0 80), .inl 256, .inl (sm_I M b_15 ((8 * x1) + 2).toNatClampNeg)], M)) sm_a189_82 rfl rfl rfl ?_
    obtain ⟨b_19, hb_20, h⟩ := h
    rw [hb_20]
    obtain ⟨h_21, h⟩ := h
    obtain ⟨h_22, h⟩ := h
    refine ru_go (t := (84, [some (.inr (some a0)), some (.inl x1), some (.inl x2), some (.inl ((256 * (sm_I M b_7 (8 * x1).toNatClampNeg)) + (sm_I M b_11 ((8 * x1) + 1).toNatClampNeg))), z4, z5], [.inl (sm_I M b_19 ((8 * x1) + 3).toNatClampNeg), .inl 256, .inl (sm_I M b_15 ((8 * x1) + 2).toNatClampNeg)], M)) sm_a189_83 rfl rfl (st_iald h_21 h_22) ?_
    refine ru_go (t := (85, [some (.inr (some a0)), some (.inl x1), some (.inl x2), some (.inl ((256 * (sm_I M b_7 (8 * x1).toNatClampNeg)) + (sm_I M b_11 ((8 * x1) + 1).toNatClampNeg))), z4, z5], [.inl (256 * (sm_I M b_19 ((8 * x1) + 3).toNatClampNeg)), .inl (sm_I M b_15 ((8 * x1) + 2).toNatClampNeg)], M)) sm_a189_84 rfl rfl rfl ?_
    refine ru_go (t := (86, [some (.inr (some a0)), some (.inl x1), some (.inl x2), some (.inl ((256 * (sm_I M b_7 (8 * x1).toNatClampNeg)) + (sm_I M b_11 ((8 * x1) + 1).toNatClampNeg))), z4, z5], [.inl ((sm_I M b_15 ((8 * x1) + 2).toNatClampNeg) + (256 * (sm_I M b_19 ((8 * x1) + 3).toNatClampNeg)))], M)) sm_a189_85 rfl rfl rfl ?_
    refine ru_go (t := (88, [some (.inr (some a0)), some (.inl x1), some (.inl x2), some (.inl ((256 * (sm_I M b_7 (8 * x1).toNatClampNeg)) + (sm_I M b_11 ((8 * x1) + 1).toNatClampNeg))), some (.inl ((sm_I M b_15 ((8 * x1) + 2).toNatClampNeg) + (256 * (sm_I M b_19 ((8 * x1) + 3).toNatClampNeg)))), z5], [], M)) sm_a189_86 rfl rfl rfl ?_
    refine ru_go (t := (89, [some (.inr (some a0)), some (.inl x1), some (.inl x2), some (.inl ((256 * (sm_I M b_7 (8 * x1).toNatClampNeg)) + (sm_I M b_11 ((8 * x1) + 1).toNatClampNeg))), some (.inl ((sm_I M b_15 ((8 * x1) + 2).toNatClampNeg) + (256 * (sm_I M b_19 ((8 * x1) + 3).toNatClampNeg)))), z5], [.inl ((256 * (sm_I M b_7 (8 * x1).toNatClampNeg)) + (sm_I M b_11 ((8 * x1) + 1).toNatClampNeg))], M)) sm_a189_88 rfl rfl rfl ?_
    refine ru_go (t := (92, [some (.inr (some a0)), some (.inl x1), some (.inl x2), some (.inl ((256 * (sm_I M b_7 (8 * x1).toNatClampNeg)) + (sm_I M b_11 ((8 * x1) + 1).toNatClampNeg))), some (.inl ((sm_I M b_15 ((8 * x1) + 2).toNatClampNeg) + (256 * (sm_I M b_19 ((8 * x1) + 3).toNatClampNeg)))), z5], [.inl 513, .inl ((256 * (sm_I M b_7 (8 * x1).toNatClampNeg)) + (sm_I M b_11 ((8 * x1) + 1).toNatClampNeg))], M)) sm_a189_89 rfl rfl (st_sipush (by decide)) ?_
    refine ru_icmp (pc := 92) (p := 143) (p2 := 95) sm_a189_92 (by decide) rfl ⟨fun hc_23 => ?_, fun hc_23 => ?_⟩
    · have h := h.1 hc_23
      exact h
    · have h := h.2 hc_23
      refine ru_go (t := (97, [some (.inr (some a0)), some (.inl x1), some (.inl x2), some (.inl ((256 * (sm_I M b_7 (8 * x1).toNatClampNeg)) + (sm_I M b_11 ((8 * x1) + 1).toNatClampNeg))), some (.inl ((sm_I M b_15 ((8 * x1) + 2).toNatClampNeg) + (256 * (sm_I M b_19 ((8 * x1) + 3).toNatClampNeg)))), z5], [.inl ((sm_I M b_15 ((8 * x1) + 2).toNatClampNeg) + (256 * (sm_I M b_19 ((8 * x1) + 3).toNatClampNeg)))], M)) sm_a189_95 rfl rfl rfl ?_
      refine ru_if (pc := 97) (p := 143) (p2 := 100) sm_a189_97 (by decide) rfl ⟨fun hc_24 => ?_, fun hc_24 => ?_⟩
      · have h := h.1 hc_24
        exact h
      · have h := h.2 hc_24
        refine ru_go (t := (101, [some (.inr (some a0)), some (.inl x1), some (.inl x2), some (.inl ((256 * (sm_I M b_7 (8 * x1).toNatClampNeg)) + (sm_I M b_11 ((8 * x1) + 1).toNatClampNeg))), some (.inl ((sm_I M b_15 ((8 * x1) + 2).toNatClampNeg) + (256 * (sm_I M b_19 ((8 * x1) + 3).toNatClampNeg)))), z5], [.inr (some a0)], M)) sm_a189_100 rfl rfl rfl ?_
        refine ru_go (t := (102, [some (.inr (some a0)), some (.inl x1), some (.inl x2), some (.inl ((256 * (sm_I M b_7 (8 * x1).toNatClampNeg)) + (sm_I M b_11 ((8 * x1) + 1).toNatClampNeg))), some (.inl ((sm_I M b_15 ((8 * x1) + 2).toNatClampNeg) + (256 * (sm_I M b_19 ((8 * x1) + 3).toNatClampNeg)))), z5], [.inl x2, .inr (some a0)], M)) sm_a189_101 rfl rfl rfl ?_
        refine ru_go (t := (103, [some (.inr (some a0)), some (.inl x1), some (.inl x2), some (.inl ((256 * (sm_I M b_7 (8 * x1).toNatClampNeg)) + (sm_I M b_11 ((8 * x1) + 1).toNatClampNeg))), some (.inl ((sm_I M b_15 ((8 * x1) + 2).toNatClampNeg) + (256 * (sm_I M b_19 ((8 * x1) + 3).toNatClampNeg)))), z5], [.inr (some a0), .inl x2, .inr (some a0)], M)) sm_a189_102 rfl rfl rfl ?_
        refine ru_go (t := (106, [some (.inr (some a0)), some (.inl x1), some (.inl x2), some (.inl ((256 * (sm_I M b_7 (8 * x1).toNatClampNeg)) + (sm_I M b_11 ((8 * x1) + 1).toNatClampNeg))), some (.inl ((sm_I M b_15 ((8 * x1) + 2).toNatClampNeg) + (256 * (sm_I M b_19 ((8 * x1) + 3).toNatClampNeg)))), z5], [.inr (sm_R M a0 80), .inl x2, .inr (some a0)], M)) sm_a189_103 rfl rfl (st_getR h_1 rfl rfl) ?_
        refine ru_go (t := (108, [some (.inr (some a0)), some (.inl x1), some (.inl x2), some (.inl ((256 * (sm_I M b_7 (8 * x1).toNatClampNeg)) + (sm_I M b_11 ((8 * x1) + 1).toNatClampNeg))), some (.inl ((sm_I M b_15 ((8 * x1) + 2).toNatClampNeg) + (256 * (sm_I M b_19 ((8 * x1) + 3).toNatClampNeg)))), z5], [.inl 8, .inr (sm_R M a0 80), .inl x2, .inr (some a0)], M)) sm_a189_106 rfl rfl (st_bipush (by decide)) ?_
        refine ru_go (t := (109, [some (.inr (some a0)), some (.inl x1), some (.inl x2), some (.inl ((256 * (sm_I M b_7 (8 * x1).toNatClampNeg)) + (sm_I M b_11 ((8 * x1) + 1).toNatClampNeg))), some (.inl ((sm_I M b_15 ((8 * x1) + 2).toNatClampNeg) + (256 * (sm_I M b_19 ((8 * x1) + 3).toNatClampNeg)))), z5], [.inl x1, .inl 8, .inr (sm_R M a0 80), .inl x2, .inr (some a0)], M)) sm_a189_108 rfl rfl rfl ?_
        refine ru_go (t := (110, [some (.inr (some a0)), some (.inl x1), some (.inl x2), some (.inl ((256 * (sm_I M b_7 (8 * x1).toNatClampNeg)) + (sm_I M b_11 ((8 * x1) + 1).toNatClampNeg))), some (.inl ((sm_I M b_15 ((8 * x1) + 2).toNatClampNeg) + (256 * (sm_I M b_19 ((8 * x1) + 3).toNatClampNeg)))), z5], [.inl (8 * x1), .inr (sm_R M a0 80), .inl x2, .inr (some a0)], M)) sm_a189_109 rfl rfl rfl ?_
        refine ru_go (t := (111, [some (.inr (some a0)), some (.inl x1), some (.inl x2), some (.inl ((256 * (sm_I M b_7 (8 * x1).toNatClampNeg)) + (sm_I M b_11 ((8 * x1) + 1).toNatClampNeg))), some (.inl ((sm_I M b_15 ((8 * x1) + 2).toNatClampNeg) + (256 * (sm_I M b_19 ((8 * x1) + 3).toNatClampNeg)))), z5], [.inl 4, .inl (8 * x1), .inr (sm_R M a0 80), .inl x2, .inr (some a0)], M)) sm_a189_110 rfl rfl (st_iconst (by decide)) ?_
        refine ru_go (t := (112, [some (.inr (some a0)), some (.inl x1), some (.inl x2), some (.inl ((256 * (sm_I M b_7 (8 * x1).toNatClampNeg)) + (sm_I M b_11 ((8 * x1) + 1).toNatClampNeg))), some (.inl ((sm_I M b_15 ((8 * x1) + 2).toNatClampNeg) + (256 * (sm_I M b_19 ((8 * x1) + 3).toNatClampNeg)))), z5], [.inl ((8 * x1) + 4), .inr (sm_R M a0 80), .inl x2, .inr (some a0)], M)) sm_a189_111 rfl rfl rfl ?_
        obtain ⟨b_25, hb_26, h⟩ := h
        rw [hb_26]
        obtain ⟨h_27, h⟩ := h
        obtain ⟨h_28, h⟩ := h
        refine ru_go (t := (113, [some (.inr (some a0)), some (.inl x1), some (.inl x2), some (.inl ((256 * (sm_I M b_7 (8 * x1).toNatClampNeg)) + (sm_I M b_11 ((8 * x1) + 1).toNatClampNeg))), some (.inl ((sm_I M b_15 ((8 * x1) + 2).toNatClampNeg) + (256 * (sm_I M b_19 ((8 * x1) + 3).toNatClampNeg)))), z5], [.inl (sm_I M b_25 ((8 * x1) + 4).toNatClampNeg), .inl x2, .inr (some a0)], M)) sm_a189_112 rfl rfl (st_iald h_27 h_28) ?_
        exact ru_call (p := 116) sm_a189_113 rfl (sc_virt (Or.inl rfl) rfl rfl h_1 (Nat.le_of_ble_eq_true rfl)) rfl h
  · have h := h.2 hc_6
    exact ru_ret sm_a189_32 (sm_rvv rfl) h
theorem bb_189_116 {d : Nat} {M : sm_M} {Q : Option sm_V → sm_M → Prop} {a0 : Nat} {x1 : Int32} {x2 : Int32} {x3 : Int32} {x4 : Int32} {z5 : Option sm_V} {y0 : Int32}
    (h : ((y0 = (-1) → Q none M) ∧ (¬ (y0 = (-1)) → sm_K M a0 = 39 ∧ ∃ b_3, sm_R M a0 67 = some b_3 ∧ sm_wZ 1 M b_3 ∧ sm_in_ M b_3 y0 ∧ ∃ b_7, sm_R (sm_putI M b_3 (y0).toNatClampNeg 1) a0 66 = some b_7 ∧ sm_wA 1 M b_7 ∧ sm_in_ M b_7 y0 ∧ Q none (sm_putI (sm_putI M b_3 (y0).toNatClampNeg 1) b_7 (y0).toNatClampNeg 0)))) :
    sm_Run (d + 1) 189 116 [some (.inr (some a0)), some (.inl x1), some (.inl x2), some (.inl x3), some (.inl x4), z5] [.inl y0] M Q := by
  refine ru_go (t := (118, [some (.inr (some a0)), some (.inl x1), some (.inl x2), some (.inl x3), some (.inl x4), some (.inl y0)], [], M)) sm_a189_116 rfl rfl rfl ?_
  refine ru_go (t := (120, [some (.inr (some a0)), some (.inl x1), some (.inl x2), some (.inl x3), some (.inl x4), some (.inl y0)], [.inl y0], M)) sm_a189_118 rfl rfl rfl ?_
  refine ru_go (t := (121, [some (.inr (some a0)), some (.inl x1), some (.inl x2), some (.inl x3), some (.inl x4), some (.inl y0)], [.inl (-1), .inl y0], M)) sm_a189_120 rfl rfl (st_iconst (by decide)) ?_
  refine ru_icmp (pc := 121) (p := 140) (p2 := 124) sm_a189_121 (by decide) rfl ⟨fun hc_1 => ?_, fun hc_1 => ?_⟩
  · have h := h.1 hc_1
    refine ru_go (t := (199, [some (.inr (some a0)), some (.inl x1), some (.inl x2), some (.inl x3), some (.inl x4), some (.inl y0)], [], M)) sm_a189_140 rfl rfl (st_goto (pc := 140) (by decide)) ?_
    exact ru_ret sm_a189_199 (sm_rvv rfl) h
  · have h := h.2 hc_1
    refine ru_go (t := (125, [some (.inr (some a0)), some (.inl x1), some (.inl x2), some (.inl x3), some (.inl x4), some (.inl y0)], [.inr (some a0)], M)) sm_a189_124 rfl rfl rfl ?_
    obtain ⟨h_2, h⟩ := h
    refine ru_go (t := (128, [some (.inr (some a0)), some (.inl x1), some (.inl x2), some (.inl x3), some (.inl x4), some (.inl y0)], [.inr (sm_R M a0 67)], M)) sm_a189_125 rfl rfl (st_getR h_2 rfl rfl) ?_
    refine ru_go (t := (130, [some (.inr (some a0)), some (.inl x1), some (.inl x2), some (.inl x3), some (.inl x4), some (.inl y0)], [.inl y0, .inr (sm_R M a0 67)], M)) sm_a189_128 rfl rfl rfl ?_
    refine ru_go (t := (131, [some (.inr (some a0)), some (.inl x1), some (.inl x2), some (.inl x3), some (.inl x4), some (.inl y0)], [.inl 1, .inl y0, .inr (sm_R M a0 67)], M)) sm_a189_130 rfl rfl (st_iconst (by decide)) ?_
    obtain ⟨b_3, hb_4, h⟩ := h
    rw [hb_4]
    obtain ⟨h_5, h⟩ := h
    obtain ⟨h_6, h⟩ := h
    refine ru_go (t := (132, [some (.inr (some a0)), some (.inl x1), some (.inl x2), some (.inl x3), some (.inl x4), some (.inl y0)], [], sm_putI M b_3 (y0).toNatClampNeg 1)) sm_a189_131 rfl rfl (st_zast h_5 h_6 (by decide)) ?_
    refine ru_go (t := (133, [some (.inr (some a0)), some (.inl x1), some (.inl x2), some (.inl x3), some (.inl x4), some (.inl y0)], [.inr (some a0)], sm_putI M b_3 (y0).toNatClampNeg 1)) sm_a189_132 rfl rfl rfl ?_
    refine ru_go (t := (136, [some (.inr (some a0)), some (.inl x1), some (.inl x2), some (.inl x3), some (.inl x4), some (.inl y0)], [.inr (sm_R (sm_putI M b_3 (y0).toNatClampNeg 1) a0 66)], sm_putI M b_3 (y0).toNatClampNeg 1)) sm_a189_133 rfl rfl (st_getR h_2 rfl rfl) ?_
    refine ru_go (t := (138, [some (.inr (some a0)), some (.inl x1), some (.inl x2), some (.inl x3), some (.inl x4), some (.inl y0)], [.inl y0, .inr (sm_R (sm_putI M b_3 (y0).toNatClampNeg 1) a0 66)], sm_putI M b_3 (y0).toNatClampNeg 1)) sm_a189_136 rfl rfl rfl ?_
    refine ru_go (t := (139, [some (.inr (some a0)), some (.inl x1), some (.inl x2), some (.inl x3), some (.inl x4), some (.inl y0)], [.inl 0, .inl y0, .inr (sm_R (sm_putI M b_3 (y0).toNatClampNeg 1) a0 66)], sm_putI M b_3 (y0).toNatClampNeg 1)) sm_a189_138 rfl rfl (st_iconst (by decide)) ?_
    obtain ⟨b_7, hb_8, h⟩ := h
    rw [hb_8]
    obtain ⟨h_9, h⟩ := h
    obtain ⟨h_10, h⟩ := h
    refine ru_go (t := (140, [some (.inr (some a0)), some (.inl x1), some (.inl x2), some (.inl x3), some (.inl x4), some (.inl y0)], [], sm_putI (sm_putI M b_3 (y0).toNatClampNeg 1) b_7 (y0).toNatClampNeg 0)) sm_a189_139 rfl rfl (st_iast h_9 h_10) ?_
    refine ru_go (t := (199, [some (.inr (some a0)), some (.inl x1), some (.inl x2), some (.inl x3), some (.inl x4), some (.inl y0)], [], sm_putI (sm_putI M b_3 (y0).toNatClampNeg 1) b_7 (y0).toNatClampNeg 0)) sm_a189_140 rfl rfl (st_goto (pc := 140) (by decide)) ?_
    exact ru_ret sm_a189_199 (sm_rvv rfl) h
theorem bb_189_143 {d : Nat} {M : sm_M} {Q : Option sm_V → sm_M → Prop} {a0 : Nat} {x1 : Int32} {x2 : Int32} {x3 : Int32} {x4 : Int32} {z5 : Option sm_V}
    (h : ((¬ x3 = 9 → Q none M) ∧ (¬ (¬ x3 = 9) → ((¬ x4 = 1 → Q none M) ∧ (¬ (¬ x4 = 1) → sm_Run (d + 1) 189 161 [some (.inr (some a0)), some (.inl x1), some (.inl x2), some (.inl x3), some (.inl x4), some (.inl (10 * x2))] [] M Q))))) :
    sm_Run (d + 1) 189 143 [some (.inr (some a0)), some (.inl x1), some (.inl x2), some (.inl x3), some (.inl x4), z5] [] M Q := by
  refine ru_go (t := (144, [some (.inr (some a0)), some (.inl x1), some (.inl x2), some (.inl x3), some (.inl x4), z5], [.inl x3], M)) sm_a189_143 rfl rfl rfl ?_
  refine ru_go (t := (146, [some (.inr (some a0)), some (.inl x1), some (.inl x2), some (.inl x3), some (.inl x4), z5], [.inl 9, .inl x3], M)) sm_a189_144 rfl rfl (st_bipush (by decide)) ?_
  refine ru_icmp (pc := 146) (p := 199) (p2 := 149) sm_a189_146 (by decide) rfl ⟨fun hc_1 => ?_, fun hc_1 => ?_⟩
  · have h := h.1 hc_1
    exact ru_ret sm_a189_199 (sm_rvv rfl) h
  · have h := h.2 hc_1
    refine ru_go (t := (151, [some (.inr (some a0)), some (.inl x1), some (.inl x2), some (.inl x3), some (.inl x4), z5], [.inl x4], M)) sm_a189_149 rfl rfl rfl ?_
    refine ru_go (t := (152, [some (.inr (some a0)), some (.inl x1), some (.inl x2), some (.inl x3), some (.inl x4), z5], [.inl 1, .inl x4], M)) sm_a189_151 rfl rfl (st_iconst (by decide)) ?_
    refine ru_icmp (pc := 152) (p := 199) (p2 := 155) sm_a189_152 (by decide) rfl ⟨fun hc_2 => ?_, fun hc_2 => ?_⟩
    · have h := h.1 hc_2
      exact ru_ret sm_a189_199 (sm_rvv rfl) h
    · have h := h.2 hc_2
      refine ru_go (t := (157, [some (.inr (some a0)), some (.inl x1), some (.inl x2), some (.inl x3), some (.inl x4), z5], [.inl 10], M)) sm_a189_155 rfl rfl (st_bipush (by decide)) ?_
      refine ru_go (t := (158, [some (.inr (some a0)), some (.inl x1), some (.inl x2), some (.inl x3), some (.inl x4), z5], [.inl x2, .inl 10], M)) sm_a189_157 rfl rfl rfl ?_
      refine ru_go (t := (159, [some (.inr (some a0)), some (.inl x1), some (.inl x2), some (.inl x3), some (.inl x4), z5], [.inl (10 * x2)], M)) sm_a189_158 rfl rfl rfl ?_
      refine ru_go (t := (161, [some (.inr (some a0)), some (.inl x1), some (.inl x2), some (.inl x3), some (.inl x4), some (.inl (10 * x2))], [], M)) sm_a189_159 rfl rfl rfl ?_
      exact h
theorem bb_189_161 {d : Nat} {M : sm_M} {Q : Option sm_V → sm_M → Prop} {a0 : Nat} {x1 : Int32} {x2 : Int32} {x3 : Int32} {x4 : Int32} {x5 : Int32}
    (h : sm_K M a0 = 39 ∧ ∃ b_2, sm_R M a0 61 = some b_2 ∧ sm_iA M b_2 ∧ sm_in_ M b_2 x2 ∧ ((((10 * x2) + (sm_I M b_2 (x2).toNatClampNeg)) ≤ x5 → Q none M) ∧ (¬ (((10 * x2) + (sm_I M b_2 (x2).toNatClampNeg)) ≤ x5) → ∃ b_7, sm_R M a0 67 = some b_7 ∧ sm_wZ 1 M b_7 ∧ sm_in_ M b_7 x5 ∧ ∃ b_11, sm_R (sm_putI M b_7 (x5).toNatClampNeg 1) a0 66 = some b_11 ∧ sm_wA 1 M b_11 ∧ sm_in_ M b_11 x5 ∧ sm_Run (d + 1) 189 161 [some (.inr (some a0)), some (.inl x1), some (.inl x2), some (.inl x3), some (.inl x4), some (.inl (x5 + 1))] [] (sm_putI (sm_putI M b_7 (x5).toNatClampNeg 1) b_11 (x5).toNatClampNeg 0) Q))) :
    sm_Run (d + 1) 189 161 [some (.inr (some a0)), some (.inl x1), some (.inl x2), some (.inl x3), some (.inl x4), some (.inl x5)] [] M Q := by
  refine ru_go (t := (163, [some (.inr (some a0)), some (.inl x1), some (.inl x2), some (.inl x3), some (.inl x4), some (.inl x5)], [.inl x5], M)) sm_a189_161 rfl rfl rfl ?_
  refine ru_go (t := (165, [some (.inr (some a0)), some (.inl x1), some (.inl x2), some (.inl x3), some (.inl x4), some (.inl x5)], [.inl 10, .inl x5], M)) sm_a189_163 rfl rfl (st_bipush (by decide)) ?_
  refine ru_go (t := (166, [some (.inr (some a0)), some (.inl x1), some (.inl x2), some (.inl x3), some (.inl x4), some (.inl x5)], [.inl x2, .inl 10, .inl x5], M)) sm_a189_165 rfl rfl rfl ?_
  refine ru_go (t := (167, [some (.inr (some a0)), some (.inl x1), some (.inl x2), some (.inl x3), some (.inl x4), some (.inl x5)], [.inl (10 * x2), .inl x5], M)) sm_a189_166 rfl rfl rfl ?_
  refine ru_go (t := (168, [some (.inr (some a0)), some (.inl x1), some (.inl x2), some (.inl x3), some (.inl x4), some (.inl x5)], [.inr (some a0), .inl (10 * x2), .inl x5], M)) sm_a189_167 rfl rfl rfl ?_
  obtain ⟨h_1, h⟩ := h
  refine ru_go (t := (171, [some (.inr (some a0)), some (.inl x1), some (.inl x2), some (.inl x3), some (.inl x4), some (.inl x5)], [.inr (sm_R M a0 61), .inl (10 * x2), .inl x5], M)) sm_a189_168 rfl rfl (st_getR h_1 rfl rfl) ?_
  refine ru_go (t := (172, [some (.inr (some a0)), some (.inl x1), some (.inl x2), some (.inl x3), some (.inl x4), some (.inl x5)], [.inl x2, .inr (sm_R M a0 61), .inl (10 * x2), .inl x5], M)) sm_a189_171 rfl rfl rfl ?_
  obtain ⟨b_2, hb_3, h⟩ := h
  rw [hb_3]
  obtain ⟨h_4, h⟩ := h
  obtain ⟨h_5, h⟩ := h
  refine ru_go (t := (173, [some (.inr (some a0)), some (.inl x1), some (.inl x2), some (.inl x3), some (.inl x4), some (.inl x5)], [.inl (sm_I M b_2 (x2).toNatClampNeg), .inl (10 * x2), .inl x5], M)) sm_a189_172 rfl rfl (st_iald h_4 h_5) ?_
  refine ru_go (t := (174, [some (.inr (some a0)), some (.inl x1), some (.inl x2), some (.inl x3), some (.inl x4), some (.inl x5)], [.inl ((10 * x2) + (sm_I M b_2 (x2).toNatClampNeg)), .inl x5], M)) sm_a189_173 rfl rfl rfl ?_
  refine ru_icmp (pc := 174) (p := 199) (p2 := 177) sm_a189_174 (by decide) rfl ⟨fun hc_6 => ?_, fun hc_6 => ?_⟩
  · have h := h.1 hc_6
    exact ru_ret sm_a189_199 (sm_rvv rfl) h
  · have h := h.2 hc_6
    refine ru_go (t := (178, [some (.inr (some a0)), some (.inl x1), some (.inl x2), some (.inl x3), some (.inl x4), some (.inl x5)], [.inr (some a0)], M)) sm_a189_177 rfl rfl rfl ?_
    refine ru_go (t := (181, [some (.inr (some a0)), some (.inl x1), some (.inl x2), some (.inl x3), some (.inl x4), some (.inl x5)], [.inr (sm_R M a0 67)], M)) sm_a189_178 rfl rfl (st_getR h_1 rfl rfl) ?_
    refine ru_go (t := (183, [some (.inr (some a0)), some (.inl x1), some (.inl x2), some (.inl x3), some (.inl x4), some (.inl x5)], [.inl x5, .inr (sm_R M a0 67)], M)) sm_a189_181 rfl rfl rfl ?_
    refine ru_go (t := (184, [some (.inr (some a0)), some (.inl x1), some (.inl x2), some (.inl x3), some (.inl x4), some (.inl x5)], [.inl 1, .inl x5, .inr (sm_R M a0 67)], M)) sm_a189_183 rfl rfl (st_iconst (by decide)) ?_
    obtain ⟨b_7, hb_8, h⟩ := h
    rw [hb_8]
    obtain ⟨h_9, h⟩ := h
    obtain ⟨h_10, h⟩ := h
    refine ru_go (t := (185, [some (.inr (some a0)), some (.inl x1), some (.inl x2), some (.inl x3), some (.inl x4), some (.inl x5)], [], sm_putI M b_7 (x5).toNatClampNeg 1)) sm_a189_184 rfl rfl (st_zast h_9 h_10 (by decide)) ?_
    refine ru_go (t := (186, [some (.inr (some a0)), some (.inl x1), some (.inl x2), some (.inl x3), some (.inl x4), some (.inl x5)], [.inr (some a0)], sm_putI M b_7 (x5).toNatClampNeg 1)) sm_a189_185 rfl rfl rfl ?_
    refine ru_go (t := (189, [some (.inr (some a0)), some (.inl x1), some (.inl x2), some (.inl x3), some (.inl x4), some (.inl x5)], [.inr (sm_R (sm_putI M b_7 (x5).toNatClampNeg 1) a0 66)], sm_putI M b_7 (x5).toNatClampNeg 1)) sm_a189_186 rfl rfl (st_getR h_1 rfl rfl) ?_
    refine ru_go (t := (191, [some (.inr (some a0)), some (.inl x1), some (.inl x2), some (.inl x3), some (.inl x4), some (.inl x5)], [.inl x5, .inr (sm_R (sm_putI M b_7 (x5).toNatClampNeg 1) a0 66)], sm_putI M b_7 (x5).toNatClampNeg 1)) sm_a189_189 rfl rfl rfl ?_
    refine ru_go (t := (192, [some (.inr (some a0)), some (.inl x1), some (.inl x2), some (.inl x3), some (.inl x4), some (.inl x5)], [.inl 0, .inl x5, .inr (sm_R (sm_putI M b_7 (x5).toNatClampNeg 1) a0 66)], sm_putI M b_7 (x5).toNatClampNeg 1)) sm_a189_191 rfl rfl (st_iconst (by decide)) ?_
    obtain ⟨b_11, hb_12, h⟩ := h
    rw [hb_12]
    obtain ⟨h_13, h⟩ := h
    obtain ⟨h_14, h⟩ := h
    refine ru_go (t := (193, [some (.inr (some a0)), some (.inl x1), some (.inl x2), some (.inl x3), some (.inl x4), some (.inl x5)], [], sm_putI (sm_putI M b_7 (x5).toNatClampNeg 1) b_11 (x5).toNatClampNeg 0)) sm_a189_192 rfl rfl (st_iast h_13 h_14) ?_
    refine ru_go (t := (196, [some (.inr (some a0)), some (.inl x1), some (.inl x2), some (.inl x3), some (.inl x4), some (.inl (x5 + 1))], [], sm_putI (sm_putI M b_7 (x5).toNatClampNeg 1) b_11 (x5).toNatClampNeg 0)) sm_a189_193 rfl rfl (st_iinc rfl (by decide)) ?_
    refine ru_go (t := (161, [some (.inr (some a0)), some (.inl x1), some (.inl x2), some (.inl x3), some (.inl x4), some (.inl (x5 + 1))], [], sm_putI (sm_putI M b_7 (x5).toNatClampNeg 1) b_11 (x5).toNatClampNeg 0)) sm_a189_196 rfl rfl (st_goto (pc := 196) (by decide)) ?_
    exact h
