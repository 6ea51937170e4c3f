/-! WireBus$Pipe.<init>:(IZII)V -/
theorem sm_a118_0 : sm_at 118 0 = some (.aload_n 0, 1, (0, 0, 0, 0)) := by decide +kernel
theorem sm_a118_1 : sm_at 118 1 = some (.invokespecial 3, 3, (1, 0, 0, 355)) := by decide +kernel
theorem sm_a118_4 : sm_at 118 4 = some (.aload_n 0, 1, (0, 0, 0, 0)) := by decide +kernel
theorem sm_a118_5 : sm_at 118 5 = some (.iconst 1, 1, (0, 0, 0, 0)) := by decide +kernel
theorem sm_a118_6 : sm_at 118 6 = some (.putfield 9, 3, (9, 4, 0, 365)) := by decide +kernel
theorem sm_a118_9 : sm_at 118 9 = some (.aload_n 0, 1, (0, 0, 0, 0)) := by decide +kernel
theorem sm_a118_10 : sm_at 118 10 = some (.iconst (-1), 1, (0, 0, 0, 0)) := by decide +kernel
theorem sm_a118_11 : sm_at 118 11 = some (.putfield 15, 3, (9, 6, 0, 371)) := by decide +kernel
theorem sm_a118_14 : sm_at 118 14 = some (.aload_n 0, 1, (0, 0, 0, 0)) := by decide +kernel
theorem sm_a118_15 : sm_at 118 15 = some (.iload_n 1, 1, (0, 0, 0, 0)) := by decide +kernel
theorem sm_a118_16 : sm_at 118 16 = some (.putfield 19, 3, (9, 0, 0, 356)) := by decide +kernel
theorem sm_a118_19 : sm_at 118 19 = some (.aload_n 0, 1, (0, 0, 0, 0)) := by decide +kernel
theorem sm_a118_20 : sm_at 118 20 = some (.iload_n 2, 1, (0, 0, 0, 0)) := by decide +kernel
theorem sm_a118_21 : sm_at 118 21 = some (.putfield 22, 3, (9, 1, 0, 360)) := by decide +kernel
theorem sm_a118_24 : sm_at 118 24 = some (.aload_n 0, 1, (0, 0, 0, 0)) := by decide +kernel
theorem sm_a118_25 : sm_at 118 25 = some (.iload_n 3, 1, (0, 0, 0, 0)) := by decide +kernel
theorem sm_a118_26 : sm_at 118 26 = some (.putfield 25, 3, (9, 2, 0, 362)) := by decide +kernel
theorem sm_a118_29 : sm_at 118 29 = some (.aload_n 0, 1, (0, 0, 0, 0)) := by decide +kernel
theorem sm_a118_30 : sm_at 118 30 = some (.iload 4, 2, (0, 0, 0, 0)) := by decide +kernel
theorem sm_a118_32 : sm_at 118 32 = some (.putfield 28, 3, (9, 3, 0, 364)) := by decide +kernel
theorem sm_a118_35 : sm_at 118 35 = some (.return_, 1, (0, 0, 0, 0)) := by decide +kernel
theorem bb_118_0 {d : Nat} {M : sm_M} {Q : Option sm_V → sm_M → Prop} {a0 : Nat} {x1 : Int32} {x2 : Int32} {x3 : Int32} {x4 : Int32}
    (h : sm_K M a0 = 30 ∧ sm_fit .boolean x2 = true ∧ Q none (sm_putI (sm_putI (sm_putI (sm_putI (sm_putI (sm_putI M a0 4 1) a0 6 (-1)) a0 0 x1) a0 1 x2) a0 2 x3) a0 3 x4)) :
    sm_Run (d + 1) 118 0 [some (.inr (some a0)), some (.inl x1), some (.inl x2), some (.inl x3), some (.inl x4)] [] M Q := by
  refine ru_go (t := (1, [some (.inr (some a0)), some (.inl x1), some (.inl x2), some (.inl x3), some (.inl x4)], [.inr (some a0)], M)) sm_a118_0 rfl rfl rfl ?_
  refine ru_go (t := (4, [some (.inr (some a0)), some (.inl x1), some (.inl x2), some (.inl x3), some (.inl x4)], [], M)) sm_a118_1 rfl rfl (st_oi (Nat.le_of_ble_eq_true rfl)) ?_
  refine ru_go (t := (5, [some (.inr (some a0)), some (.inl x1), some (.inl x2), some (.inl x3), some (.inl x4)], [.inr (some a0)], M)) sm_a118_4 rfl rfl rfl ?_
  refine ru_go (t := (6, [some (.inr (some a0)), some (.inl x1), some (.inl x2), some (.inl x3), some (.inl x4)], [.inl 1, .inr (some a0)], M)) sm_a118_5 rfl rfl (st_iconst (by decide)) ?_
  obtain ⟨h_1, h⟩ := h
  refine ru_go (t := (9, [some (.inr (some a0)), some (.inl x1), some (.inl x2), some (.inl x3), some (.inl x4)], [], sm_putI M a0 4 1)) sm_a118_6 rfl rfl (st_putI h_1 (by decide)) ?_
  refine ru_go (t := (10, [some (.inr (some a0)), some (.inl x1), some (.inl x2), some (.inl x3), some (.inl x4)], [.inr (some a0)], sm_putI M a0 4 1)) sm_a118_9 rfl rfl rfl ?_
  refine ru_go (t := (11, [some (.inr (some a0)), some (.inl x1), some (.inl x2), some (.inl x3), some (.inl x4)], [.inl (-1), .inr (some a0)], sm_putI M a0 4 1)) sm_a118_10 rfl rfl (st_iconst (by decide)) ?_
  refine ru_go (t := (14, [some (.inr (some a0)), some (.inl x1), some (.inl x2), some (.inl x3), some (.inl x4)], [], sm_putI (sm_putI M a0 4 1) a0 6 (-1))) sm_a118_11 rfl rfl (st_putI h_1 rfl) ?_
  refine ru_go (t := (15, [some (.inr (some a0)), some (.inl x1), some (.inl x2), some (.inl x3), some (.inl x4)], [.inr (some a0)], sm_putI (sm_putI M a0 4 1) a0 6 (-1))) sm_a118_14 rfl rfl rfl ?_
  refine ru_go (t := (16, [some (.inr (some a0)), some (.inl x1), some (.inl x2), some (.inl x3), some (.inl x4)], [.inl x1, .inr (some a0)], sm_putI (sm_putI M a0 4 1) a0 6 (-1))) sm_a118_15 rfl rfl rfl ?_
  refine ru_go (t := (19, [some (.inr (some a0)), some (.inl x1), some (.inl x2), some (.inl x3), some (.inl x4)], [], sm_putI (sm_putI (sm_putI M a0 4 1) a0 6 (-1)) a0 0 x1)) sm_a118_16 rfl rfl (st_putI h_1 rfl) ?_
  refine ru_go (t := (20, [some (.inr (some a0)), some (.inl x1), some (.inl x2), some (.inl x3), some (.inl x4)], [.inr (some a0)], sm_putI (sm_putI (sm_putI M a0 4 1) a0 6 (-1)) a0 0 x1)) sm_a118_19 rfl rfl rfl ?_
  refine ru_go (t := (21, [some (.inr (some a0)), some (.inl x1), some (.inl x2), some (.inl x3), some (.inl x4)], [.inl x2, .inr (some a0)], sm_putI (sm_putI (sm_putI M a0 4 1) a0 6 (-1)) a0 0 x1)) sm_a118_20 rfl rfl rfl ?_
  obtain ⟨h_2, h⟩ := h
  refine ru_go (t := (24, [some (.inr (some a0)), some (.inl x1), some (.inl x2), some (.inl x3), some (.inl x4)], [], sm_putI (sm_putI (sm_putI (sm_putI M a0 4 1) a0 6 (-1)) a0 0 x1) a0 1 x2)) sm_a118_21 rfl rfl (st_putI h_1 h_2) ?_
  refine ru_go (t := (25, [some (.inr (some a0)), some (.inl x1), some (.inl x2), some (.inl x3), some (.inl x4)], [.inr (some a0)], sm_putI (sm_putI (sm_putI (sm_putI M a0 4 1) a0 6 (-1)) a0 0 x1) a0 1 x2)) sm_a118_24 rfl rfl rfl ?_
  refine ru_go (t := (26, [some (.inr (some a0)), some (.inl x1), some (.inl x2), some (.inl x3), some (.inl x4)], [.inl x3, .inr (some a0)], sm_putI (sm_putI (sm_putI (sm_putI M a0 4 1) a0 6 (-1)) a0 0 x1) a0 1 x2)) sm_a118_25 rfl rfl rfl ?_
  refine ru_go (t := (29, [some (.inr (some a0)), some (.inl x1), some (.inl x2), some (.inl x3), some (.inl x4)], [], sm_putI (sm_putI (sm_putI (sm_putI (sm_putI M a0 4 1) a0 6 (-1)) a0 0 x1) a0 1 x2) a0 2 x3)) sm_a118_26 rfl rfl (st_putI h_1 rfl) ?_
  refine ru_go (t := (30, [some (.inr (some a0)), some (.inl x1), some (.inl x2), some (.inl x3), some (.inl x4)], [.inr (some a0)], sm_putI (sm_putI (sm_putI (sm_putI (sm_putI M a0 4 1) a0 6 (-1)) a0 0 x1) a0 1 x2) a0 2 x3)) sm_a118_29 rfl rfl rfl ?_
  refine ru_go (t := (32, [some (.inr (some a0)), some (.inl x1), some (.inl x2), some (.inl x3), some (.inl x4)], [.inl x4, .inr (some a0)], sm_putI (sm_putI (sm_putI (sm_putI (sm_putI M a0 4 1) a0 6 (-1)) a0 0 x1) a0 1 x2) a0 2 x3)) sm_a118_30 rfl rfl rfl ?_
  refine ru_go (t := (35, [some (.inr (some a0)), some (.inl x1), some (.inl x2), some (.inl x3), some (.inl x4)], [], sm_putI (sm_putI (sm_putI (sm_putI (sm_putI (sm_putI M a0 4 1) a0 6 (-1)) a0 0 x1) a0 1 x2) a0 2 x3) a0 3 x4)) sm_a118_32 rfl rfl (st_putI h_1 rfl) ?_
  exact ru_ret sm_a118_35 (sm_rvv rfl) h

/-! WireBus$Pipe.reopen:()V -/
theorem sm_a119_0 : sm_at 119 0 = some (.aload_n 0, 1, (0, 0, 0, 0)) := by decide +kernel
theorem sm_a119_1 : sm_at 119 1 = some (.iconst 1, 1, (0, 0, 0, 0)) := by decide +kernel
theorem sm_a119_2 : sm_at 119 2 = some (.putfield 9, 3, (9, 4, 0, 365)) := by decide +kernel
theorem sm_a119_5 : sm_at 119 5 = some (.aload_n 0, 1, (0, 0, 0, 0)) := by decide +kernel
theorem sm_a119_6 : sm_at 119 6 = some (.iconst 0, 1, (0, 0, 0, 0)) := by decide +kernel
theorem sm_a119_7 : sm_at 119 7 = some (.putfield 31, 3, (9, 5, 0, 368)) := by decide +kernel
theorem sm_a119_10 : sm_at 119 10 = some (.return_, 1, (0, 0, 0, 0)) := by decide +kernel
theorem bb_119_0 {d : Nat} {M : sm_M} {Q : Option sm_V → sm_M → Prop} {a0 : Nat}
    (h : sm_K M a0 = 30 ∧ Q none (sm_putI (sm_putI M a0 4 1) a0 5 0)) :
    sm_Run d 119 0 [some (.inr (some a0))] [] M Q := by
  refine ru_go (t := (1, [some (.inr (some a0))], [.inr (some a0)], M)) sm_a119_0 rfl rfl rfl ?_
  refine ru_go (t := (2, [some (.inr (some a0))], [.inl 1, .inr (some a0)], M)) sm_a119_1 rfl rfl (st_iconst (by decide)) ?_
  obtain ⟨h_1, h⟩ := h
  refine ru_go (t := (5, [some (.inr (some a0))], [], sm_putI M a0 4 1)) sm_a119_2 rfl rfl (st_putI h_1 (by decide)) ?_
  refine ru_go (t := (6, [some (.inr (some a0))], [.inr (some a0)], sm_putI M a0 4 1)) sm_a119_5 rfl rfl rfl ?_
  refine ru_go (t := (7, [some (.inr (some a0))], [.inl 0, .inr (some a0)], sm_putI M a0 4 1)) sm_a119_6 rfl rfl (st_iconst (by decide)) ?_
  refine ru_go (t := (10, [some (.inr (some a0))], [], sm_putI (sm_putI M a0 4 1) a0 5 0)) sm_a119_7 rfl rfl (st_putI h_1 rfl) ?_
  exact ru_ret sm_a119_10 (sm_rvv rfl) h

/-! WireBus$Pipe.isDueIn:(I)Z -/
theorem sm_a120_0 : sm_at 120 0 = some (.aload_n 0, 1, (0, 0, 0, 0)) := by decide +kernel
theorem sm_a120_1 : sm_at 120 1 = some (.getfield 22, 3, (9, 1, 0, 360)) := by decide +kernel
theorem sm_a120_4 : sm_at 120 4 = some (.ifCond .ne 30, 3, (0, 0, 0, 0)) := by decide +kernel
theorem sm_a120_7 : sm_at 120 7 = some (.aload_n 0, 1, (0, 0, 0, 0)) := by decide +kernel
theorem sm_a120_8 : sm_at 120 8 = some (.getfield 9, 3, (9, 4, 0, 365)) := by decide +kernel
theorem sm_a120_11 : sm_at 120 11 = some (.ifCond .eq 23, 3, (0, 0, 0, 0)) := by decide +kernel
theorem sm_a120_14 : sm_at 120 14 = some (.aload_n 0, 1, (0, 0, 0, 0)) := by decide +kernel
theorem sm_a120_15 : sm_at 120 15 = some (.getfield 28, 3, (9, 3, 0, 364)) := by decide +kernel
theorem sm_a120_18 : sm_at 120 18 = some (.ifCond .le 16, 3, (0, 0, 0, 0)) := by decide +kernel
theorem sm_a120_21 : sm_at 120 21 = some (.iload_n 1, 1, (0, 0, 0, 0)) := by decide +kernel
theorem sm_a120_22 : sm_at 120 22 = some (.aload_n 0, 1, (0, 0, 0, 0)) := by decide +kernel
theorem sm_a120_23 : sm_at 120 23 = some (.getfield 28, 3, (9, 3, 0, 364)) := by decide +kernel
theorem sm_a120_26 : sm_at 120 26 = some (.irem, 1, (0, 0, 0, 0)) := by decide +kernel
theorem sm_a120_27 : sm_at 120 27 = some (.ifCond .ne 7, 3, (0, 0, 0, 0)) := by decide +kernel
theorem sm_a120_30 : sm_at 120 30 = some (.iconst 1, 1, (0, 0, 0, 0)) := by decide +kernel
theorem sm_a120_31 : sm_at 120 31 = some (.goto 4, 3, (0, 0, 0, 0)) := by decide +kernel
theorem sm_a120_34 : sm_at 120 34 = some (.iconst 0, 1, (0, 0, 0, 0)) := by decide +kernel
theorem sm_a120_35 : sm_at 120 35 = some (.ireturn, 1, (0, 0, 0, 0)) := by decide +kernel
theorem bb_120_0 {d : Nat} {M : sm_M} {Q : Option sm_V → sm_M → Prop} {a0 : Nat} {x1 : Int32}
    (h : sm_K M a0 = 30 ∧ ((¬ (sm_I M a0 1) = 0 → Q (some (.inl 0)) M) ∧ (¬ (¬ (sm_I M a0 1) = 0) → (((sm_I M a0 4) = 0 → Q (some (.inl 0)) M) ∧ (¬ ((sm_I M a0 4) = 0) → (((sm_I M a0 3) ≤ 0 → Q (some (.inl 0)) M) ∧ (¬ ((sm_I M a0 3) ≤ 0) → ¬ (sm_I M a0 3) = 0 ∧ ((¬ (x1 - x1 / (sm_I M a0 3) * (sm_I M a0 3)) = 0 → Q (some (.inl 0)) M) ∧ (¬ (¬ (x1 - x1 / (sm_I M a0 3) * (sm_I M a0 3)) = 0) → Q (some (.inl 1)) M))))))))) :
    sm_Run d 120 0 [some (.inr (some a0)), some (.inl x1)] [] M Q := by
  refine ru_go (t := (1, [some (.inr (some a0)), some (.inl x1)], [.inr (some a0)], M)) sm_a120_0 rfl rfl rfl ?_
  obtain ⟨h_1, h⟩ := h
  refine ru_go (t := (4, [some (.inr (some a0)), some (.inl x1)], [.inl (sm_I M a0 1)], M)) sm_a120_1 rfl rfl (st_getI h_1 rfl) ?_
  refine ru_if (pc := 4) (p := 34) (p2 := 7) sm_a120_4 (by decide) rfl ⟨fun hc_2 => ?_, fun hc_2 => ?_⟩
  · have h := h.1 hc_2
    refine ru_go (t := (35, [some (.inr (some a0)), some (.inl x1)], [.inl 0], M)) sm_a120_34 rfl rfl (st_iconst (by decide)) ?_
    exact ru_ret sm_a120_35 (sm_rvz rfl (by decide)) h
  · have h := h.2 hc_2
    refine ru_go (t := (8, [some (.inr (some a0)), some (.inl x1)], [.inr (some a0)], M)) sm_a120_7 rfl rfl rfl ?_
    refine ru_go (t := (11, [some (.inr (some a0)), some (.inl x1)], [.inl (sm_I M a0 4)], M)) sm_a120_8 rfl rfl (st_getI h_1 rfl) ?_
    refine ru_if (pc := 11) (p := 34) (p2 := 14) sm_a120_11 (by decide) rfl ⟨fun hc_3 => ?_, fun hc_3 => ?_⟩
    · have h := h.1 hc_3
      refine ru_go (t := (35, [some (.inr (some a0)), some (.inl x1)], [.inl 0], M)) sm_a120_34 rfl rfl (st_iconst (by decide)) ?_
      exact ru_ret sm_a120_35 (sm_rvz rfl (by decide)) h
    · have h := h.2 hc_3
      refine ru_go (t := (15, [some (.inr (some a0)), some (.inl x1)], [.inr (some a0)], M)) sm_a120_14 rfl rfl rfl ?_
      refine ru_go (t := (18, [some (.inr (some a0)), some (.inl x1)], [.inl (sm_I M a0 3)], M)) sm_a120_15 rfl rfl (st_getI h_1 rfl) ?_
      refine ru_if (pc := 18) (p := 34) (p2 := 21) sm_a120_18 (by decide) rfl ⟨fun hc_4 => ?_, fun hc_4 => ?_⟩
      · have h := h.1 hc_4
        refine ru_go (t := (35, [some (.inr (some a0)), some (.inl x1)], [.inl 0], M)) sm_a120_34 rfl rfl (st_iconst (by decide)) ?_
        exact ru_ret sm_a120_35 (sm_rvz rfl (by decide)) h
      · have h := h.2 hc_4
        refine ru_go (t := (22, [some (.inr (some a0)), some (.inl x1)], [.inl x1], M)) sm_a120_21 rfl rfl rfl ?_
        refine ru_go (t := (23, [some (.inr (some a0)), some (.inl x1)], [.inr (some a0), .inl x1], M)) sm_a120_22 rfl rfl rfl ?_
        refine ru_go (t := (26, [some (.inr (some a0)), some (.inl x1)], [.inl (sm_I M a0 3), .inl x1], M)) sm_a120_23 rfl rfl (st_getI h_1 rfl) ?_
        obtain ⟨h_5, h⟩ := h
        refine ru_go (t := (27, [some (.inr (some a0)), some (.inl x1)], [.inl (x1 - x1 / (sm_I M a0 3) * (sm_I M a0 3))], M)) sm_a120_26 rfl rfl (st_rem h_5) ?_
        refine ru_if (pc := 27) (p := 34) (p2 := 30) sm_a120_27 (by decide) rfl ⟨fun hc_6 => ?_, fun hc_6 => ?_⟩
        · have h := h.1 hc_6
          refine ru_go (t := (35, [some (.inr (some a0)), some (.inl x1)], [.inl 0], M)) sm_a120_34 rfl rfl (st_iconst (by decide)) ?_
          exact ru_ret sm_a120_35 (sm_rvz rfl (by decide)) h
        · have h := h.2 hc_6
          refine ru_go (t := (31, [some (.inr (some a0)), some (.inl x1)], [.inl 1], M)) sm_a120_30 rfl rfl (st_iconst (by decide)) ?_
          refine ru_go (t := (35, [some (.inr (some a0)), some (.inl x1)], [.inl 1], M)) sm_a120_31 rfl rfl (st_goto (pc := 31) (by decide)) ?_
          exact ru_ret sm_a120_35 (sm_rvz rfl (by decide)) h
