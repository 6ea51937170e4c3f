/-! WireBus$Peer.<init>:()V -/
theorem sm_a111_0 : sm_at 111 0 = some (.aload_n 0, 1, (0, 0, 0, 0)) := by decide +kernel
theorem sm_a111_1 : sm_at 111 1 = some (.invokespecial 3, 3, (1, 0, 0, 395)) := by decide +kernel
theorem sm_a111_4 : sm_at 111 4 = some (.aload_n 0, 1, (0, 0, 0, 0)) := by decide +kernel
theorem sm_a111_5 : sm_at 111 5 = some (.iconst 0, 1, (0, 0, 0, 0)) := by decide +kernel
theorem sm_a111_6 : sm_at 111 6 = some (.putfield 9, 3, (8, 0, 0, 398)) := by decide +kernel
theorem sm_a111_9 : sm_at 111 9 = some (.aload_n 0, 1, (0, 0, 0, 0)) := by decide +kernel
theorem sm_a111_10 : sm_at 111 10 = some (.bipush 8, 2, (0, 0, 0, 0)) := by decide +kernel
theorem sm_a111_12 : sm_at 111 12 = some (.putfield 15, 3, (8, 2, 0, 403)) := by decide +kernel
theorem sm_a111_15 : sm_at 111 15 = some (.aload_n 0, 1, (0, 0, 0, 0)) := by decide +kernel
theorem sm_a111_16 : sm_at 111 16 = some (.bipush 6, 2, (0, 0, 0, 0)) := by decide +kernel
theorem sm_a111_18 : sm_at 111 18 = some (.anewarray 18, 3, (9, 0, 0, 396)) := by decide +kernel
theorem sm_a111_21 : sm_at 111 21 = some (.putfield 20, 3, (8, 3, 0, 406)) := by decide +kernel
theorem sm_a111_24 : sm_at 111 24 = some (.return_, 1, (0, 0, 0, 0)) := by decide +kernel
theorem bb_111_0 {d : Nat} {M : sm_M} {Q : Option sm_V → sm_M → Prop} {a0 : Nat}
    (h : sm_K M a0 = 27 ∧ sm_K (sm_new (sm_putI (sm_putI M a0 0 0) a0 2 8) 31 (6 : Int32).toNatClampNeg (6 : Int32).toNatClampNeg) a0 = 27 ∧ Q none (sm_putR (sm_new (sm_putI (sm_putI M a0 0 0) a0 2 8) 31 (6 : Int32).toNatClampNeg (6 : Int32).toNatClampNeg) a0 3 (some (sm_N (sm_putI (sm_putI M a0 0 0) a0 2 8))))) :
    sm_Run (d + 1) 111 0 [some (.inr (some a0))] [] M Q := by
  refine ru_go (t := (1, [some (.inr (some a0))], [.inr (some a0)], M)) sm_a111_0 rfl rfl rfl ?_
  refine ru_go (t := (4, [some (.inr (some a0))], [], M)) sm_a111_1 rfl rfl (st_oi (Nat.le_of_ble_eq_true rfl)) ?_
  refine ru_go (t := (5, [some (.inr (some a0))], [.inr (some a0)], M)) sm_a111_4 rfl rfl rfl ?_
  refine ru_go (t := (6, [some (.inr (some a0))], [.inl 0, .inr (some a0)], M)) sm_a111_5 rfl rfl (st_iconst (by decide)) ?_
  obtain ⟨h_1, h⟩ := h
  refine ru_go (t := (9, [some (.inr (some a0))], [], sm_putI M a0 0 0)) sm_a111_6 rfl rfl (st_putI h_1 rfl) ?_
  refine ru_go (t := (10, [some (.inr (some a0))], [.inr (some a0)], sm_putI M a0 0 0)) sm_a111_9 rfl rfl rfl ?_
  refine ru_go (t := (12, [some (.inr (some a0))], [.inl 8, .inr (some a0)], sm_putI M a0 0 0)) sm_a111_10 rfl rfl (st_bipush (by decide)) ?_
  refine ru_go (t := (15, [some (.inr (some a0))], [], sm_putI (sm_putI M a0 0 0) a0 2 8)) sm_a111_12 rfl rfl (st_putI h_1 rfl) ?_
  refine ru_go (t := (16, [some (.inr (some a0))], [.inr (some a0)], sm_putI (sm_putI M a0 0 0) a0 2 8)) sm_a111_15 rfl rfl rfl ?_
  refine ru_go (t := (18, [some (.inr (some a0))], [.inl 6, .inr (some a0)], sm_putI (sm_putI M a0 0 0) a0 2 8)) sm_a111_16 rfl rfl (st_bipush (by decide)) ?_
  refine ru_go (t := (21, [some (.inr (some a0))], [.inr (some (sm_N (sm_putI (sm_putI M a0 0 0) a0 2 8))), .inr (some a0)], sm_new (sm_putI (sm_putI M a0 0 0) a0 2 8) 31 (6 : Int32).toNatClampNeg (6 : Int32).toNatClampNeg)) sm_a111_18 rfl rfl (st_newq (by decide)) ?_
  obtain ⟨h_2, h⟩ := h
  refine ru_go (t := (24, [some (.inr (some a0))], [], sm_putR (sm_new (sm_putI (sm_putI M a0 0 0) a0 2 8) 31 (6 : Int32).toNatClampNeg (6 : Int32).toNatClampNeg) a0 3 (some (sm_N (sm_putI (sm_putI M a0 0 0) a0 2 8))))) sm_a111_21 rfl rfl (st_putR h_2 rfl) ?_
  exact ru_ret sm_a111_24 (sm_rvv rfl) h

/-! WireBus$Peer.restart:(I)V -/
theorem sm_a112_0 : sm_at 112 0 = some (.aload_n 0, 1, (0, 0, 0, 0)) := by decide +kernel
theorem sm_a112_1 : sm_at 112 1 = some (.iload_n 1, 1, (0, 0, 0, 0)) := by decide +kernel
theorem sm_a112_2 : sm_at 112 2 = some (.putfield 9, 3, (8, 0, 0, 398)) := by decide +kernel
theorem sm_a112_5 : sm_at 112 5 = some (.aload_n 0, 1, (0, 0, 0, 0)) := by decide +kernel
theorem sm_a112_6 : sm_at 112 6 = some (.iconst 0, 1, (0, 0, 0, 0)) := by decide +kernel
theorem sm_a112_7 : sm_at 112 7 = some (.putfield 24, 3, (8, 1, 0, 401)) := by decide +kernel
theorem sm_a112_10 : sm_at 112 10 = some (.aload_n 0, 1, (0, 0, 0, 0)) := by decide +kernel
theorem sm_a112_11 : sm_at 112 11 = some (.bipush 8, 2, (0, 0, 0, 0)) := by decide +kernel
theorem sm_a112_13 : sm_at 112 13 = some (.putfield 15, 3, (8, 2, 0, 403)) := by decide +kernel
theorem sm_a112_16 : sm_at 112 16 = some (.aload_n 0, 1, (0, 0, 0, 0)) := by decide +kernel
theorem sm_a112_17 : sm_at 112 17 = some (.iconst 0, 1, (0, 0, 0, 0)) := by decide +kernel
theorem sm_a112_18 : sm_at 112 18 = some (.putfield 28, 3, (8, 4, 0, 407)) := by decide +kernel
theorem sm_a112_21 : sm_at 112 21 = some (.aload_n 0, 1, (0, 0, 0, 0)) := by decide +kernel
theorem sm_a112_22 : sm_at 112 22 = some (.aconst_null, 1, (0, 0, 0, 0)) := by decide +kernel
theorem sm_a112_23 : sm_at 112 23 = some (.putfield 31, 3, (8, 5, 0, 409)) := by decide +kernel
theorem sm_a112_26 : sm_at 112 26 = some (.return_, 1, (0, 0, 0, 0)) := by decide +kernel
theorem bb_112_0 {d : Nat} {M : sm_M} {Q : Option sm_V → sm_M → Prop} {a0 : Nat} {x1 : Int32}
    (h : sm_K M a0 = 27 ∧ Q none (sm_putR (sm_putI (sm_putI (sm_putI (sm_putI M a0 0 x1) a0 1 0) a0 2 8) a0 4 0) a0 5 none)) :
    sm_Run d 112 0 [some (.inr (some a0)), some (.inl x1)] [] M Q := by
  refine ru_go (t := (1, [some (.inr (some a0)), some (.inl x1)], [.inr (some a0)], M)) sm_a112_0 rfl rfl rfl ?_
  refine ru_go (t := (2, [some (.inr (some a0)), some (.inl x1)], [.inl x1, .inr (some a0)], M)) sm_a112_1 rfl rfl rfl ?_
  obtain ⟨h_1, h⟩ := h
  refine ru_go (t := (5, [some (.inr (some a0)), some (.inl x1)], [], sm_putI M a0 0 x1)) sm_a112_2 rfl rfl (st_putI h_1 rfl) ?_
  refine ru_go (t := (6, [some (.inr (some a0)), some (.inl x1)], [.inr (some a0)], sm_putI M a0 0 x1)) sm_a112_5 rfl rfl rfl ?_
  refine ru_go (t := (7, [some (.inr (some a0)), some (.inl x1)], [.inl 0, .inr (some a0)], sm_putI M a0 0 x1)) sm_a112_6 rfl rfl (st_iconst (by decide)) ?_
  refine ru_go (t := (10, [some (.inr (some a0)), some (.inl x1)], [], sm_putI (sm_putI M a0 0 x1) a0 1 0)) sm_a112_7 rfl rfl (st_putI h_1 (by decide)) ?_
  refine ru_go (t := (11, [some (.inr (some a0)), some (.inl x1)], [.inr (some a0)], sm_putI (sm_putI M a0 0 x1) a0 1 0)) sm_a112_10 rfl rfl rfl ?_
  refine ru_go (t := (13, [some (.inr (some a0)), some (.inl x1)], [.inl 8, .inr (some a0)], sm_putI (sm_putI M a0 0 x1) a0 1 0)) sm_a112_11 rfl rfl (st_bipush (by decide)) ?_
  refine ru_go (t := (16, [some (.inr (some a0)), some (.inl x1)], [], sm_putI (sm_putI (sm_putI M a0 0 x1) a0 1 0) a0 2 8)) sm_a112_13 rfl rfl (st_putI h_1 rfl) ?_
  refine ru_go (t := (17, [some (.inr (some a0)), some (.inl x1)], [.inr (some a0)], sm_putI (sm_putI (sm_putI M a0 0 x1) a0 1 0) a0 2 8)) sm_a112_16 rfl rfl rfl ?_
  refine ru_go (t := (18, [some (.inr (some a0)), some (.inl x1)], [.inl 0, .inr (some a0)], sm_putI (sm_putI (sm_putI M a0 0 x1) a0 1 0) a0 2 8)) sm_a112_17 rfl rfl (st_iconst (by decide)) ?_
  refine ru_go (t := (21, [some (.inr (some a0)), some (.inl x1)], [], sm_putI (sm_putI (sm_putI (sm_putI M a0 0 x1) a0 1 0) a0 2 8) a0 4 0)) sm_a112_18 rfl rfl (st_putI h_1 rfl) ?_
  refine ru_go (t := (22, [some (.inr (some a0)), some (.inl x1)], [.inr (some a0)], sm_putI (sm_putI (sm_putI (sm_putI M a0 0 x1) a0 1 0) a0 2 8) a0 4 0)) sm_a112_21 rfl rfl rfl ?_
  refine ru_go (t := (23, [some (.inr (some a0)), some (.inl x1)], [.inr none, .inr (some a0)], sm_putI (sm_putI (sm_putI (sm_putI M a0 0 x1) a0 1 0) a0 2 8) a0 4 0)) sm_a112_22 rfl rfl rfl ?_
  refine ru_go (t := (26, [some (.inr (some a0)), some (.inl x1)], [], sm_putR (sm_putI (sm_putI (sm_putI (sm_putI M a0 0 x1) a0 1 0) a0 2 8) a0 4 0) a0 5 none)) sm_a112_23 rfl rfl (st_putR h_1 rfl) ?_
  exact ru_ret sm_a112_26 (sm_rvv rfl) h

/-! WireBus$Peer.takesControl:()Z -/
theorem sm_a113_0 : sm_at 113 0 = some (.aload_n 0, 1, (0, 0, 0, 0)) := by decide +kernel
theorem sm_a113_1 : sm_at 113 1 = some (.getfield 9, 3, (8, 0, 0, 398)) := by decide +kernel
theorem sm_a113_4 : sm_at 113 4 = some (.iconst 2, 1, (0, 0, 0, 0)) := by decide +kernel
theorem sm_a113_5 : sm_at 113 5 = some (.if_icmp .eq 18, 3, (0, 0, 0, 0)) := by decide +kernel
theorem sm_a113_8 : sm_at 113 8 = some (.aload_n 0, 1, (0, 0, 0, 0)) := by decide +kernel
theorem sm_a113_9 : sm_at 113 9 = some (.getfield 9, 3, (8, 0, 0, 398)) := by decide +kernel
theorem sm_a113_12 : sm_at 113 12 = some (.iconst 3, 1, (0, 0, 0, 0)) := by decide +kernel
theorem sm_a113_13 : sm_at 113 13 = some (.if_icmp .ne 14, 3, (0, 0, 0, 0)) := by decide +kernel
theorem sm_a113_16 : sm_at 113 16 = some (.aload_n 0, 1, (0, 0, 0, 0)) := by decide +kernel
theorem sm_a113_17 : sm_at 113 17 = some (.getfield 24, 3, (8, 1, 0, 401)) := by decide +kernel
theorem sm_a113_20 : sm_at 113 20 = some (.ifCond .eq 7, 3, (0, 0, 0, 0)) := by decide +kernel
theorem sm_a113_23 : sm_at 113 23 = some (.iconst 1, 1, (0, 0, 0, 0)) := by decide +kernel
theorem sm_a113_24 : sm_at 113 24 = some (.goto 4, 3, (0, 0, 0, 0)) := by decide +kernel
theorem sm_a113_27 : sm_at 113 27 = some (.iconst 0, 1, (0, 0, 0, 0)) := by decide +kernel
theorem sm_a113_28 : sm_at 113 28 = some (.ireturn, 1, (0, 0, 0, 0)) := by decide +kernel
theorem bb_113_0 {d : Nat} {M : sm_M} {Q : Option sm_V → sm_M → Prop} {a0 : Nat}
    (h : sm_K M a0 = 27 ∧ (((sm_I M a0 0) = 2 → Q (some (.inl 1)) M) ∧ (¬ ((sm_I M a0 0) = 2) → ((¬ (sm_I M a0 0) = 3 → Q (some (.inl 0)) M) ∧ (¬ (¬ (sm_I M a0 0) = 3) → (((sm_I M a0 1) = 0 → Q (some (.inl 0)) M) ∧ (¬ ((sm_I M a0 1) = 0) → Q (some (.inl 1)) M))))))) :
    sm_Run d 113 0 [some (.inr (some a0))] [] M Q := by
  refine ru_go (t := (1, [some (.inr (some a0))], [.inr (some a0)], M)) sm_a113_0 rfl rfl rfl ?_
  obtain ⟨h_1, h⟩ := h
  refine ru_go (t := (4, [some (.inr (some a0))], [.inl (sm_I M a0 0)], M)) sm_a113_1 rfl rfl (st_getI h_1 rfl) ?_
  refine ru_go (t := (5, [some (.inr (some a0))], [.inl 2, .inl (sm_I M a0 0)], M)) sm_a113_4 rfl rfl (st_iconst (by decide)) ?_
  refine ru_icmp (pc := 5) (p := 23) (p2 := 8) sm_a113_5 (by decide) rfl ⟨fun hc_2 => ?_, fun hc_2 => ?_⟩
  · have h := h.1 hc_2
    refine ru_go (t := (24, [some (.inr (some a0))], [.inl 1], M)) sm_a113_23 rfl rfl (st_iconst (by decide)) ?_
    refine ru_go (t := (28, [some (.inr (some a0))], [.inl 1], M)) sm_a113_24 rfl rfl (st_goto (pc := 24) (by decide)) ?_
    exact ru_ret sm_a113_28 (sm_rvz rfl (by decide)) h
  · have h := h.2 hc_2
    refine ru_go (t := (9, [some (.inr (some a0))], [.inr (some a0)], M)) sm_a113_8 rfl rfl rfl ?_
    refine ru_go (t := (12, [some (.inr (some a0))], [.inl (sm_I M a0 0)], M)) sm_a113_9 rfl rfl (st_getI h_1 rfl) ?_
    refine ru_go (t := (13, [some (.inr (some a0))], [.inl 3, .inl (sm_I M a0 0)], M)) sm_a113_12 rfl rfl (st_iconst (by decide)) ?_
    refine ru_icmp (pc := 13) (p := 27) (p2 := 16) sm_a113_13 (by decide) rfl ⟨fun hc_3 => ?_, fun hc_3 => ?_⟩
    · have h := h.1 hc_3
      refine ru_go (t := (28, [some (.inr (some a0))], [.inl 0], M)) sm_a113_27 rfl rfl (st_iconst (by decide)) ?_
      exact ru_ret sm_a113_28 (sm_rvz rfl (by decide)) h
    · have h := h.2 hc_3
      refine ru_go (t := (17, [some (.inr (some a0))], [.inr (some a0)], M)) sm_a113_16 rfl rfl rfl ?_
      refine ru_go (t := (20, [some (.inr (some a0))], [.inl (sm_I M a0 1)], M)) sm_a113_17 rfl rfl (st_getI h_1 rfl) ?_
      refine ru_if (pc := 20) (p := 27) (p2 := 23) sm_a113_20 (by decide) rfl ⟨fun hc_4 => ?_, fun hc_4 => ?_⟩
      · have h := h.1 hc_4
        refine ru_go (t := (28, [some (.inr (some a0))], [.inl 0], M)) sm_a113_27 rfl rfl (st_iconst (by decide)) ?_
        exact ru_ret sm_a113_28 (sm_rvz rfl (by decide)) h
      · have h := h.2 hc_4
        refine ru_go (t := (24, [some (.inr (some a0))], [.inl 1], M)) sm_a113_23 rfl rfl (st_iconst (by decide)) ?_
        refine ru_go (t := (28, [some (.inr (some a0))], [.inl 1], M)) sm_a113_24 rfl rfl (st_goto (pc := 24) (by decide)) ?_
        exact ru_ret sm_a113_28 (sm_rvz rfl (by decide)) h

/-! WireBus$Peer.find:(I)LWireBus$Pipe; -/
theorem sm_a114_0 : sm_at 114 0 = some (.iconst 0, 1, (0, 0, 0, 0)) := by decide +kernel
theorem sm_a114_1 : sm_at 114 1 = some (.istore_n 2, 1, (0, 0, 0, 0)) := by decide +kernel
theorem sm_a114_2 : sm_at 114 2 = some (.iload_n 2, 1, (0, 0, 0, 0)) := by decide +kernel
theorem sm_a114_3 : sm_at 114 3 = some (.aload_n 0, 1, (0, 0, 0, 0)) := by decide +kernel
theorem sm_a114_4 : sm_at 114 4 = some (.getfield 28, 3, (8, 4, 0, 407)) := by decide +kernel
theorem sm_a114_7 : sm_at 114 7 = some (.if_icmp .ge 29, 3, (0, 0, 0, 0)) := by decide +kernel
theorem sm_a114_10 : sm_at 114 10 = some (.aload_n 0, 1, (0, 0, 0, 0)) := by decide +kernel
theorem sm_a114_11 : sm_at 114 11 = some (.getfield 20, 3, (8, 3, 0, 406)) := by decide +kernel
theorem sm_a114_14 : sm_at 114 14 = some (.iload_n 2, 1, (0, 0, 0, 0)) := by decide +kernel
theorem sm_a114_15 : sm_at 114 15 = some (.aaload, 1, (0, 0, 0, 0)) := by decide +kernel
theorem sm_a114_16 : sm_at 114 16 = some (.getfield 35, 3, (9, 0, 1, 357)) := by decide +kernel
theorem sm_a114_19 : sm_at 114 19 = some (.iload_n 1, 1, (0, 0, 0, 0)) := by decide +kernel
theorem sm_a114_20 : sm_at 114 20 = some (.if_icmp .ne 10, 3, (0, 0, 0, 0)) := by decide +kernel
theorem sm_a114_23 : sm_at 114 23 = some (.aload_n 0, 1, (0, 0, 0, 0)) := by decide +kernel
theorem sm_a114_24 : sm_at 114 24 = some (.getfield 20, 3, (8, 3, 0, 406)) := by decide +kernel
theorem sm_a114_27 : sm_at 114 27 = some (.iload_n 2, 1, (0, 0, 0, 0)) := by decide +kernel
theorem sm_a114_28 : sm_at 114 28 = some (.aaload, 1, (0, 0, 0, 0)) := by decide +kernel
theorem sm_a114_29 : sm_at 114 29 = some (.areturn, 1, (0, 0, 0, 0)) := by decide +kernel
theorem sm_a114_30 : sm_at 114 30 = some (.iinc 2 1, 3, (0, 0, 0, 0)) := by decide +kernel
theorem sm_a114_33 : sm_at 114 33 = some (.goto (-31), 3, (0, 0, 0, 0)) := by decide +kernel
theorem sm_a114_36 : sm_at 114 36 = some (.aconst_null, 1, (0, 0, 0, 0)) := by decide +kernel
theorem sm_a114_37 : sm_at 114 37 = some (.areturn, 1, (0, 0, 0, 0)) := by decide +kernel
theorem bb_114_0 {d : Nat} {M : sm_M} {Q : Option sm_V → sm_M → Prop} {a0 : Nat} {x1 : Int32} {z2 : Option sm_V}
    (h : sm_Run d 114 2 [some (.inr (some a0)), some (.inl x1), some (.inl 0)] [] M Q) :
    sm_Run d 114 0 [some (.inr (some a0)), some (.inl x1), z2] [] M Q := by
  refine ru_go (t := (1, [some (.inr (some a0)), some (.inl x1), z2], [.inl 0], M)) sm_a114_0 rfl rfl (st_iconst (by decide)) ?_
  refine ru_go (t := (2, [some (.inr (some a0)), some (.inl x1), some (.inl 0)], [], M)) sm_a114_1 rfl rfl rfl ?_
  exact h
theorem bb_114_2 {d : Nat} {M : sm_M} {Q : Option sm_V → sm_M → Prop} {a0 : Nat} {x1 : Int32} {x2 : Int32}
    (h : sm_K M a0 = 27 ∧ (((sm_I M a0 4) ≤ x2 → Q (some (.inr none)) M) ∧ (¬ ((sm_I M a0 4) ≤ x2) → ∃ b_3, sm_R M a0 3 = some b_3 ∧ (∃ ci, sm_K M b_3 = 4 + 3 * ci) ∧ sm_in_ M b_3 x2 ∧ ∃ b_7, sm_R M b_3 (x2).toNatClampNeg = some b_7 ∧ sm_K M b_7 = 30 ∧ ((¬ (sm_I M b_7 0) = x1 → sm_Run d 114 2 [some (.inr (some a0)), some (.inl x1), some (.inl (x2 + 1))] [] M Q) ∧ (¬ (¬ (sm_I M b_7 0) = x1) → ∃ b_11, sm_R M a0 3 = some b_11 ∧ (∃ ci, sm_K M b_11 = 4 + 3 * ci) ∧ sm_in_ M b_11 x2 ∧ Q (some (.inr (sm_R M b_11 (x2).toNatClampNeg))) M))))) :
    sm_Run d 114 2 [some (.inr (some a0)), some (.inl x1), some (.inl x2)] [] M Q := by
  refine ru_go (t := (3, [some (.inr (some a0)), some (.inl x1), some (.inl x2)], [.inl x2], M)) sm_a114_2 rfl rfl rfl ?_
  refine ru_go (t := (4, [some (.inr (some a0)), some (.inl x1), some (.inl x2)], [.inr (some a0), .inl x2], M)) sm_a114_3 rfl rfl rfl ?_
  obtain ⟨h_1, h⟩ := h
  refine ru_go (t := (7, [some (.inr (some a0)), some (.inl x1), some (.inl x2)], [.inl (sm_I M a0 4), .inl x2], M)) sm_a114_4 rfl rfl (st_getI h_1 rfl) ?_
  refine ru_icmp (pc := 7) (p := 36) (p2 := 10) sm_a114_7 (by decide) rfl ⟨fun hc_2 => ?_, fun hc_2 => ?_⟩
  · have h := h.1 hc_2
    refine ru_go (t := (37, [some (.inr (some a0)), some (.inl x1), some (.inl x2)], [.inr none], M)) sm_a114_36 rfl rfl rfl ?_
    exact ru_ret sm_a114_37 rfl h
  · have h := h.2 hc_2
    refine ru_go (t := (11, [some (.inr (some a0)), some (.inl x1), some (.inl x2)], [.inr (some a0)], M)) sm_a114_10 rfl rfl rfl ?_
    refine ru_go (t := (14, [some (.inr (some a0)), some (.inl x1), some (.inl x2)], [.inr (sm_R M a0 3)], M)) sm_a114_11 rfl rfl (st_getR h_1 rfl rfl) ?_
    refine ru_go (t := (15, [some (.inr (some a0)), some (.inl x1), some (.inl x2)], [.inl x2, .inr (sm_R M a0 3)], M)) sm_a114_14 rfl rfl rfl ?_
    obtain ⟨b_3, hb_4, h⟩ := h
    rw [hb_4]
    obtain ⟨h_5, h⟩ := h
    obtain ⟨h_6, h⟩ := h
    refine ru_go (t := (16, [some (.inr (some a0)), some (.inl x1), some (.inl x2)], [.inr (sm_R M b_3 (x2).toNatClampNeg)], M)) sm_a114_15 rfl rfl (st_aald h_5.choose_spec h_6 rfl) ?_
    obtain ⟨b_7, hb_8, h⟩ := h
    rw [hb_8]
    obtain ⟨h_9, h⟩ := h
    refine ru_go (t := (19, [some (.inr (some a0)), some (.inl x1), some (.inl x2)], [.inl (sm_I M b_7 0)], M)) sm_a114_16 rfl rfl (st_getI h_9 rfl) ?_
    refine ru_go (t := (20, [some (.inr (some a0)), some (.inl x1), some (.inl x2)], [.inl x1, .inl (sm_I M b_7 0)], M)) sm_a114_19 rfl rfl rfl ?_
    refine ru_icmp (pc := 20) (p := 30) (p2 := 23) sm_a114_20 (by decide) rfl ⟨fun hc_10 => ?_, fun hc_10 => ?_⟩
    · have h := h.1 hc_10
      refine ru_go (t := (33, [some (.inr (some a0)), some (.inl x1), some (.inl (x2 + 1))], [], M)) sm_a114_30 rfl rfl (st_iinc rfl (by decide)) ?_
      refine ru_go (t := (2, [some (.inr (some a0)), some (.inl x1), some (.inl (x2 + 1))], [], M)) sm_a114_33 rfl rfl (st_goto (pc := 33) (by decide)) ?_
      exact h
    · have h := h.2 hc_10
      refine ru_go (t := (24, [some (.inr (some a0)), some (.inl x1), some (.inl x2)], [.inr (some a0)], M)) sm_a114_23 rfl rfl rfl ?_
      refine ru_go (t := (27, [some (.inr (some a0)), some (.inl x1), some (.inl x2)], [.inr (sm_R M a0 3)], M)) sm_a114_24 rfl rfl (st_getR h_1 rfl rfl) ?_
      refine ru_go (t := (28, [some (.inr (some a0)), some (.inl x1), some (.inl x2)], [.inl x2, .inr (sm_R M a0 3)], M)) sm_a114_27 rfl rfl rfl ?_
      obtain ⟨b_11, hb_12, h⟩ := h
      rw [hb_12]
      obtain ⟨h_13, h⟩ := h
      obtain ⟨h_14, h⟩ := h
      refine ru_go (t := (29, [some (.inr (some a0)), some (.inl x1), some (.inl x2)], [.inr (sm_R M b_11 (x2).toNatClampNeg)], M)) sm_a114_28 rfl rfl (st_aald h_13.choose_spec h_14 rfl) ?_
      exact ru_ret sm_a114_29 rfl h

/-! WireBus$Peer.at:(I)LWireBus$Pipe; -/
theorem sm_a115_0 : sm_at 115 0 = some (.iload_n 1, 1, (0, 0, 0, 0)) := by decide +kernel
theorem sm_a115_1 : sm_at 115 1 = some (.ifCond .lt 20, 3, (0, 0, 0, 0)) := by decide +kernel
theorem sm_a115_4 : sm_at 115 4 = some (.iload_n 1, 1, (0, 0, 0, 0)) := by decide +kernel
theorem sm_a115_5 : sm_at 115 5 = some (.aload_n 0, 1, (0, 0, 0, 0)) := by decide +kernel
theorem sm_a115_6 : sm_at 115 6 = some (.getfield 28, 3, (8, 4, 0, 407)) := by decide +kernel
theorem sm_a115_9 : sm_at 115 9 = some (.if_icmp .ge 12, 3, (0, 0, 0, 0)) := by decide +kernel
theorem sm_a115_12 : sm_at 115 12 = some (.aload_n 0, 1, (0, 0, 0, 0)) := by decide +kernel
theorem sm_a115_13 : sm_at 115 13 = some (.getfield 20, 3, (8, 3, 0, 406)) := by decide +kernel
theorem sm_a115_16 : sm_at 115 16 = some (.iload_n 1, 1, (0, 0, 0, 0)) := by decide +kernel
theorem sm_a115_17 : sm_at 115 17 = some (.aaload, 1, (0, 0, 0, 0)) := by decide +kernel
theorem sm_a115_18 : sm_at 115 18 = some (.goto 4, 3, (0, 0, 0, 0)) := by decide +kernel
theorem sm_a115_21 : sm_at 115 21 = some (.aconst_null, 1, (0, 0, 0, 0)) := by decide +kernel
theorem sm_a115_22 : sm_at 115 22 = some (.areturn, 1, (0, 0, 0, 0)) := by decide +kernel
theorem bb_115_0 {d : Nat} {M : sm_M} {Q : Option sm_V → sm_M → Prop} {a0 : Nat} {x1 : Int32}
    (h : ((x1 < 0 → Q (some (.inr none)) M) ∧ (¬ (x1 < 0) → sm_K M a0 = 27 ∧ (((sm_I M a0 4) ≤ x1 → Q (some (.inr none)) M) ∧ (¬ ((sm_I M a0 4) ≤ x1) → ∃ b_4, sm_R M a0 3 = some b_4 ∧ (∃ ci, sm_K M b_4 = 4 + 3 * ci) ∧ sm_in_ M b_4 x1 ∧ Q (some (.inr (sm_R M b_4 (x1).toNatClampNeg))) M))))) :
    sm_Run d 115 0 [some (.inr (some a0)), some (.inl x1)] [] M Q := by
  refine ru_go (t := (1, [some (.inr (some a0)), some (.inl x1)], [.inl x1], M)) sm_a115_0 rfl rfl rfl ?_
  refine ru_if (pc := 1) (p := 21) (p2 := 4) sm_a115_1 (by decide) rfl ⟨fun hc_1 => ?_, fun hc_1 => ?_⟩
  · have h := h.1 hc_1
    refine ru_go (t := (22, [some (.inr (some a0)), some (.inl x1)], [.inr none], M)) sm_a115_21 rfl rfl rfl ?_
    exact ru_ret sm_a115_22 rfl h
  · have h := h.2 hc_1
    refine ru_go (t := (5, [some (.inr (some a0)), some (.inl x1)], [.inl x1], M)) sm_a115_4 rfl rfl rfl ?_
    refine ru_go (t := (6, [some (.inr (some a0)), some (.inl x1)], [.inr (some a0), .inl x1], M)) sm_a115_5 rfl rfl rfl ?_
    obtain ⟨h_2, h⟩ := h
    refine ru_go (t := (9, [some (.inr (some a0)), some (.inl x1)], [.inl (sm_I M a0 4), .inl x1], M)) sm_a115_6 rfl rfl (st_getI h_2 rfl) ?_
    refine ru_icmp (pc := 9) (p := 21) (p2 := 12) sm_a115_9 (by decide) rfl ⟨fun hc_3 => ?_, fun hc_3 => ?_⟩
    · have h := h.1 hc_3
      refine ru_go (t := (22, [some (.inr (some a0)), some (.inl x1)], [.inr none], M)) sm_a115_21 rfl rfl rfl ?_
      exact ru_ret sm_a115_22 rfl h
    · have h := h.2 hc_3
      refine ru_go (t := (13, [some (.inr (some a0)), some (.inl x1)], [.inr (some a0)], M)) sm_a115_12 rfl rfl rfl ?_
      refine ru_go (t := (16, [some (.inr (some a0)), some (.inl x1)], [.inr (sm_R M a0 3)], M)) sm_a115_13 rfl rfl (st_getR h_2 rfl rfl) ?_
      refine ru_go (t := (17, [some (.inr (some a0)), some (.inl x1)], [.inl x1, .inr (sm_R M a0 3)], M)) sm_a115_16 rfl rfl rfl ?_
      obtain ⟨b_4, hb_5, h⟩ := h
      rw [hb_5]
      obtain ⟨h_6, h⟩ := h
      obtain ⟨h_7, h⟩ := h
      refine ru_go (t := (18, [some (.inr (some a0)), some (.inl x1)], [.inr (sm_R M b_4 (x1).toNatClampNeg)], M)) sm_a115_17 rfl rfl (st_aald h_6.choose_spec h_7 rfl) ?_
      refine ru_go (t := (22, [some (.inr (some a0)), some (.inl x1)], [.inr (sm_R M b_4 (x1).toNatClampNeg)], M)) sm_a115_18 rfl rfl (st_goto (pc := 18) (by decide)) ?_
      exact ru_ret sm_a115_22 rfl h

/-! WireBus$Peer.openPipes:()V -/
theorem sm_a116_0 : sm_at 116 0 = some (.aload_n 0, 1, (0, 0, 0, 0)) := by decide +kernel
theorem sm_a116_1 : sm_at 116 1 = some (.iconst 2, 1, (0, 0, 0, 0)) := by decide +kernel
theorem sm_a116_2 : sm_at 116 2 = some (.putfield 9, 3, (8, 0, 0, 398)) := by decide +kernel
theorem sm_a116_5 : sm_at 116 5 = some (.aload_n 0, 1, (0, 0, 0, 0)) := by decide +kernel
theorem sm_a116_6 : sm_at 116 6 = some (.getfield 31, 3, (8, 5, 0, 409)) := by decide +kernel
theorem sm_a116_9 : sm_at 116 9 = some (.ifnonnull 4, 3, (0, 0, 0, 0)) := by decide +kernel
theorem sm_a116_12 : sm_at 116 12 = some (.return_, 1, (0, 0, 0, 0)) := by decide +kernel
theorem sm_a116_13 : sm_at 116 13 = some (.aload_n 0, 1, (0, 0, 0, 0)) := by decide +kernel
theorem sm_a116_14 : sm_at 116 14 = some (.getfield 31, 3, (8, 5, 0, 409)) := by decide +kernel
theorem sm_a116_17 : sm_at 116 17 = some (.astore_n 1, 1, (0, 0, 0, 0)) := by decide +kernel
theorem sm_a116_18 : sm_at 116 18 = some (.bipush 18, 2, (0, 0, 0, 0)) := by decide +kernel
theorem sm_a116_20 : sm_at 116 20 = some (.istore_n 2, 1, (0, 0, 0, 0)) := by decide +kernel
theorem sm_a116_21 : sm_at 116 21 = some (.iload_n 2, 1, (0, 0, 0, 0)) := by decide +kernel
theorem sm_a116_22 : sm_at 116 22 = some (.bipush 7, 2, (0, 0, 0, 0)) := by decide +kernel
theorem sm_a116_24 : sm_at 116 24 = some (.iadd, 1, (0, 0, 0, 0)) := by decide +kernel
theorem sm_a116_25 : sm_at 116 25 = some (.aload_n 1, 1, (0, 0, 0, 0)) := by decide +kernel
theorem sm_a116_26 : sm_at 116 26 = some (.getfield 38, 3, (10, 10, 1, 643)) := by decide +kernel
theorem sm_a116_29 : sm_at 116 29 = some (.if_icmp .gt 105, 3, (0, 0, 0, 0)) := by decide +kernel
theorem sm_a116_32 : sm_at 116 32 = some (.aload_n 0, 1, (0, 0, 0, 0)) := by decide +kernel
theorem sm_a116_33 : sm_at 116 33 = some (.getfield 28, 3, (8, 4, 0, 407)) := by decide +kernel
theorem sm_a116_36 : sm_at 116 36 = some (.bipush 6, 2, (0, 0, 0, 0)) := by decide +kernel
theorem sm_a116_38 : sm_at 116 38 = some (.if_icmp .ge 96, 3, (0, 0, 0, 0)) := by decide +kernel
theorem sm_a116_41 : sm_at 116 41 = some (.aload_n 1, 1, (0, 0, 0, 0)) := by decide +kernel
theorem sm_a116_42 : sm_at 116 42 = some (.iload_n 2, 1, (0, 0, 0, 0)) := by decide +kernel
theorem sm_a116_43 : sm_at 116 43 = some (.invokevirtual 43, 3, (10, 124, 10, 1098)) := by decide +kernel
theorem sm_a116_46 : sm_at 116 46 = some (.bipush 7, 2, (0, 0, 0, 0)) := by decide +kernel
theorem sm_a116_48 : sm_at 116 48 = some (.if_icmp .ne 80, 3, (0, 0, 0, 0)) := by decide +kernel
theorem sm_a116_51 : sm_at 116 51 = some (.aload_n 1, 1, (0, 0, 0, 0)) := by decide +kernel
theorem sm_a116_52 : sm_at 116 52 = some (.iload_n 2, 1, (0, 0, 0, 0)) := by decide +kernel
theorem sm_a116_53 : sm_at 116 53 = some (.iconst 1, 1, (0, 0, 0, 0)) := by decide +kernel
theorem sm_a116_54 : sm_at 116 54 = some (.iadd, 1, (0, 0, 0, 0)) := by decide +kernel
theorem sm_a116_55 : sm_at 116 55 = some (.invokevirtual 43, 3, (10, 124, 10, 1098)) := by decide +kernel
theorem sm_a116_58 : sm_at 116 58 = some (.iconst 5, 1, (0, 0, 0, 0)) := by decide +kernel
theorem sm_a116_59 : sm_at 116 59 = some (.if_icmp .ne 69, 3, (0, 0, 0, 0)) := by decide +kernel
theorem sm_a116_62 : sm_at 116 62 = some (.aload_n 1, 1, (0, 0, 0, 0)) := by decide +kernel
theorem sm_a116_63 : sm_at 116 63 = some (.iload_n 2, 1, (0, 0, 0, 0)) := by decide +kernel
theorem sm_a116_64 : sm_at 116 64 = some (.iconst 3, 1, (0, 0, 0, 0)) := by decide +kernel
theorem sm_a116_65 : sm_at 116 65 = some (.iadd, 1, (0, 0, 0, 0)) := by decide +kernel
theorem sm_a116_66 : sm_at 116 66 = some (.invokevirtual 43, 3, (10, 124, 10, 1098)) := by decide +kernel
theorem sm_a116_69 : sm_at 116 69 = some (.iconst 2, 1, (0, 0, 0, 0)) := by decide +kernel
theorem sm_a116_70 : sm_at 116 70 = some (.if_icmp .ne 7, 3, (0, 0, 0, 0)) := by decide +kernel
theorem sm_a116_73 : sm_at 116 73 = some (.iconst 1, 1, (0, 0, 0, 0)) := by decide +kernel
theorem sm_a116_74 : sm_at 116 74 = some (.goto 4, 3, (0, 0, 0, 0)) := by decide +kernel
theorem sm_a116_77 : sm_at 116 77 = some (.iconst 0, 1, (0, 0, 0, 0)) := by decide +kernel
theorem sm_a116_78 : sm_at 116 78 = some (.istore_n 3, 1, (0, 0, 0, 0)) := by decide +kernel
theorem sm_a116_79 : sm_at 116 79 = some (.aload_n 0, 1, (0, 0, 0, 0)) := by decide +kernel
theorem sm_a116_80 : sm_at 116 80 = some (.getfield 20, 3, (8, 3, 0, 406)) := by decide +kernel
theorem sm_a116_83 : sm_at 116 83 = some (.aload_n 0, 1, (0, 0, 0, 0)) := by decide +kernel
theorem sm_a116_84 : sm_at 116 84 = some (.getfield 28, 3, (8, 4, 0, 407)) := by decide +kernel
theorem sm_a116_87 : sm_at 116 87 = some (.new 18, 3, (9, 0, 0, 396)) := by decide +kernel
theorem sm_a116_90 : sm_at 116 90 = some (.dup, 1, (0, 0, 0, 0)) := by decide +kernel
theorem sm_a116_91 : sm_at 116 91 = some (.aload_n 1, 1, (0, 0, 0, 0)) := by decide +kernel
theorem sm_a116_92 : sm_at 116 92 = some (.iload_n 2, 1, (0, 0, 0, 0)) := by decide +kernel
theorem sm_a116_93 : sm_at 116 93 = some (.iconst 2, 1, (0, 0, 0, 0)) := by decide +kernel
theorem sm_a116_94 : sm_at 116 94 = some (.iadd, 1, (0, 0, 0, 0)) := by decide +kernel
theorem sm_a116_95 : sm_at 116 95 = some (.invokevirtual 43, 3, (10, 124, 10, 1098)) := by decide +kernel
theorem sm_a116_98 : sm_at 116 98 = some (.iload_n 3, 1, (0, 0, 0, 0)) := by decide +kernel
theorem sm_a116_99 : sm_at 116 99 = some (.aload_n 1, 1, (0, 0, 0, 0)) := by decide +kernel
theorem sm_a116_100 : sm_at 116 100 = some (.iload_n 2, 1, (0, 0, 0, 0)) := by decide +kernel
theorem sm_a116_101 : sm_at 116 101 = some (.iconst 4, 1, (0, 0, 0, 0)) := by decide +kernel
theorem sm_a116_102 : sm_at 116 102 = some (.iadd, 1, (0, 0, 0, 0)) := by decide +kernel
theorem sm_a116_103 : sm_at 116 103 = some (.invokevirtual 43, 3, (10, 124, 10, 1098)) := by decide +kernel
theorem sm_a116_106 : sm_at 116 106 = some (.aload_n 1, 1, (0, 0, 0, 0)) := by decide +kernel
theorem sm_a116_107 : sm_at 116 107 = some (.iload_n 2, 1, (0, 0, 0, 0)) := by decide +kernel
theorem sm_a116_108 : sm_at 116 108 = some (.bipush 6, 2, (0, 0, 0, 0)) := by decide +kernel
theorem sm_a116_110 : sm_at 116 110 = some (.iadd, 1, (0, 0, 0, 0)) := by decide +kernel
theorem sm_a116_111 : sm_at 116 111 = some (.invokevirtual 43, 3, (10, 124, 10, 1098)) := by decide +kernel
theorem sm_a116_114 : sm_at 116 114 = some (.invokespecial 47, 3, (14, 118, 9, 1099)) := by decide +kernel
theorem sm_a116_117 : sm_at 116 117 = some (.aastore, 1, (0, 0, 0, 0)) := by decide +kernel
theorem sm_a116_118 : sm_at 116 118 = some (.aload_n 0, 1, (0, 0, 0, 0)) := by decide +kernel
theorem sm_a116_119 : sm_at 116 119 = some (.dup, 1, (0, 0, 0, 0)) := by decide +kernel
theorem sm_a116_120 : sm_at 116 120 = some (.getfield 28, 3, (8, 4, 0, 407)) := by decide +kernel
theorem sm_a116_123 : sm_at 116 123 = some (.iconst 1, 1, (0, 0, 0, 0)) := by decide +kernel
theorem sm_a116_124 : sm_at 116 124 = some (.iadd, 1, (0, 0, 0, 0)) := by decide +kernel
theorem sm_a116_125 : sm_at 116 125 = some (.putfield 28, 3, (8, 4, 0, 407)) := by decide +kernel
theorem sm_a116_128 : sm_at 116 128 = some (.iinc 2 7, 3, (0, 0, 0, 0)) := by decide +kernel
theorem sm_a116_131 : sm_at 116 131 = some (.goto (-110), 3, (0, 0, 0, 0)) := by decide +kernel
theorem sm_a116_134 : sm_at 116 134 = some (.return_, 1, (0, 0, 0, 0)) := by decide +kernel
theorem bb_116_0 {d : Nat} {M : sm_M} {Q : Option sm_V → sm_M → Prop} {a0 : Nat} {z1 : Option sm_V} {z2 : Option sm_V} {z3 : Option sm_V}
    (h : sm_K M a0 = 27 ∧ ((sm_R (sm_putI M a0 0 2) a0 5 = none → Q none (sm_putI M a0 0 2)) ∧ (∀ b_2, sm_R (sm_putI M a0 0 2) a0 5 = some b_2 → sm_Run (d + 1) 116 21 [some (.inr (some a0)), some (.inr (sm_R (sm_putI M a0 0 2) a0 5)), some (.inl 18), z3] [] (sm_putI M a0 0 2) Q))) :
    sm_Run (d + 1) 116 0 [some (.inr (some a0)), z1, z2, z3] [] M Q := by
  refine ru_go (t := (1, [some (.inr (some a0)), z1, z2, z3], [.inr (some a0)], M)) sm_a116_0 rfl rfl rfl ?_
  refine ru_go (t := (2, [some (.inr (some a0)), z1, z2, z3], [.inl 2, .inr (some a0)], M)) sm_a116_1 rfl rfl (st_iconst (by decide)) ?_
  obtain ⟨h_1, h⟩ := h
  refine ru_go (t := (5, [some (.inr (some a0)), z1, z2, z3], [], sm_putI M a0 0 2)) sm_a116_2 rfl rfl (st_putI h_1 rfl) ?_
  refine ru_go (t := (6, [some (.inr (some a0)), z1, z2, z3], [.inr (some a0)], sm_putI M a0 0 2)) sm_a116_5 rfl rfl rfl ?_
  refine ru_go (t := (9, [some (.inr (some a0)), z1, z2, z3], [.inr (sm_R (sm_putI M a0 0 2) a0 5)], sm_putI M a0 0 2)) sm_a116_6 rfl rfl (st_getR h_1 rfl rfl) ?_
  refine ru_ifnonnull (pc := 9) (p := 13) (p2 := 12) sm_a116_9 (by decide) rfl ⟨fun b_2 hc => ?_, fun hc => ?_⟩
  · have h := h.2 b_2 hc
    try rw [hc]
    refine ru_go (t := (14, [some (.inr (some a0)), z1, z2, z3], [.inr (some a0)], sm_putI M a0 0 2)) sm_a116_13 rfl rfl rfl ?_
    refine ru_go (t := (17, [some (.inr (some a0)), z1, z2, z3], [.inr (sm_R (sm_putI M a0 0 2) a0 5)], sm_putI M a0 0 2)) sm_a116_14 rfl rfl (st_getR h_1 rfl rfl) ?_
    refine ru_go (t := (18, [some (.inr (some a0)), some (.inr (sm_R (sm_putI M a0 0 2) a0 5)), z2, z3], [], sm_putI M a0 0 2)) sm_a116_17 rfl rfl rfl ?_
    refine ru_go (t := (20, [some (.inr (some a0)), some (.inr (sm_R (sm_putI M a0 0 2) a0 5)), z2, z3], [.inl 18], sm_putI M a0 0 2)) sm_a116_18 rfl rfl (st_bipush (by decide)) ?_
    refine ru_go (t := (21, [some (.inr (some a0)), some (.inr (sm_R (sm_putI M a0 0 2) a0 5)), some (.inl 18), z3], [], sm_putI M a0 0 2)) sm_a116_20 rfl rfl rfl ?_
    exact h
  · have h := h.1 hc
    try rw [hc]
    exact ru_ret sm_a116_12 (sm_rvv rfl) h
theorem bb_116_21 {d : Nat} {M : sm_M} {Q : Option sm_V → sm_M → Prop} {a0 : Nat} {r1 : Option Nat} {x2 : Int32} {z3 : Option sm_V}
    (h : ∃ b_1, r1 = some b_1 ∧ sm_K M b_1 = 33 ∧ (((sm_I M b_1 10) < (x2 + 7) → Q none M) ∧ (¬ ((sm_I M b_1 10) < (x2 + 7)) → sm_K M a0 = 27 ∧ ((6 ≤ (sm_I M a0 4) → Q none M) ∧ (¬ (6 ≤ (sm_I M a0 4)) → sm_Run d 124 0 (sm_ent 124 [.inr (some b_1), .inl x2]) [] M (fun v M1 => sm_Run (d + 1) 116 46 [some (.inr (some a0)), some (.inr (some b_1)), some (.inl x2), z3] (v.toList ++ []) M1 Q)))))) :
    sm_Run (d + 1) 116 21 [some (.inr (some a0)), some (.inr r1), some (.inl x2), z3] [] M Q := by
  refine ru_go (t := (22, [some (.inr (some a0)), some (.inr r1), some (.inl x2), z3], [.inl x2], M)) sm_a116_21 rfl rfl rfl ?_
  refine ru_go (t := (24, [some (.inr (some a0)), some (.inr r1), some (.inl x2), z3], [.inl 7, .inl x2], M)) sm_a116_22 rfl rfl (st_bipush (by decide)) ?_
  refine ru_go (t := (25, [some (.inr (some a0)), some (.inr r1), some (.inl x2), z3], [.inl (x2 + 7)], M)) sm_a116_24 rfl rfl rfl ?_
  refine ru_go (t := (26, [some (.inr (some a0)), some (.inr r1), some (.inl x2), z3], [.inr r1, .inl (x2 + 7)], M)) sm_a116_25 rfl rfl rfl ?_
  obtain ⟨b_1, hb_2, h⟩ := h
  rw [hb_2]
  obtain ⟨h_3, h⟩ := h
  refine ru_go (t := (29, [some (.inr (some a0)), some (.inr (some b_1)), some (.inl x2), z3], [.inl (sm_I M b_1 10), .inl (x2 + 7)], M)) sm_a116_26 rfl rfl (st_getI h_3 rfl) ?_
  refine ru_icmp (pc := 29) (p := 134) (p2 := 32) sm_a116_29 (by decide) rfl ⟨fun hc_4 => ?_, fun hc_4 => ?_⟩
  · have h := h.1 hc_4
    exact ru_ret sm_a116_134 (sm_rvv rfl) h
  · have h := h.2 hc_4
    refine ru_go (t := (33, [some (.inr (some a0)), some (.inr (some b_1)), some (.inl x2), z3], [.inr (some a0)], M)) sm_a116_32 rfl rfl rfl ?_
    obtain ⟨h_5, h⟩ := h
    refine ru_go (t := (36, [some (.inr (some a0)), some (.inr (some b_1)), some (.inl x2), z3], [.inl (sm_I M a0 4)], M)) sm_a116_33 rfl rfl (st_getI h_5 rfl) ?_
    refine ru_go (t := (38, [some (.inr (some a0)), some (.inr (some b_1)), some (.inl x2), z3], [.inl 6, .inl (sm_I M a0 4)], M)) sm_a116_36 rfl rfl (st_bipush (by decide)) ?_
    refine ru_icmp (pc := 38) (p := 134) (p2 := 41) sm_a116_38 (by decide) rfl ⟨fun hc_6 => ?_, fun hc_6 => ?_⟩
    · have h := h.1 hc_6
      exact ru_ret sm_a116_134 (sm_rvv rfl) h
    · have h := h.2 hc_6
      refine ru_go (t := (42, [some (.inr (some a0)), some (.inr (some b_1)), some (.inl x2), z3], [.inr (some b_1)], M)) sm_a116_41 rfl rfl rfl ?_
      refine ru_go (t := (43, [some (.inr (some a0)), some (.inr (some b_1)), some (.inl x2), z3], [.inl x2, .inr (some b_1)], M)) sm_a116_42 rfl rfl rfl ?_
      exact ru_call (p := 46) sm_a116_43 rfl (sc_virt (Or.inl rfl) rfl rfl h_3 (Nat.le_of_ble_eq_true rfl)) rfl h
theorem bb_116_46 {d : Nat} {M : sm_M} {Q : Option sm_V → sm_M → Prop} {a0 : Nat} {r1 : Option Nat} {x2 : Int32} {z3 : Option sm_V} {y0 : Int32}
    (h : ((¬ y0 = 7 → sm_Run (d + 1) 116 21 [some (.inr (some a0)), some (.inr r1), some (.inl (x2 + 7)), z3] [] M Q) ∧ (¬ (¬ y0 = 7) → ∃ b_2, r1 = some b_2 ∧ sm_K M b_2 = 33 ∧ sm_Run d 124 0 (sm_ent 124 [.inr (some b_2), .inl (x2 + 1)]) [] M (fun v M1 => sm_Run (d + 1) 116 58 [some (.inr (some a0)), some (.inr (some b_2)), some (.inl x2), z3] (v.toList ++ []) M1 Q)))) :
    sm_Run (d + 1) 116 46 [some (.inr (some a0)), some (.inr r1), some (.inl x2), z3] [.inl y0] M Q := by
  refine ru_go (t := (48, [some (.inr (some a0)), some (.inr r1), some (.inl x2), z3], [.inl 7, .inl y0], M)) sm_a116_46 rfl rfl (st_bipush (by decide)) ?_
  refine ru_icmp (pc := 48) (p := 128) (p2 := 51) sm_a116_48 (by decide) rfl ⟨fun hc_1 => ?_, fun hc_1 => ?_⟩
  · have h := h.1 hc_1
    refine ru_go (t := (131, [some (.inr (some a0)), some (.inr r1), some (.inl (x2 + 7)), z3], [], M)) sm_a116_128 rfl rfl (st_iinc rfl (by decide)) ?_
    refine ru_go (t := (21, [some (.inr (some a0)), some (.inr r1), some (.inl (x2 + 7)), z3], [], M)) sm_a116_131 rfl rfl (st_goto (pc := 131) (by decide)) ?_
    exact h
  · have h := h.2 hc_1
    refine ru_go (t := (52, [some (.inr (some a0)), some (.inr r1), some (.inl x2), z3], [.inr r1], M)) sm_a116_51 rfl rfl rfl ?_
    refine ru_go (t := (53, [some (.inr (some a0)), some (.inr r1), some (.inl x2), z3], [.inl x2, .inr r1], M)) sm_a116_52 rfl rfl rfl ?_
    refine ru_go (t := (54, [some (.inr (some a0)), some (.inr r1), some (.inl x2), z3], [.inl 1, .inl x2, .inr r1], M)) sm_a116_53 rfl rfl (st_iconst (by decide)) ?_
    refine ru_go (t := (55, [some (.inr (some a0)), some (.inr r1), some (.inl x2), z3], [.inl (x2 + 1), .inr r1], M)) sm_a116_54 rfl rfl rfl ?_
    obtain ⟨b_2, hb_3, h⟩ := h
    rw [hb_3]
    obtain ⟨h_4, h⟩ := h
    exact ru_call (p := 58) sm_a116_55 rfl (sc_virt (Or.inl rfl) rfl rfl h_4 (Nat.le_of_ble_eq_true rfl)) rfl h
theorem bb_116_58 {d : Nat} {M : sm_M} {Q : Option sm_V → sm_M → Prop} {a0 : Nat} {r1 : Option Nat} {x2 : Int32} {z3 : Option sm_V} {y0 : Int32}
    (h : ((¬ y0 = 5 → sm_Run (d + 1) 116 21 [some (.inr (some a0)), some (.inr r1), some (.inl (x2 + 7)), z3] [] M Q) ∧ (¬ (¬ y0 = 5) → ∃ b_2, r1 = some b_2 ∧ sm_K M b_2 = 33 ∧ sm_Run d 124 0 (sm_ent 124 [.inr (some b_2), .inl (x2 + 3)]) [] M (fun v M1 => sm_Run (d + 1) 116 69 [some (.inr (some a0)), some (.inr (some b_2)), some (.inl x2), z3] (v.toList ++ []) M1 Q)))) :
    sm_Run (d + 1) 116 58 [some (.inr (some a0)), some (.inr r1), some (.inl x2), z3] [.inl y0] M Q := by
  refine ru_go (t := (59, [some (.inr (some a0)), some (.inr r1), some (.inl x2), z3], [.inl 5, .inl y0], M)) sm_a116_58 rfl rfl (st_iconst (by decide)) ?_
  refine ru_icmp (pc := 59) (p := 128) (p2 := 62) sm_a116_59 (by decide) rfl ⟨fun hc_1 => ?_, fun hc_1 => ?_⟩
  · have h := h.1 hc_1
    refine ru_go (t := (131, [some (.inr (some a0)), some (.inr r1), some (.inl (x2 + 7)), z3], [], M)) sm_a116_128 rfl rfl (st_iinc rfl (by decide)) ?_
    refine ru_go (t := (21, [some (.inr (some a0)), some (.inr r1), some (.inl (x2 + 7)), z3], [], M)) sm_a116_131 rfl rfl (st_goto (pc := 131) (by decide)) ?_
    exact h
  · have h := h.2 hc_1
    refine ru_go (t := (63, [some (.inr (some a0)), some (.inr r1), some (.inl x2), z3], [.inr r1], M)) sm_a116_62 rfl rfl rfl ?_
    refine ru_go (t := (64, [some (.inr (some a0)), some (.inr r1), some (.inl x2), z3], [.inl x2, .inr r1], M)) sm_a116_63 rfl rfl rfl ?_
    refine ru_go (t := (65, [some (.inr (some a0)), some (.inr r1), some (.inl x2), z3], [.inl 3, .inl x2, .inr r1], M)) sm_a116_64 rfl rfl (st_iconst (by decide)) ?_
    refine ru_go (t := (66, [some (.inr (some a0)), some (.inr r1), some (.inl x2), z3], [.inl (x2 + 3), .inr r1], M)) sm_a116_65 rfl rfl rfl ?_
    obtain ⟨b_2, hb_3, h⟩ := h
    rw [hb_3]
    obtain ⟨h_4, h⟩ := h
    exact ru_call (p := 69) sm_a116_66 rfl (sc_virt (Or.inl rfl) rfl rfl h_4 (Nat.le_of_ble_eq_true rfl)) rfl h
theorem bb_116_69 {d : Nat} {M : sm_M} {Q : Option sm_V → sm_M → Prop} {a0 : Nat} {r1 : Option Nat} {x2 : Int32} {z3 : Option sm_V} {y0 : Int32}
    (h : ((¬ y0 = 2 → sm_K M a0 = 27 ∧ ∃ b_3, r1 = some b_3 ∧ sm_K (sm_new M 30 0 8) b_3 = 33 ∧ sm_Run d 124 0 (sm_ent 124 [.inr (some b_3), .inl (x2 + 2)]) [] (sm_new M 30 0 8) (fun v M1 => sm_Run (d + 1) 116 98 [some (.inr (some a0)), some (.inr (some b_3)), some (.inl x2), some (.inl 0)] (v.toList ++ [.inr (some (sm_N M)), .inr (some (sm_N M)), .inl (sm_I M a0 4), .inr (sm_R M a0 3)]) M1 Q)) ∧ (¬ (¬ y0 = 2) → sm_K M a0 = 27 ∧ ∃ b_7, r1 = some b_7 ∧ sm_K (sm_new M 30 0 8) b_7 = 33 ∧ sm_Run d 124 0 (sm_ent 124 [.inr (some b_7), .inl (x2 + 2)]) [] (sm_new M 30 0 8) (fun v M1 => sm_Run (d + 1) 116 98 [some (.inr (some a0)), some (.inr (some b_7)), some (.inl x2), some (.inl 1)] (v.toList ++ [.inr (some (sm_N M)), .inr (some (sm_N M)), .inl (sm_I M a0 4), .inr (sm_R M a0 3)]) M1 Q)))) :
    sm_Run (d + 1) 116 69 [some (.inr (some a0)), some (.inr r1), some (.inl x2), z3] [.inl y0] M Q := by
  refine ru_go (t := (70, [some (.inr (some a0)), some (.inr r1), some (.inl x2), z3], [.inl 2, .inl y0], M)) sm_a116_69 rfl rfl (st_iconst (by decide)) ?_
  refine ru_icmp (pc := 70) (p := 77) (p2 := 73) sm_a116_70 (by decide) rfl ⟨fun hc_1 => ?_, fun hc_1 => ?_⟩
  · have h := h.1 hc_1
    refine ru_go (t := (78, [some (.inr (some a0)), some (.inr r1), some (.inl x2), z3], [.inl 0], M)) sm_a116_77 rfl rfl (st_iconst (by decide)) ?_
    refine ru_go (t := (79, [some (.inr (some a0)), some (.inr r1), some (.inl x2), some (.inl 0)], [], M)) sm_a116_78 rfl rfl rfl ?_
    refine ru_go (t := (80, [some (.inr (some a0)), some (.inr r1), some (.inl x2), some (.inl 0)], [.inr (some a0)], M)) sm_a116_79 rfl rfl rfl ?_
    obtain ⟨h_2, h⟩ := h
    refine ru_go (t := (83, [some (.inr (some a0)), some (.inr r1), some (.inl x2), some (.inl 0)], [.inr (sm_R M a0 3)], M)) sm_a116_80 rfl rfl (st_getR h_2 rfl rfl) ?_
    refine ru_go (t := (84, [some (.inr (some a0)), some (.inr r1), some (.inl x2), some (.inl 0)], [.inr (some a0), .inr (sm_R M a0 3)], M)) sm_a116_83 rfl rfl rfl ?_
    refine ru_go (t := (87, [some (.inr (some a0)), some (.inr r1), some (.inl x2), some (.inl 0)], [.inl (sm_I M a0 4), .inr (sm_R M a0 3)], M)) sm_a116_84 rfl rfl (st_getI h_2 rfl) ?_
    refine ru_go (t := (90, [some (.inr (some a0)), some (.inr r1), some (.inl x2), some (.inl 0)], [.inr (some (sm_N M)), .inl (sm_I M a0 4), .inr (sm_R M a0 3)], sm_new M 30 0 8)) sm_a116_87 rfl rfl rfl ?_
    refine ru_go (t := (91, [some (.inr (some a0)), some (.inr r1), some (.inl x2), some (.inl 0)], [.inr (some (sm_N M)), .inr (some (sm_N M)), .inl (sm_I M a0 4), .inr (sm_R M a0 3)], sm_new M 30 0 8)) sm_a116_90 rfl rfl rfl ?_
    refine ru_go (t := (92, [some (.inr (some a0)), some (.inr r1), some (.inl x2), some (.inl 0)], [.inr r1, .inr (some (sm_N M)), .inr (some (sm_N M)), .inl (sm_I M a0 4), .inr (sm_R M a0 3)], sm_new M 30 0 8)) sm_a116_91 rfl rfl rfl ?_
    refine ru_go (t := (93, [some (.inr (some a0)), some (.inr r1), some (.inl x2), some (.inl 0)], [.inl x2, .inr r1, .inr (some (sm_N M)), .inr (some (sm_N M)), .inl (sm_I M a0 4), .inr (sm_R M a0 3)], sm_new M 30 0 8)) sm_a116_92 rfl rfl rfl ?_
    refine ru_go (t := (94, [some (.inr (some a0)), some (.inr r1), some (.inl x2), some (.inl 0)], [.inl 2, .inl x2, .inr r1, .inr (some (sm_N M)), .inr (some (sm_N M)), .inl (sm_I M a0 4), .inr (sm_R M a0 3)], sm_new M 30 0 8)) sm_a116_93 rfl rfl (st_iconst (by decide)) ?_
    refine ru_go (t := (95, [some (.inr (some a0)), some (.inr r1), some (.inl x2), some (.inl 0)], [.inl (x2 + 2), .inr r1, .inr (some (sm_N M)), .inr (some (sm_N M)), .inl (sm_I M a0 4), .inr (sm_R M a0 3)], sm_new M 30 0 8)) sm_a116_94 rfl rfl rfl ?_
    obtain ⟨b_3, hb_4, h⟩ := h
    rw [hb_4]
    obtain ⟨h_5, h⟩ := h
    exact ru_call (p := 98) sm_a116_95 rfl (sc_virt (Or.inl rfl) rfl rfl h_5 (Nat.le_of_ble_eq_true rfl)) rfl h
  · have h := h.2 hc_1
    refine ru_go (t := (74, [some (.inr (some a0)), some (.inr r1), some (.inl x2), z3], [.inl 1], M)) sm_a116_73 rfl rfl (st_iconst (by decide)) ?_
    refine ru_go (t := (78, [some (.inr (some a0)), some (.inr r1), some (.inl x2), z3], [.inl 1], M)) sm_a116_74 rfl rfl (st_goto (pc := 74) (by decide)) ?_
    refine ru_go (t := (79, [some (.inr (some a0)), some (.inr r1), some (.inl x2), some (.inl 1)], [], M)) sm_a116_78 rfl rfl rfl ?_
    refine ru_go (t := (80, [some (.inr (some a0)), some (.inr r1), some (.inl x2), some (.inl 1)], [.inr (some a0)], M)) sm_a116_79 rfl rfl rfl ?_
    obtain ⟨h_6, h⟩ := h
    refine ru_go (t := (83, [some (.inr (some a0)), some (.inr r1), some (.inl x2), some (.inl 1)], [.inr (sm_R M a0 3)], M)) sm_a116_80 rfl rfl (st_getR h_6 rfl rfl) ?_
    refine ru_go (t := (84, [some (.inr (some a0)), some (.inr r1), some (.inl x2), some (.inl 1)], [.inr (some a0), .inr (sm_R M a0 3)], M)) sm_a116_83 rfl rfl rfl ?_
    refine ru_go (t := (87, [some (.inr (some a0)), some (.inr r1), some (.inl x2), some (.inl 1)], [.inl (sm_I M a0 4), .inr (sm_R M a0 3)], M)) sm_a116_84 rfl rfl (st_getI h_6 rfl) ?_
    refine ru_go (t := (90, [some (.inr (some a0)), some (.inr r1), some (.inl x2), some (.inl 1)], [.inr (some (sm_N M)), .inl (sm_I M a0 4), .inr (sm_R M a0 3)], sm_new M 30 0 8)) sm_a116_87 rfl rfl rfl ?_
    refine ru_go (t := (91, [some (.inr (some a0)), some (.inr r1), some (.inl x2), some (.inl 1)], [.inr (some (sm_N M)), .inr (some (sm_N M)), .inl (sm_I M a0 4), .inr (sm_R M a0 3)], sm_new M 30 0 8)) sm_a116_90 rfl rfl rfl ?_
    refine ru_go (t := (92, [some (.inr (some a0)), some (.inr r1), some (.inl x2), some (.inl 1)], [.inr r1, .inr (some (sm_N M)), .inr (some (sm_N M)), .inl (sm_I M a0 4), .inr (sm_R M a0 3)], sm_new M 30 0 8)) sm_a116_91 rfl rfl rfl ?_
    refine ru_go (t := (93, [some (.inr (some a0)), some (.inr r1), some (.inl x2), some (.inl 1)], [.inl x2, .inr r1, .inr (some (sm_N M)), .inr (some (sm_N M)), .inl (sm_I M a0 4), .inr (sm_R M a0 3)], sm_new M 30 0 8)) sm_a116_92 rfl rfl rfl ?_
    refine ru_go (t := (94, [some (.inr (some a0)), some (.inr r1), some (.inl x2), some (.inl 1)], [.inl 2, .inl x2, .inr r1, .inr (some (sm_N M)), .inr (some (sm_N M)), .inl (sm_I M a0 4), .inr (sm_R M a0 3)], sm_new M 30 0 8)) sm_a116_93 rfl rfl (st_iconst (by decide)) ?_
    refine ru_go (t := (95, [some (.inr (some a0)), some (.inr r1), some (.inl x2), some (.inl 1)], [.inl (x2 + 2), .inr r1, .inr (some (sm_N M)), .inr (some (sm_N M)), .inl (sm_I M a0 4), .inr (sm_R M a0 3)], sm_new M 30 0 8)) sm_a116_94 rfl rfl rfl ?_
    obtain ⟨b_7, hb_8, h⟩ := h
    rw [hb_8]
    obtain ⟨h_9, h⟩ := h
    exact ru_call (p := 98) sm_a116_95 rfl (sc_virt (Or.inl rfl) rfl rfl h_9 (Nat.le_of_ble_eq_true rfl)) rfl h
theorem bb_116_98 {d : Nat} {M : sm_M} {Q : Option sm_V → sm_M → Prop} {a0 : Nat} {r1 : Option Nat} {x2 : Int32} {x3 : Int32} {y0 : Int32} {t1 : Option Nat} {t2 : Option Nat} {y3 : Int32} {t4 : Option Nat}
    (h : ∃ b_1, r1 = some b_1 ∧ sm_K M b_1 = 33 ∧ sm_Run d 124 0 (sm_ent 124 [.inr (some b_1), .inl (x2 + 4)]) [] M (fun v M1 => sm_Run (d + 1) 116 106 [some (.inr (some a0)), some (.inr (some b_1)), some (.inl x2), some (.inl x3)] (v.toList ++ [.inl x3, .inl y0, .inr t1, .inr t2, .inl y3, .inr t4]) M1 Q)) :
    sm_Run (d + 1) 116 98 [some (.inr (some a0)), some (.inr r1), some (.inl x2), some (.inl x3)] [.inl y0, .inr t1, .inr t2, .inl y3, .inr t4] M Q := by
  refine ru_go (t := (99, [some (.inr (some a0)), some (.inr r1), some (.inl x2), some (.inl x3)], [.inl x3, .inl y0, .inr t1, .inr t2, .inl y3, .inr t4], M)) sm_a116_98 rfl rfl rfl ?_
  refine ru_go (t := (100, [some (.inr (some a0)), some (.inr r1), some (.inl x2), some (.inl x3)], [.inr r1, .inl x3, .inl y0, .inr t1, .inr t2, .inl y3, .inr t4], M)) sm_a116_99 rfl rfl rfl ?_
  refine ru_go (t := (101, [some (.inr (some a0)), some (.inr r1), some (.inl x2), some (.inl x3)], [.inl x2, .inr r1, .inl x3, .inl y0, .inr t1, .inr t2, .inl y3, .inr t4], M)) sm_a116_100 rfl rfl rfl ?_
  refine ru_go (t := (102, [some (.inr (some a0)), some (.inr r1), some (.inl x2), some (.inl x3)], [.inl 4, .inl x2, .inr r1, .inl x3, .inl y0, .inr t1, .inr t2, .inl y3, .inr t4], M)) sm_a116_101 rfl rfl (st_iconst (by decide)) ?_
  refine ru_go (t := (103, [some (.inr (some a0)), some (.inr r1), some (.inl x2), some (.inl x3)], [.inl (x2 + 4), .inr r1, .inl x3, .inl y0, .inr t1, .inr t2, .inl y3, .inr t4], M)) sm_a116_102 rfl rfl rfl ?_
  obtain ⟨b_1, hb_2, h⟩ := h
  rw [hb_2]
  obtain ⟨h_3, h⟩ := h
  exact ru_call (p := 106) sm_a116_103 rfl (sc_virt (Or.inl rfl) rfl rfl h_3 (Nat.le_of_ble_eq_true rfl)) rfl h
theorem bb_116_106 {d : Nat} {M : sm_M} {Q : Option sm_V → sm_M → Prop} {a0 : Nat} {r1 : Option Nat} {x2 : Int32} {x3 : Int32} {y0 : Int32} {y1 : Int32} {y2 : Int32} {t3 : Option Nat} {t4 : Option Nat} {y5 : Int32} {t6 : Option Nat}
    (h : ∃ b_1, r1 = some b_1 ∧ sm_K M b_1 = 33 ∧ sm_Run d 124 0 (sm_ent 124 [.inr (some b_1), .inl (x2 + 6)]) [] M (fun v M1 => sm_Run (d + 1) 116 114 [some (.inr (some a0)), some (.inr (some b_1)), some (.inl x2), some (.inl x3)] (v.toList ++ [.inl y0, .inl y1, .inl y2, .inr t3, .inr t4, .inl y5, .inr t6]) M1 Q)) :
    sm_Run (d + 1) 116 106 [some (.inr (some a0)), some (.inr r1), some (.inl x2), some (.inl x3)] [.inl y0, .inl y1, .inl y2, .inr t3, .inr t4, .inl y5, .inr t6] M Q := by
  refine ru_go (t := (107, [some (.inr (some a0)), some (.inr r1), some (.inl x2), some (.inl x3)], [.inr r1, .inl y0, .inl y1, .inl y2, .inr t3, .inr t4, .inl y5, .inr t6], M)) sm_a116_106 rfl rfl rfl ?_
  refine ru_go (t := (108, [some (.inr (some a0)), some (.inr r1), some (.inl x2), some (.inl x3)], [.inl x2, .inr r1, .inl y0, .inl y1, .inl y2, .inr t3, .inr t4, .inl y5, .inr t6], M)) sm_a116_107 rfl rfl rfl ?_
  refine ru_go (t := (110, [some (.inr (some a0)), some (.inr r1), some (.inl x2), some (.inl x3)], [.inl 6, .inl x2, .inr r1, .inl y0, .inl y1, .inl y2, .inr t3, .inr t4, .inl y5, .inr t6], M)) sm_a116_108 rfl rfl (st_bipush (by decide)) ?_
  refine ru_go (t := (111, [some (.inr (some a0)), some (.inr r1), some (.inl x2), some (.inl x3)], [.inl (x2 + 6), .inr r1, .inl y0, .inl y1, .inl y2, .inr t3, .inr t4, .inl y5, .inr t6], M)) sm_a116_110 rfl rfl rfl ?_
  obtain ⟨b_1, hb_2, h⟩ := h
  rw [hb_2]
  obtain ⟨h_3, h⟩ := h
  exact ru_call (p := 114) sm_a116_111 rfl (sc_virt (Or.inl rfl) rfl rfl h_3 (Nat.le_of_ble_eq_true rfl)) rfl h
theorem bb_116_114 {d : Nat} {M : sm_M} {Q : Option sm_V → sm_M → Prop} {a0 : Nat} {r1 : Option Nat} {x2 : Int32} {x3 : Int32} {y0 : Int32} {y1 : Int32} {y2 : Int32} {y3 : Int32} {t4 : Option Nat} {t5 : Option Nat} {y6 : Int32} {t7 : Option Nat}
    (h : ∃ b_1, t4 = some b_1 ∧ sm_Run d 118 0 (sm_ent 118 [.inr (some b_1), .inl y3, .inl y2, .inl y1, .inl y0]) [] M (fun v M1 => sm_Run (d + 1) 116 117 [some (.inr (some a0)), some (.inr r1), some (.inl x2), some (.inl x3)] (v.toList ++ [.inr t5, .inl y6, .inr t7]) M1 Q)) :
    sm_Run (d + 1) 116 114 [some (.inr (some a0)), some (.inr r1), some (.inl x2), some (.inl x3)] [.inl y0, .inl y1, .inl y2, .inl y3, .inr t4, .inr t5, .inl y6, .inr t7] M Q := by
  obtain ⟨b_1, hb_2, h⟩ := h
  rw [hb_2]
  exact ru_call (p := 117) sm_a116_114 rfl (sc_spec (Or.inl rfl) rfl rfl (Nat.le_of_ble_eq_true rfl)) rfl h
theorem bb_116_117 {d : Nat} {M : sm_M} {Q : Option sm_V → sm_M → Prop} {a0 : Nat} {r1 : Option Nat} {x2 : Int32} {x3 : Int32} {t0 : Option Nat} {y1 : Int32} {t2 : Option Nat}
    (h : ∃ b_1, t2 = some b_1 ∧ (∃ ci, sm_K M b_1 = 4 + 3 * ci ∧ sm_grp (4 + 3 * ci) = 0 ∧ ∀ q, t0 = some q → sm_K M q = 3 + 3 * ci) ∧ sm_in_ M b_1 y1 ∧ sm_K M a0 = 27 ∧ sm_Run (d + 1) 116 21 [some (.inr (some a0)), some (.inr r1), some (.inl (x2 + 7)), some (.inl x3)] [] (sm_putI (sm_putR M b_1 (y1).toNatClampNeg t0) a0 4 ((sm_I (sm_putR M b_1 (y1).toNatClampNeg t0) a0 4) + 1)) Q) :
    sm_Run (d + 1) 116 117 [some (.inr (some a0)), some (.inr r1), some (.inl x2), some (.inl x3)] [.inr t0, .inl y1, .inr t2] M Q := by
  obtain ⟨b_1, hb_2, h⟩ := h
  rw [hb_2]
  obtain ⟨⟨ci_4, h_3, h_5, h_6⟩, h⟩ := h
  obtain ⟨h_7, h⟩ := h
  refine ru_go (t := (118, [some (.inr (some a0)), some (.inr r1), some (.inl x2), some (.inl x3)], [], sm_putR M b_1 (y1).toNatClampNeg t0)) sm_a116_117 rfl rfl (st_aast h_3 h_5 h_7 h_6) ?_
  refine ru_go (t := (119, [some (.inr (some a0)), some (.inr r1), some (.inl x2), some (.inl x3)], [.inr (some a0)], sm_putR M b_1 (y1).toNatClampNeg t0)) sm_a116_118 rfl rfl rfl ?_
  refine ru_go (t := (120, [some (.inr (some a0)), some (.inr r1), some (.inl x2), some (.inl x3)], [.inr (some a0), .inr (some a0)], sm_putR M b_1 (y1).toNatClampNeg t0)) sm_a116_119 rfl rfl rfl ?_
  obtain ⟨h_8, h⟩ := h
  refine ru_go (t := (123, [some (.inr (some a0)), some (.inr r1), some (.inl x2), some (.inl x3)], [.inl (sm_I (sm_putR M b_1 (y1).toNatClampNeg t0) a0 4), .inr (some a0)], sm_putR M b_1 (y1).toNatClampNeg t0)) sm_a116_120 rfl rfl (st_getI h_8 rfl) ?_
  refine ru_go (t := (124, [some (.inr (some a0)), some (.inr r1), some (.inl x2), some (.inl x3)], [.inl 1, .inl (sm_I (sm_putR M b_1 (y1).toNatClampNeg t0) a0 4), .inr (some a0)], sm_putR M b_1 (y1).toNatClampNeg t0)) sm_a116_123 rfl rfl (st_iconst (by decide)) ?_
  refine ru_go (t := (125, [some (.inr (some a0)), some (.inr r1), some (.inl x2), some (.inl x3)], [.inl ((sm_I (sm_putR M b_1 (y1).toNatClampNeg t0) a0 4) + 1), .inr (some a0)], sm_putR M b_1 (y1).toNatClampNeg t0)) sm_a116_124 rfl rfl rfl ?_
  refine ru_go (t := (128, [some (.inr (some a0)), some (.inr r1), some (.inl x2), some (.inl x3)], [], sm_putI (sm_putR M b_1 (y1).toNatClampNeg t0) a0 4 ((sm_I (sm_putR M b_1 (y1).toNatClampNeg t0) a0 4) + 1))) sm_a116_125 rfl rfl (st_putI h_8 rfl) ?_
  refine ru_go (t := (131, [some (.inr (some a0)), some (.inr r1), some (.inl (x2 + 7)), some (.inl x3)], [], sm_putI (sm_putR M b_1 (y1).toNatClampNeg t0) a0 4 ((sm_I (sm_putR M b_1 (y1).toNatClampNeg t0) a0 4) + 1))) sm_a116_128 rfl rfl (st_iinc rfl (by decide)) ?_
  refine ru_go (t := (21, [some (.inr (some a0)), some (.inr r1), some (.inl (x2 + 7)), some (.inl x3)], [], sm_putI (sm_putR M b_1 (y1).toNatClampNeg t0) a0 4 ((sm_I (sm_putR M b_1 (y1).toNatClampNeg t0) a0 4) + 1))) sm_a116_131 rfl rfl (st_goto (pc := 131) (by decide)) ?_
  exact h

/-! WireBus$Peer.clear:(LWireBus$Transfer;)V -/
theorem sm_a117_0 : sm_at 117 0 = some (.aload_n 1, 1, (0, 0, 0, 0)) := by decide +kernel
theorem sm_a117_1 : sm_at 117 1 = some (.getfield 50, 3, (10, 5, 1, 633)) := by decide +kernel
theorem sm_a117_4 : sm_at 117 4 = some (.bipush 9, 2, (0, 0, 0, 0)) := by decide +kernel
theorem sm_a117_6 : sm_at 117 6 = some (.if_icmp .ne 39, 3, (0, 0, 0, 0)) := by decide +kernel
theorem sm_a117_9 : sm_at 117 9 = some (.aload_n 1, 1, (0, 0, 0, 0)) := by decide +kernel
theorem sm_a117_10 : sm_at 117 10 = some (.getfield 55, 3, (10, 6, 1, 635)) := by decide +kernel
theorem sm_a117_13 : sm_at 117 13 = some (.iconst 1, 1, (0, 0, 0, 0)) := by decide +kernel
theorem sm_a117_14 : sm_at 117 14 = some (.if_icmp .ne 31, 3, (0, 0, 0, 0)) := by decide +kernel
theorem sm_a117_17 : sm_at 117 17 = some (.iconst 0, 1, (0, 0, 0, 0)) := by decide +kernel
theorem sm_a117_18 : sm_at 117 18 = some (.istore_n 2, 1, (0, 0, 0, 0)) := by decide +kernel
theorem sm_a117_19 : sm_at 117 19 = some (.iload_n 2, 1, (0, 0, 0, 0)) := by decide +kernel
theorem sm_a117_20 : sm_at 117 20 = some (.aload_n 0, 1, (0, 0, 0, 0)) := by decide +kernel
theorem sm_a117_21 : sm_at 117 21 = some (.getfield 28, 3, (8, 4, 0, 407)) := by decide +kernel
theorem sm_a117_24 : sm_at 117 24 = some (.if_icmp .ge 18, 3, (0, 0, 0, 0)) := by decide +kernel
theorem sm_a117_27 : sm_at 117 27 = some (.aload_n 0, 1, (0, 0, 0, 0)) := by decide +kernel
theorem sm_a117_28 : sm_at 117 28 = some (.getfield 20, 3, (8, 3, 0, 406)) := by decide +kernel
theorem sm_a117_31 : sm_at 117 31 = some (.iload_n 2, 1, (0, 0, 0, 0)) := by decide +kernel
theorem sm_a117_32 : sm_at 117 32 = some (.aaload, 1, (0, 0, 0, 0)) := by decide +kernel
theorem sm_a117_33 : sm_at 117 33 = some (.invokevirtual 58, 3, (10, 119, 9, 1104)) := by decide +kernel
theorem sm_a117_36 : sm_at 117 36 = some (.iinc 2 1, 3, (0, 0, 0, 0)) := by decide +kernel
theorem sm_a117_39 : sm_at 117 39 = some (.goto (-20), 3, (0, 0, 0, 0)) := by decide +kernel
theorem sm_a117_42 : sm_at 117 42 = some (.goto 41, 3, (0, 0, 0, 0)) := by decide +kernel
theorem sm_a117_45 : sm_at 117 45 = some (.aload_n 1, 1, (0, 0, 0, 0)) := by decide +kernel
theorem sm_a117_46 : sm_at 117 46 = some (.getfield 50, 3, (10, 5, 1, 633)) := by decide +kernel
theorem sm_a117_49 : sm_at 117 49 = some (.sipush 513, 3, (0, 0, 0, 0)) := by decide +kernel
theorem sm_a117_52 : sm_at 117 52 = some (.if_icmp .ne 31, 3, (0, 0, 0, 0)) := by decide +kernel
theorem sm_a117_55 : sm_at 117 55 = some (.aload_n 1, 1, (0, 0, 0, 0)) := by decide +kernel
theorem sm_a117_56 : sm_at 117 56 = some (.getfield 55, 3, (10, 6, 1, 635)) := by decide +kernel
theorem sm_a117_59 : sm_at 117 59 = some (.ifCond .ne 24, 3, (0, 0, 0, 0)) := by decide +kernel
theorem sm_a117_62 : sm_at 117 62 = some (.aload_n 0, 1, (0, 0, 0, 0)) := by decide +kernel
theorem sm_a117_63 : sm_at 117 63 = some (.aload_n 1, 1, (0, 0, 0, 0)) := by decide +kernel
theorem sm_a117_64 : sm_at 117 64 = some (.getfield 61, 3, (10, 7, 1, 637)) := by decide +kernel
theorem sm_a117_67 : sm_at 117 67 = some (.sipush 255, 3, (0, 0, 0, 0)) := by decide +kernel
theorem sm_a117_70 : sm_at 117 70 = some (.iand, 1, (0, 0, 0, 0)) := by decide +kernel
theorem sm_a117_71 : sm_at 117 71 = some (.invokevirtual 64, 3, (10, 114, 8, 1108)) := by decide +kernel
theorem sm_a117_74 : sm_at 117 74 = some (.astore_n 2, 1, (0, 0, 0, 0)) := by decide +kernel
theorem sm_a117_75 : sm_at 117 75 = some (.aload_n 2, 1, (0, 0, 0, 0)) := by decide +kernel
theorem sm_a117_76 : sm_at 117 76 = some (.ifnull 7, 3, (0, 0, 0, 0)) := by decide +kernel
theorem sm_a117_79 : sm_at 117 79 = some (.aload_n 2, 1, (0, 0, 0, 0)) := by decide +kernel
theorem sm_a117_80 : sm_at 117 80 = some (.invokevirtual 58, 3, (10, 119, 9, 1104)) := by decide +kernel
theorem sm_a117_83 : sm_at 117 83 = some (.return_, 1, (0, 0, 0, 0)) := by decide +kernel
theorem bb_117_0 {d : Nat} {M : sm_M} {Q : Option sm_V → sm_M → Prop} {a0 : Nat} {r1 : Option Nat} {z2 : Option sm_V}
    (h : ∃ b_1, r1 = some b_1 ∧ sm_K M b_1 = 33 ∧ ((¬ (sm_I M b_1 5) = 9 → sm_Run (d + 1) 117 45 [some (.inr (some a0)), some (.inr (some b_1)), z2] [] M Q) ∧ (¬ (¬ (sm_I M b_1 5) = 9) → ((¬ (sm_I M b_1 6) = 1 → sm_Run (d + 1) 117 45 [some (.inr (some a0)), some (.inr (some b_1)), z2] [] M Q) ∧ (¬ (¬ (sm_I M b_1 6) = 1) → sm_Run (d + 1) 117 19 [some (.inr (some a0)), some (.inr (some b_1)), some (.inl 0)] [] M Q))))) :
    sm_Run (d + 1) 117 0 [some (.inr (some a0)), some (.inr r1), z2] [] M Q := by
  refine ru_go (t := (1, [some (.inr (some a0)), some (.inr r1), z2], [.inr r1], M)) sm_a117_0 rfl rfl rfl ?_
  obtain ⟨b_1, hb_2, h⟩ := h
  rw [hb_2]
  obtain ⟨h_3, h⟩ := h
  refine ru_go (t := (4, [some (.inr (some a0)), some (.inr (some b_1)), z2], [.inl (sm_I M b_1 5)], M)) sm_a117_1 rfl rfl (st_getI h_3 rfl) ?_
  refine ru_go (t := (6, [some (.inr (some a0)), some (.inr (some b_1)), z2], [.inl 9, .inl (sm_I M b_1 5)], M)) sm_a117_4 rfl rfl (st_bipush (by decide)) ?_
  refine ru_icmp (pc := 6) (p := 45) (p2 := 9) sm_a117_6 (by decide) rfl ⟨fun hc_4 => ?_, fun hc_4 => ?_⟩
  · have h := h.1 hc_4
    exact h
  · have h := h.2 hc_4
    refine ru_go (t := (10, [some (.inr (some a0)), some (.inr (some b_1)), z2], [.inr (some b_1)], M)) sm_a117_9 rfl rfl rfl ?_
    refine ru_go (t := (13, [some (.inr (some a0)), some (.inr (some b_1)), z2], [.inl (sm_I M b_1 6)], M)) sm_a117_10 rfl rfl (st_getI h_3 rfl) ?_
    refine ru_go (t := (14, [some (.inr (some a0)), some (.inr (some b_1)), z2], [.inl 1, .inl (sm_I M b_1 6)], M)) sm_a117_13 rfl rfl (st_iconst (by decide)) ?_
    refine ru_icmp (pc := 14) (p := 45) (p2 := 17) sm_a117_14 (by decide) rfl ⟨fun hc_5 => ?_, fun hc_5 => ?_⟩
    · have h := h.1 hc_5
      exact h
    · have h := h.2 hc_5
      refine ru_go (t := (18, [some (.inr (some a0)), some (.inr (some b_1)), z2], [.inl 0], M)) sm_a117_17 rfl rfl (st_iconst (by decide)) ?_
      refine ru_go (t := (19, [some (.inr (some a0)), some (.inr (some b_1)), some (.inl 0)], [], M)) sm_a117_18 rfl rfl rfl ?_
      exact h
theorem bb_117_19 {d : Nat} {M : sm_M} {Q : Option sm_V → sm_M → Prop} {a0 : Nat} {r1 : Option Nat} {x2 : Int32}
    (h : sm_K M a0 = 27 ∧ (((sm_I M a0 4) ≤ x2 → Q none M) ∧ (¬ ((sm_I M a0 4) ≤ x2) → ∃ b_3, sm_R M a0 3 = some b_3 ∧ (∃ ci, sm_K M b_3 = 4 + 3 * ci) ∧ sm_in_ M b_3 x2 ∧ ∃ b_7, sm_R M b_3 (x2).toNatClampNeg = some b_7 ∧ sm_K M b_7 = 30 ∧ sm_Run d 119 0 (sm_ent 119 [.inr (some b_7)]) [] M (fun v M1 => sm_Run (d + 1) 117 36 [some (.inr (some a0)), some (.inr r1), some (.inl x2)] (v.toList ++ []) M1 Q)))) :
    sm_Run (d + 1) 117 19 [some (.inr (some a0)), some (.inr r1), some (.inl x2)] [] M Q := by
  refine ru_go (t := (20, [some (.inr (some a0)), some (.inr r1), some (.inl x2)], [.inl x2], M)) sm_a117_19 rfl rfl rfl ?_
  refine ru_go (t := (21, [some (.inr (some a0)), some (.inr r1), some (.inl x2)], [.inr (some a0), .inl x2], M)) sm_a117_20 rfl rfl rfl ?_
  obtain ⟨h_1, h⟩ := h
  refine ru_go (t := (24, [some (.inr (some a0)), some (.inr r1), some (.inl x2)], [.inl (sm_I M a0 4), .inl x2], M)) sm_a117_21 rfl rfl (st_getI h_1 rfl) ?_
  refine ru_icmp (pc := 24) (p := 42) (p2 := 27) sm_a117_24 (by decide) rfl ⟨fun hc_2 => ?_, fun hc_2 => ?_⟩
  · have h := h.1 hc_2
    refine ru_go (t := (83, [some (.inr (some a0)), some (.inr r1), some (.inl x2)], [], M)) sm_a117_42 rfl rfl (st_goto (pc := 42) (by decide)) ?_
    exact ru_ret sm_a117_83 (sm_rvv rfl) h
  · have h := h.2 hc_2
    refine ru_go (t := (28, [some (.inr (some a0)), some (.inr r1), some (.inl x2)], [.inr (some a0)], M)) sm_a117_27 rfl rfl rfl ?_
    refine ru_go (t := (31, [some (.inr (some a0)), some (.inr r1), some (.inl x2)], [.inr (sm_R M a0 3)], M)) sm_a117_28 rfl rfl (st_getR h_1 rfl rfl) ?_
    refine ru_go (t := (32, [some (.inr (some a0)), some (.inr r1), some (.inl x2)], [.inl x2, .inr (sm_R M a0 3)], M)) sm_a117_31 rfl rfl rfl ?_
    obtain ⟨b_3, hb_4, h⟩ := h
    rw [hb_4]
    obtain ⟨h_5, h⟩ := h
    obtain ⟨h_6, h⟩ := h
    refine ru_go (t := (33, [some (.inr (some a0)), some (.inr r1), some (.inl x2)], [.inr (sm_R M b_3 (x2).toNatClampNeg)], M)) sm_a117_32 rfl rfl (st_aald h_5.choose_spec h_6 rfl) ?_
    obtain ⟨b_7, hb_8, h⟩ := h
    rw [hb_8]
    obtain ⟨h_9, h⟩ := h
    exact ru_call (p := 36) sm_a117_33 rfl (sc_virt (Or.inl rfl) rfl rfl h_9 (Nat.le_of_ble_eq_true rfl)) rfl h
theorem bb_117_36 {d : Nat} {M : sm_M} {Q : Option sm_V → sm_M → Prop} {a0 : Nat} {r1 : Option Nat} {x2 : Int32}
    (h : sm_Run (d + 1) 117 19 [some (.inr (some a0)), some (.inr r1), some (.inl (x2 + 1))] [] M Q) :
    sm_Run (d + 1) 117 36 [some (.inr (some a0)), some (.inr r1), some (.inl x2)] [] M Q := by
  refine ru_go (t := (39, [some (.inr (some a0)), some (.inr r1), some (.inl (x2 + 1))], [], M)) sm_a117_36 rfl rfl (st_iinc rfl (by decide)) ?_
  refine ru_go (t := (19, [some (.inr (some a0)), some (.inr r1), some (.inl (x2 + 1))], [], M)) sm_a117_39 rfl rfl (st_goto (pc := 39) (by decide)) ?_
  exact h
theorem bb_117_45 {d : Nat} {M : sm_M} {Q : Option sm_V → sm_M → Prop} {a0 : Nat} {r1 : Option Nat} {z2 : Option sm_V}
    (h : ∃ b_1, r1 = some b_1 ∧ sm_K M b_1 = 33 ∧ ((¬ (sm_I M b_1 5) = 513 → Q none M) ∧ (¬ (¬ (sm_I M b_1 5) = 513) → ((¬ (sm_I M b_1 6) = 0 → Q none M) ∧ (¬ (¬ (sm_I M b_1 6) = 0) → sm_K M a0 = 27 ∧ sm_Run d 114 0 (sm_ent 114 [.inr (some a0), .inl ((sm_I M b_1 7) &&& 255)]) [] M (fun v M1 => sm_Run (d + 1) 117 74 [some (.inr (some a0)), some (.inr (some b_1)), z2] (v.toList ++ []) M1 Q)))))) :
    sm_Run (d + 1) 117 45 [some (.inr (some a0)), some (.inr r1), z2] [] M Q := by
  refine ru_go (t := (46, [some (.inr (some a0)), some (.inr r1), z2], [.inr r1], M)) sm_a117_45 rfl rfl rfl ?_
  obtain ⟨b_1, hb_2, h⟩ := h
  rw [hb_2]
  obtain ⟨h_3, h⟩ := h
  refine ru_go (t := (49, [some (.inr (some a0)), some (.inr (some b_1)), z2], [.inl (sm_I M b_1 5)], M)) sm_a117_46 rfl rfl (st_getI h_3 rfl) ?_
  refine ru_go (t := (52, [some (.inr (some a0)), some (.inr (some b_1)), z2], [.inl 513, .inl (sm_I M b_1 5)], M)) sm_a117_49 rfl rfl (st_sipush (by decide)) ?_
  refine ru_icmp (pc := 52) (p := 83) (p2 := 55) sm_a117_52 (by decide) rfl ⟨fun hc_4 => ?_, fun hc_4 => ?_⟩
  · have h := h.1 hc_4
    exact ru_ret sm_a117_83 (sm_rvv rfl) h
  · have h := h.2 hc_4
    refine ru_go (t := (56, [some (.inr (some a0)), some (.inr (some b_1)), z2], [.inr (some b_1)], M)) sm_a117_55 rfl rfl rfl ?_
    refine ru_go (t := (59, [some (.inr (some a0)), some (.inr (some b_1)), z2], [.inl (sm_I M b_1 6)], M)) sm_a117_56 rfl rfl (st_getI h_3 rfl) ?_
    refine ru_if (pc := 59) (p := 83) (p2 := 62) sm_a117_59 (by decide) rfl ⟨fun hc_5 => ?_, fun hc_5 => ?_⟩
    · have h := h.1 hc_5
      exact ru_ret sm_a117_83 (sm_rvv rfl) h
    · have h := h.2 hc_5
      refine ru_go (t := (63, [some (.inr (some a0)), some (.inr (some b_1)), z2], [.inr (some a0)], M)) sm_a117_62 rfl rfl rfl ?_
      refine ru_go (t := (64, [some (.inr (some a0)), some (.inr (some b_1)), z2], [.inr (some b_1), .inr (some a0)], M)) sm_a117_63 rfl rfl rfl ?_
      refine ru_go (t := (67, [some (.inr (some a0)), some (.inr (some b_1)), z2], [.inl (sm_I M b_1 7), .inr (some a0)], M)) sm_a117_64 rfl rfl (st_getI h_3 rfl) ?_
      refine ru_go (t := (70, [some (.inr (some a0)), some (.inr (some b_1)), z2], [.inl 255, .inl (sm_I M b_1 7), .inr (some a0)], M)) sm_a117_67 rfl rfl (st_sipush (by decide)) ?_
      refine ru_go (t := (71, [some (.inr (some a0)), some (.inr (some b_1)), z2], [.inl ((sm_I M b_1 7) &&& 255), .inr (some a0)], M)) sm_a117_70 rfl rfl rfl ?_
      obtain ⟨h_6, h⟩ := h
      exact ru_call (p := 74) sm_a117_71 rfl (sc_virt (Or.inl rfl) rfl rfl h_6 (Nat.le_of_ble_eq_true rfl)) rfl h
theorem bb_117_74 {d : Nat} {M : sm_M} {Q : Option sm_V → sm_M → Prop} {a0 : Nat} {r1 : Option Nat} {z2 : Option sm_V} {t0 : Option Nat}
    (h : ((t0 = none → Q none M) ∧ (∀ b_1, t0 = some b_1 → sm_K M b_1 = 30 ∧ sm_Run d 119 0 (sm_ent 119 [.inr (some b_1)]) [] M (fun v M1 => sm_Run (d + 1) 117 83 [some (.inr (some a0)), some (.inr r1), some (.inr (some b_1))] (v.toList ++ []) M1 Q)))) :
    sm_Run (d + 1) 117 74 [some (.inr (some a0)), some (.inr r1), z2] [.inr t0] M Q := by
  refine ru_go (t := (75, [some (.inr (some a0)), some (.inr r1), some (.inr t0)], [], M)) sm_a117_74 rfl rfl rfl ?_
  refine ru_go (t := (76, [some (.inr (some a0)), some (.inr r1), some (.inr t0)], [.inr t0], M)) sm_a117_75 rfl rfl rfl ?_
  refine ru_ifnull (pc := 76) (p := 83) (p2 := 79) sm_a117_76 (by decide) rfl ⟨fun hc => ?_, fun b_1 hc => ?_⟩
  · have h := h.1 hc
    try rw [hc]
    exact ru_ret sm_a117_83 (sm_rvv rfl) h
  · have h := h.2 b_1 hc
    try rw [hc]
    refine ru_go (t := (80, [some (.inr (some a0)), some (.inr r1), some (.inr (some b_1))], [.inr (some b_1)], M)) sm_a117_79 rfl rfl rfl ?_
    obtain ⟨h_3, h⟩ := h
    exact ru_call (p := 83) sm_a117_80 rfl (sc_virt (Or.inl rfl) rfl rfl h_3 (Nat.le_of_ble_eq_true rfl)) rfl h
theorem bb_117_83 {d : Nat} {M : sm_M} {Q : Option sm_V → sm_M → Prop} {a0 : Nat} {r1 : Option Nat} {z2 : Option sm_V}
    (h : Q none M) :
    sm_Run (d + 1) 117 83 [some (.inr (some a0)), some (.inr r1), z2] [] M Q := by
  exact ru_ret sm_a117_83 (sm_rvv rfl) h
