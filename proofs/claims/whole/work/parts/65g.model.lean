/-! WireBusModel.put:(III)I -/
theorem sm_a200_0 : sm_at 200 0 = some (.aload_n 0, 1, (0, 0, 0, 0)) := by decide +kernel
theorem sm_a200_1 : sm_at 200 1 = some (.iload_n 1, 1, (0, 0, 0, 0)) := by decide +kernel
theorem sm_a200_2 : sm_at 200 2 = some (.iload_n 2, 1, (0, 0, 0, 0)) := by decide +kernel
theorem sm_a200_3 : sm_at 200 3 = some (.invokevirtual 296, 3, (10, 155, 12, 1470)) := by decide +kernel
theorem sm_a200_6 : sm_at 200 6 = some (.istore 4, 2, (0, 0, 0, 0)) := by decide +kernel
theorem sm_a200_8 : sm_at 200 8 = some (.iload_n 3, 1, (0, 0, 0, 0)) := by decide +kernel
theorem sm_a200_9 : sm_at 200 9 = some (.ifCond .lt 24, 3, (0, 0, 0, 0)) := by decide +kernel
theorem sm_a200_12 : sm_at 200 12 = some (.iload_n 3, 1, (0, 0, 0, 0)) := by decide +kernel
theorem sm_a200_13 : sm_at 200 13 = some (.aload_n 0, 1, (0, 0, 0, 0)) := by decide +kernel
theorem sm_a200_14 : sm_at 200 14 = some (.getfield 239, 3, (12, 3, 0, 1186)) := by decide +kernel
theorem sm_a200_17 : sm_at 200 17 = some (.if_icmp .gt 16, 3, (0, 0, 0, 0)) := by decide +kernel
theorem sm_a200_20 : sm_at 200 20 = some (.iload 4, 2, (0, 0, 0, 0)) := by decide +kernel
theorem sm_a200_22 : sm_at 200 22 = some (.iconst (-1), 1, (0, 0, 0, 0)) := by decide +kernel
theorem sm_a200_23 : sm_at 200 23 = some (.if_icmp .eq 10, 3, (0, 0, 0, 0)) := by decide +kernel
theorem sm_a200_26 : sm_at 200 26 = some (.iload_n 2, 1, (0, 0, 0, 0)) := by decide +kernel
theorem sm_a200_27 : sm_at 200 27 = some (.sipush 128, 3, (0, 0, 0, 0)) := by decide +kernel
theorem sm_a200_30 : sm_at 200 30 = some (.if_icmp .ge 5, 3, (0, 0, 0, 0)) := by decide +kernel
theorem sm_a200_33 : sm_at 200 33 = some (.iconst (-1), 1, (0, 0, 0, 0)) := by decide +kernel
theorem sm_a200_34 : sm_at 200 34 = some (.ireturn, 1, (0, 0, 0, 0)) := by decide +kernel
theorem sm_a200_35 : sm_at 200 35 = some (.aload_n 0, 1, (0, 0, 0, 0)) := by decide +kernel
theorem sm_a200_36 : sm_at 200 36 = some (.getfield 16, 3, (12, 4, 0, 1187)) := by decide +kernel
theorem sm_a200_39 : sm_at 200 39 = some (.iload_n 1, 1, (0, 0, 0, 0)) := by decide +kernel
theorem sm_a200_40 : sm_at 200 40 = some (.iaload, 1, (0, 0, 0, 0)) := by decide +kernel
theorem sm_a200_41 : sm_at 200 41 = some (.ifCond .eq 18, 3, (0, 0, 0, 0)) := by decide +kernel
theorem sm_a200_44 : sm_at 200 44 = some (.aload_n 0, 1, (0, 0, 0, 0)) := by decide +kernel
theorem sm_a200_45 : sm_at 200 45 = some (.getfield 50, 3, (12, 15, 0, 1198)) := by decide +kernel
theorem sm_a200_48 : sm_at 200 48 = some (.iload 4, 2, (0, 0, 0, 0)) := by decide +kernel
theorem sm_a200_50 : sm_at 200 50 = some (.iaload, 1, (0, 0, 0, 0)) := by decide +kernel
theorem sm_a200_51 : sm_at 200 51 = some (.iload_n 3, 1, (0, 0, 0, 0)) := by decide +kernel
theorem sm_a200_52 : sm_at 200 52 = some (.iadd, 1, (0, 0, 0, 0)) := by decide +kernel
theorem sm_a200_53 : sm_at 200 53 = some (.sipush 256, 3, (0, 0, 0, 0)) := by decide +kernel
theorem sm_a200_56 : sm_at 200 56 = some (.if_icmp .le 5, 3, (0, 0, 0, 0)) := by decide +kernel
theorem sm_a200_59 : sm_at 200 59 = some (.iconst (-1), 1, (0, 0, 0, 0)) := by decide +kernel
theorem sm_a200_60 : sm_at 200 60 = some (.ireturn, 1, (0, 0, 0, 0)) := by decide +kernel
theorem sm_a200_61 : sm_at 200 61 = some (.iconst 0, 1, (0, 0, 0, 0)) := by decide +kernel
theorem sm_a200_62 : sm_at 200 62 = some (.istore 5, 2, (0, 0, 0, 0)) := by decide +kernel
theorem sm_a200_64 : sm_at 200 64 = some (.iload 5, 2, (0, 0, 0, 0)) := by decide +kernel
theorem sm_a200_66 : sm_at 200 66 = some (.iload_n 3, 1, (0, 0, 0, 0)) := by decide +kernel
theorem sm_a200_67 : sm_at 200 67 = some (.if_icmp .ge 38, 3, (0, 0, 0, 0)) := by decide +kernel
theorem sm_a200_70 : sm_at 200 70 = some (.aload_n 0, 1, (0, 0, 0, 0)) := by decide +kernel
theorem sm_a200_71 : sm_at 200 71 = some (.getfield 56, 3, (12, 17, 0, 1200)) := by decide +kernel
theorem sm_a200_74 : sm_at 200 74 = some (.sipush 256, 3, (0, 0, 0, 0)) := by decide +kernel
theorem sm_a200_77 : sm_at 200 77 = some (.iload 4, 2, (0, 0, 0, 0)) := by decide +kernel
theorem sm_a200_79 : sm_at 200 79 = some (.imul, 1, (0, 0, 0, 0)) := by decide +kernel
theorem sm_a200_80 : sm_at 200 80 = some (.aload_n 0, 1, (0, 0, 0, 0)) := by decide +kernel
theorem sm_a200_81 : sm_at 200 81 = some (.getfield 50, 3, (12, 15, 0, 1198)) := by decide +kernel
theorem sm_a200_84 : sm_at 200 84 = some (.iload 4, 2, (0, 0, 0, 0)) := by decide +kernel
theorem sm_a200_86 : sm_at 200 86 = some (.iaload, 1, (0, 0, 0, 0)) := by decide +kernel
theorem sm_a200_87 : sm_at 200 87 = some (.iadd, 1, (0, 0, 0, 0)) := by decide +kernel
theorem sm_a200_88 : sm_at 200 88 = some (.iload 5, 2, (0, 0, 0, 0)) := by decide +kernel
theorem sm_a200_90 : sm_at 200 90 = some (.iadd, 1, (0, 0, 0, 0)) := by decide +kernel
theorem sm_a200_91 : sm_at 200 91 = some (.aload_n 0, 1, (0, 0, 0, 0)) := by decide +kernel
theorem sm_a200_92 : sm_at 200 92 = some (.getfield 13, 3, (12, 2, 0, 1185)) := by decide +kernel
theorem sm_a200_95 : sm_at 200 95 = some (.iload 5, 2, (0, 0, 0, 0)) := by decide +kernel
theorem sm_a200_97 : sm_at 200 97 = some (.iaload, 1, (0, 0, 0, 0)) := by decide +kernel
theorem sm_a200_98 : sm_at 200 98 = some (.iastore, 1, (1, 0, 0, 0)) := by decide +kernel
theorem sm_a200_99 : sm_at 200 99 = some (.iinc 5 1, 3, (0, 0, 0, 0)) := by decide +kernel
theorem sm_a200_102 : sm_at 200 102 = some (.goto (-38), 3, (0, 0, 0, 0)) := by decide +kernel
theorem sm_a200_105 : sm_at 200 105 = some (.aload_n 0, 1, (0, 0, 0, 0)) := by decide +kernel
theorem sm_a200_106 : sm_at 200 106 = some (.getfield 50, 3, (12, 15, 0, 1198)) := by decide +kernel
theorem sm_a200_109 : sm_at 200 109 = some (.iload 4, 2, (0, 0, 0, 0)) := by decide +kernel
theorem sm_a200_111 : sm_at 200 111 = some (.dup2, 1, (0, 0, 0, 0)) := by decide +kernel
theorem sm_a200_112 : sm_at 200 112 = some (.iaload, 1, (0, 0, 0, 0)) := by decide +kernel
theorem sm_a200_113 : sm_at 200 113 = some (.iload_n 3, 1, (0, 0, 0, 0)) := by decide +kernel
theorem sm_a200_114 : sm_at 200 114 = some (.iadd, 1, (0, 0, 0, 0)) := by decide +kernel
theorem sm_a200_115 : sm_at 200 115 = some (.iastore, 1, (1, 0, 0, 0)) := by decide +kernel
theorem sm_a200_116 : sm_at 200 116 = some (.aload_n 0, 1, (0, 0, 0, 0)) := by decide +kernel
theorem sm_a200_117 : sm_at 200 117 = some (.iload_n 3, 1, (0, 0, 0, 0)) := by decide +kernel
theorem sm_a200_118 : sm_at 200 118 = some (.invokevirtual 416, 3, (10, 154, 12, 1502)) := by decide +kernel
theorem sm_a200_121 : sm_at 200 121 = some (.aload_n 0, 1, (0, 0, 0, 0)) := by decide +kernel
theorem sm_a200_122 : sm_at 200 122 = some (.getfield 50, 3, (12, 15, 0, 1198)) := by decide +kernel
theorem sm_a200_125 : sm_at 200 125 = some (.iload 4, 2, (0, 0, 0, 0)) := by decide +kernel
theorem sm_a200_127 : sm_at 200 127 = some (.iaload, 1, (0, 0, 0, 0)) := by decide +kernel
theorem sm_a200_128 : sm_at 200 128 = some (.ireturn, 1, (0, 0, 0, 0)) := by decide +kernel
theorem bb_200_0 {d : Nat} {M : sm_M} {Q : Option sm_V → sm_M → Prop} {a0 : Nat} {x1 : Int32} {x2 : Int32} {x3 : Int32} {z4 : Option sm_V} {z5 : Option sm_V}
    (h : sm_K M a0 = 39 ∧ sm_Run d 155 0 (sm_ent 155 [.inr (some a0), .inl x1, .inl x2]) [] M (fun v M1 => sm_Run (d + 1) 200 6 [some (.inr (some a0)), some (.inl x1), some (.inl x2), some (.inl x3), z4, z5] (v.toList ++ []) M1 Q)) :
    sm_Run (d + 1) 200 0 [some (.inr (some a0)), some (.inl x1), some (.inl x2), some (.inl x3), z4, z5] [] M Q := by
  refine ru_go (t := (1, [some (.inr (some a0)), some (.inl x1), some (.inl x2), some (.inl x3), z4, z5], [.inr (some a0)], M)) sm_a200_0 rfl rfl rfl ?_
  refine ru_go (t := (2, [some (.inr (some a0)), some (.inl x1), some (.inl x2), some (.inl x3), z4, z5], [.inl x1, .inr (some a0)], M)) sm_a200_1 rfl rfl rfl ?_
  refine ru_go (t := (3, [some (.inr (some a0)), some (.inl x1), some (.inl x2), some (.inl x3), z4, z5], [.inl x2, .inl x1, .inr (some a0)], M)) sm_a200_2 rfl rfl rfl ?_
  obtain ⟨h_1, h⟩ := h
  exact ru_call (p := 6) sm_a200_3 rfl (sc_virt (Or.inl rfl) rfl rfl h_1 (Nat.le_of_ble_eq_true rfl)) rfl h
theorem bb_200_6 {d : Nat} {M : sm_M} {Q : Option sm_V → sm_M → Prop} {a0 : Nat} {x1 : Int32} {x2 : Int32} {x3 : Int32} {z4 : Option sm_V} {z5 : Option sm_V} {y0 : Int32}
    (h : ((x3 < 0 → Q (some (.inl (-1))) M) ∧ (¬ (x3 < 0) → sm_K M a0 = 39 ∧ (((sm_I M a0 3) < x3 → Q (some (.inl (-1))) M) ∧ (¬ ((sm_I M a0 3) < x3) → ((y0 = (-1) → Q (some (.inl (-1))) M) ∧ (¬ (y0 = (-1)) → ((128 ≤ x2 → ∃ b_6, sm_R M a0 4 = some b_6 ∧ sm_iA M b_6 ∧ sm_in_ M b_6 x1 ∧ (((sm_I M b_6 (x1).toNatClampNeg) = 0 → Q (some (.inl (-1))) M) ∧ (¬ ((sm_I M b_6 (x1).toNatClampNeg) = 0) → ∃ b_11, sm_R M a0 15 = some b_11 ∧ sm_iA M b_11 ∧ sm_in_ M b_11 y0 ∧ ((((sm_I M b_11 (y0).toNatClampNeg) + x3) ≤ 256 → sm_Run (d + 1) 200 64 [some (.inr (some a0)), some (.inl x1), some (.inl x2), some (.inl x3), some (.inl y0), some (.inl 0)] [] M Q) ∧ (¬ (((sm_I M b_11 (y0).toNatClampNeg) + x3) ≤ 256) → Q (some (.inl (-1))) M))))) ∧ (¬ (128 ≤ x2) → Q (some (.inl (-1))) M))))))))) :
    sm_Run (d + 1) 200 6 [some (.inr (some a0)), some (.inl x1), some (.inl x2), some (.inl x3), z4, z5] [.inl y0] M Q := by
  refine ru_go (t := (8, [some (.inr (some a0)), some (.inl x1), some (.inl x2), some (.inl x3), some (.inl y0), z5], [], M)) sm_a200_6 rfl rfl rfl ?_
  refine ru_go (t := (9, [some (.inr (some a0)), some (.inl x1), some (.inl x2), some (.inl x3), some (.inl y0), z5], [.inl x3], M)) sm_a200_8 rfl rfl rfl ?_
  refine ru_if (pc := 9) (p := 33) (p2 := 12) sm_a200_9 (by decide) rfl ⟨fun hc_1 => ?_, fun hc_1 => ?_⟩
  · have h := h.1 hc_1
    refine ru_go (t := (34, [some (.inr (some a0)), some (.inl x1), some (.inl x2), some (.inl x3), some (.inl y0), z5], [.inl (-1)], M)) sm_a200_33 rfl rfl (st_iconst (by decide)) ?_
    exact ru_ret sm_a200_34 rfl h
  · have h := h.2 hc_1
    refine ru_go (t := (13, [some (.inr (some a0)), some (.inl x1), some (.inl x2), some (.inl x3), some (.inl y0), z5], [.inl x3], M)) sm_a200_12 rfl rfl rfl ?_
    refine ru_go (t := (14, [some (.inr (some a0)), some (.inl x1), some (.inl x2), some (.inl x3), some (.inl y0), z5], [.inr (some a0), .inl x3], M)) sm_a200_13 rfl rfl rfl ?_
    obtain ⟨h_2, h⟩ := h
    refine ru_go (t := (17, [some (.inr (some a0)), some (.inl x1), some (.inl x2), some (.inl x3), some (.inl y0), z5], [.inl (sm_I M a0 3), .inl x3], M)) sm_a200_14 rfl rfl (st_getI h_2 rfl) ?_
    refine ru_icmp (pc := 17) (p := 33) (p2 := 20) sm_a200_17 (by decide) rfl ⟨fun hc_3 => ?_, fun hc_3 => ?_⟩
    · have h := h.1 hc_3
      refine ru_go (t := (34, [some (.inr (some a0)), some (.inl x1), some (.inl x2), some (.inl x3), some (.inl y0), z5], [.inl (-1)], M)) sm_a200_33 rfl rfl (st_iconst (by decide)) ?_
      exact ru_ret sm_a200_34 rfl h
    · have h := h.2 hc_3
      refine ru_go (t := (22, [some (.inr (some a0)), some (.inl x1), some (.inl x2), some (.inl x3), some (.inl y0), z5], [.inl y0], M)) sm_a200_20 rfl rfl rfl ?_
      refine ru_go (t := (23, [some (.inr (some a0)), some (.inl x1), some (.inl x2), some (.inl x3), some (.inl y0), z5], [.inl (-1), .inl y0], M)) sm_a200_22 rfl rfl (st_iconst (by decide)) ?_
      refine ru_icmp (pc := 23) (p := 33) (p2 := 26) sm_a200_23 (by decide) rfl ⟨fun hc_4 => ?_, fun hc_4 => ?_⟩
      · have h := h.1 hc_4
        refine ru_go (t := (34, [some (.inr (some a0)), some (.inl x1), some (.inl x2), some (.inl x3), some (.inl y0), z5], [.inl (-1)], M)) sm_a200_33 rfl rfl (st_iconst (by decide)) ?_
        exact ru_ret sm_a200_34 rfl h
      · have h := h.2 hc_4
        refine ru_go (t := (27, [some (.inr (some a0)), some (.inl x1), some (.inl x2), some (.inl x3), some (.inl y0), z5], [.inl x2], M)) sm_a200_26 rfl rfl rfl ?_
        refine ru_go (t := (30, [some (.inr (some a0)), some (.inl x1), some (.inl x2), some (.inl x3), some (.inl y0), z5], [.inl 128, .inl x2], M)) sm_a200_27 rfl rfl (st_sipush (by decide)) ?_
        refine ru_icmp (pc := 30) (p := 35) (p2 := 33) sm_a200_30 (by decide) rfl ⟨fun hc_5 => ?_, fun hc_5 => ?_⟩
        · have h := h.1 hc_5
          refine ru_go (t := (36, [some (.inr (some a0)), some (.inl x1), some (.inl x2), some (.inl x3), some (.inl y0), z5], [.inr (some a0)], M)) sm_a200_35 rfl rfl rfl ?_
          refine ru_go (t := (39, [some (.inr (some a0)), some (.inl x1), some (.inl x2), some (.inl x3), some (.inl y0), z5], [.inr (sm_R M a0 4)], M)) sm_a200_36 rfl rfl (st_getR h_2 rfl rfl) ?_
          refine ru_go (t := (40, [some (.inr (some a0)), some (.inl x1), some (.inl x2), some (.inl x3), some (.inl y0), z5], [.inl x1, .inr (sm_R M a0 4)], M)) sm_a200_39 rfl rfl rfl ?_
          obtain ⟨b_6, hb_7, h⟩ := h
          rw [hb_7]
          obtain ⟨h_8, h⟩ := h
          obtain ⟨h_9, h⟩ := h
          refine ru_go (t := (41, [some (.inr (some a0)), some (.inl x1), some (.inl x2), some (.inl x3), some (.inl y0), z5], [.inl (sm_I M b_6 (x1).toNatClampNeg)], M)) sm_a200_40 rfl rfl (st_iald h_8 h_9) ?_
          refine ru_if (pc := 41) (p := 59) (p2 := 44) sm_a200_41 (by decide) rfl ⟨fun hc_10 => ?_, fun hc_10 => ?_⟩
          · have h := h.1 hc_10
            refine ru_go (t := (60, [some (.inr (some a0)), some (.inl x1), some (.inl x2), some (.inl x3), some (.inl y0), z5], [.inl (-1)], M)) sm_a200_59 rfl rfl (st_iconst (by decide)) ?_
            exact ru_ret sm_a200_60 rfl h
          · have h := h.2 hc_10
            refine ru_go (t := (45, [some (.inr (some a0)), some (.inl x1), some (.inl x2), some (.inl x3), some (.inl y0), z5], [.inr (some a0)], M)) sm_a200_44 rfl rfl rfl ?_
            refine ru_go (t := (48, [some (.inr (some a0)), some (.inl x1), some (.inl x2), some (.inl x3), some (.inl y0), z5], [.inr (sm_R M a0 15)], M)) sm_a200_45 rfl rfl (st_getR h_2 rfl rfl) ?_
            refine ru_go (t := (50, [some (.inr (some a0)), some (.inl x1), some (.inl x2), some (.inl x3), some (.inl y0), z5], [.inl y0, .inr (sm_R M a0 15)], M)) sm_a200_48 rfl rfl rfl ?_
            obtain ⟨b_11, hb_12, h⟩ := h
            rw [hb_12]
            obtain ⟨h_13, h⟩ := h
            obtain ⟨h_14, h⟩ := h
            refine ru_go (t := (51, [some (.inr (some a0)), some (.inl x1), some (.inl x2), some (.inl x3), some (.inl y0), z5], [.inl (sm_I M b_11 (y0).toNatClampNeg)], M)) sm_a200_50 rfl rfl (st_iald h_13 h_14) ?_
            refine ru_go (t := (52, [some (.inr (some a0)), some (.inl x1), some (.inl x2), some (.inl x3), some (.inl y0), z5], [.inl x3, .inl (sm_I M b_11 (y0).toNatClampNeg)], M)) sm_a200_51 rfl rfl rfl ?_
            refine ru_go (t := (53, [some (.inr (some a0)), some (.inl x1), some (.inl x2), some (.inl x3), some (.inl y0), z5], [.inl ((sm_I M b_11 (y0).toNatClampNeg) + x3)], M)) sm_a200_52 rfl rfl rfl ?_
            refine ru_go (t := (56, [some (.inr (some a0)), some (.inl x1), some (.inl x2), some (.inl x3), some (.inl y0), z5], [.inl 256, .inl ((sm_I M b_11 (y0).toNatClampNeg) + x3)], M)) sm_a200_53 rfl rfl (st_sipush (by decide)) ?_
            refine ru_icmp (pc := 56) (p := 61) (p2 := 59) sm_a200_56 (by decide) rfl ⟨fun hc_15 => ?_, fun hc_15 => ?_⟩
            · have h := h.1 hc_15
              refine ru_go (t := (62, [some (.inr (some a0)), some (.inl x1), some (.inl x2), some (.inl x3), some (.inl y0), z5], [.inl 0], M)) sm_a200_61 rfl rfl (st_iconst (by decide)) ?_
              refine ru_go (t := (64, [some (.inr (some a0)), some (.inl x1), some (.inl x2), some (.inl x3), some (.inl y0), some (.inl 0)], [], M)) sm_a200_62 rfl rfl rfl ?_
              exact h
            · have h := h.2 hc_15
              refine ru_go (t := (60, [some (.inr (some a0)), some (.inl x1), some (.inl x2), some (.inl x3), some (.inl y0), z5], [.inl (-1)], M)) sm_a200_59 rfl rfl (st_iconst (by decide)) ?_
              exact ru_ret sm_a200_60 rfl h
        · have h := h.2 hc_5
          refine ru_go (t := (34, [some (.inr (some a0)), some (.inl x1), some (.inl x2), some (.inl x3), some (.inl y0), z5], [.inl (-1)], M)) sm_a200_33 rfl rfl (st_iconst (by decide)) ?_
          exact ru_ret sm_a200_34 rfl h
theorem bb_200_64 {d : Nat} {M : sm_M} {Q : Option sm_V → sm_M → Prop} {a0 : Nat} {x1 : Int32} {x2 : Int32} {x3 : Int32} {x4 : Int32} {x5 : Int32}
    (h : ((x3 ≤ x5 → sm_K M a0 = 39 ∧ ∃ b_3, sm_R M a0 15 = some b_3 ∧ sm_iA M b_3 ∧ sm_in_ M b_3 x4 ∧ sm_wA 1 M b_3 ∧ sm_Run d 154 0 (sm_ent 154 [.inr (some a0), .inl x3]) [] (sm_putI M b_3 (x4).toNatClampNeg ((sm_I M b_3 (x4).toNatClampNeg) + x3)) (fun v M1 => sm_Run (d + 1) 200 121 [some (.inr (some a0)), some (.inl x1), some (.inl x2), some (.inl x3), some (.inl x4), some (.inl x5)] (v.toList ++ []) M1 Q)) ∧ (¬ (x3 ≤ x5) → sm_K M a0 = 39 ∧ ∃ b_9, sm_R M a0 15 = some b_9 ∧ sm_iA M b_9 ∧ sm_in_ M b_9 x4 ∧ ∃ b_13, sm_R M a0 2 = some b_13 ∧ sm_iA M b_13 ∧ sm_in_ M b_13 x5 ∧ ∃ b_17, sm_R M a0 17 = some b_17 ∧ sm_wA 1 M b_17 ∧ sm_in_ M b_17 (((256 * x4) + (sm_I M b_9 (x4).toNatClampNeg)) + x5) ∧ sm_Run (d + 1) 200 64 [some (.inr (some a0)), some (.inl x1), some (.inl x2), some (.inl x3), some (.inl x4), some (.inl (x5 + 1))] [] (sm_putI M b_17 (((256 * x4) + (sm_I M b_9 (x4).toNatClampNeg)) + x5).toNatClampNeg (sm_I M b_13 (x5).toNatClampNeg)) Q))) :
    sm_Run (d + 1) 200 64 [some (.inr (some a0)), some (.inl x1), some (.inl x2), some (.inl x3), some (.inl x4), some (.inl x5)] [] M Q := by
  refine ru_go (t := (66, [some (.inr (some a0)), some (.inl x1), some (.inl x2), some (.inl x3), some (.inl x4), some (.inl x5)], [.inl x5], M)) sm_a200_64 rfl rfl rfl ?_
  refine ru_go (t := (67, [some (.inr (some a0)), some (.inl x1), some (.inl x2), some (.inl x3), some (.inl x4), some (.inl x5)], [.inl x3, .inl x5], M)) sm_a200_66 rfl rfl rfl ?_
  refine ru_icmp (pc := 67) (p := 105) (p2 := 70) sm_a200_67 (by decide) rfl ⟨fun hc_1 => ?_, fun hc_1 => ?_⟩
  · have h := h.1 hc_1
    refine ru_go (t := (106, [some (.inr (some a0)), some (.inl x1), some (.inl x2), some (.inl x3), some (.inl x4), some (.inl x5)], [.inr (some a0)], M)) sm_a200_105 rfl rfl rfl ?_
    obtain ⟨h_2, h⟩ := h
    refine ru_go (t := (109, [some (.inr (some a0)), some (.inl x1), some (.inl x2), some (.inl x3), some (.inl x4), some (.inl x5)], [.inr (sm_R M a0 15)], M)) sm_a200_106 rfl rfl (st_getR h_2 rfl rfl) ?_
    refine ru_go (t := (111, [some (.inr (some a0)), some (.inl x1), some (.inl x2), some (.inl x3), some (.inl x4), some (.inl x5)], [.inl x4, .inr (sm_R M a0 15)], M)) sm_a200_109 rfl rfl rfl ?_
    refine ru_go (t := (112, [some (.inr (some a0)), some (.inl x1), some (.inl x2), some (.inl x3), some (.inl x4), some (.inl x5)], [.inl x4, .inr (sm_R M a0 15), .inl x4, .inr (sm_R M a0 15)], M)) sm_a200_111 rfl rfl rfl ?_
    obtain ⟨b_3, hb_4, h⟩ := h
    rw [hb_4]
    obtain ⟨h_5, h⟩ := h
    obtain ⟨h_6, h⟩ := h
    refine ru_go (t := (113, [some (.inr (some a0)), some (.inl x1), some (.inl x2), some (.inl x3), some (.inl x4), some (.inl x5)], [.inl (sm_I M b_3 (x4).toNatClampNeg), .inl x4, .inr (some b_3)], M)) sm_a200_112 rfl rfl (st_iald h_5 h_6) ?_
    refine ru_go (t := (114, [some (.inr (some a0)), some (.inl x1), some (.inl x2), some (.inl x3), some (.inl x4), some (.inl x5)], [.inl x3, .inl (sm_I M b_3 (x4).toNatClampNeg), .inl x4, .inr (some b_3)], M)) sm_a200_113 rfl rfl rfl ?_
    refine ru_go (t := (115, [some (.inr (some a0)), some (.inl x1), some (.inl x2), some (.inl x3), some (.inl x4), some (.inl x5)], [.inl ((sm_I M b_3 (x4).toNatClampNeg) + x3), .inl x4, .inr (some b_3)], M)) sm_a200_114 rfl rfl rfl ?_
    obtain ⟨h_7, h⟩ := h
    refine ru_go (t := (116, [some (.inr (some a0)), some (.inl x1), some (.inl x2), some (.inl x3), some (.inl x4), some (.inl x5)], [], sm_putI M b_3 (x4).toNatClampNeg ((sm_I M b_3 (x4).toNatClampNeg) + x3))) sm_a200_115 rfl rfl (st_iast h_7 h_6) ?_
    refine ru_go (t := (117, [some (.inr (some a0)), some (.inl x1), some (.inl x2), some (.inl x3), some (.inl x4), some (.inl x5)], [.inr (some a0)], sm_putI M b_3 (x4).toNatClampNeg ((sm_I M b_3 (x4).toNatClampNeg) + x3))) sm_a200_116 rfl rfl rfl ?_
    refine ru_go (t := (118, [some (.inr (some a0)), some (.inl x1), some (.inl x2), some (.inl x3), some (.inl x4), some (.inl x5)], [.inl x3, .inr (some a0)], sm_putI M b_3 (x4).toNatClampNeg ((sm_I M b_3 (x4).toNatClampNeg) + x3))) sm_a200_117 rfl rfl rfl ?_
    exact ru_call (p := 121) sm_a200_118 rfl (sc_virt (Or.inl rfl) rfl rfl h_2 (Nat.le_of_ble_eq_true rfl)) rfl h
  · have h := h.2 hc_1
    refine ru_go (t := (71, [some (.inr (some a0)), some (.inl x1), some (.inl x2), some (.inl x3), some (.inl x4), some (.inl x5)], [.inr (some a0)], M)) sm_a200_70 rfl rfl rfl ?_
    obtain ⟨h_8, h⟩ := h
    refine ru_go (t := (74, [some (.inr (some a0)), some (.inl x1), some (.inl x2), some (.inl x3), some (.inl x4), some (.inl x5)], [.inr (sm_R M a0 17)], M)) sm_a200_71 rfl rfl (st_getR h_8 rfl rfl) ?_
    refine ru_go (t := (77, [some (.inr (some a0)), some (.inl x1), some (.inl x2), some (.inl x3), some (.inl x4), some (.inl x5)], [.inl 256, .inr (sm_R M a0 17)], M)) sm_a200_74 rfl rfl (st_sipush (by decide)) ?_
    refine ru_go (t := (79, [some (.inr (some a0)), some (.inl x1), some (.inl x2), some (.inl x3), some (.inl x4), some (.inl x5)], [.inl x4, .inl 256, .inr (sm_R M a0 17)], M)) sm_a200_77 rfl rfl rfl ?_
    refine ru_go (t := (80, [some (.inr (some a0)), some (.inl x1), some (.inl x2), some (.inl x3), some (.inl x4), some (.inl x5)], [.inl (256 * x4), .inr (sm_R M a0 17)], M)) sm_a200_79 rfl rfl rfl ?_
    refine ru_go (t := (81, [some (.inr (some a0)), some (.inl x1), some (.inl x2), some (.inl x3), some (.inl x4), some (.inl x5)], [.inr (some a0), .inl (256 * x4), .inr (sm_R M a0 17)], M)) sm_a200_80 rfl rfl rfl ?_
    refine ru_go (t := (84, [some (.inr (some a0)), some (.inl x1), some (.inl x2), some (.inl x3), some (.inl x4), some (.inl x5)], [.inr (sm_R M a0 15), .inl (256 * x4), .inr (sm_R M a0 17)], M)) sm_a200_81 rfl rfl (st_getR h_8 rfl rfl) ?_
    refine ru_go (t := (86, [some (.inr (some a0)), some (.inl x1), some (.inl x2), some (.inl x3), some (.inl x4), some (.inl x5)], [.inl x4, .inr (sm_R M a0 15), .inl (256 * x4), .inr (sm_R M a0 17)], M)) sm_a200_84 rfl rfl rfl ?_
    obtain ⟨b_9, hb_10, h⟩ := h
    rw [hb_10]
    obtain ⟨h_11, h⟩ := h
    obtain ⟨h_12, h⟩ := h
    refine ru_go (t := (87, [some (.inr (some a0)), some (.inl x1), some (.inl x2), some (.inl x3), some (.inl x4), some (.inl x5)], [.inl (sm_I M b_9 (x4).toNatClampNeg), .inl (256 * x4), .inr (sm_R M a0 17)], M)) sm_a200_86 rfl rfl (st_iald h_11 h_12) ?_
    refine ru_go (t := (88, [some (.inr (some a0)), some (.inl x1), some (.inl x2), some (.inl x3), some (.inl x4), some (.inl x5)], [.inl ((256 * x4) + (sm_I M b_9 (x4).toNatClampNeg)), .inr (sm_R M a0 17)], M)) sm_a200_87 rfl rfl rfl ?_
    refine ru_go (t := (90, [some (.inr (some a0)), some (.inl x1), some (.inl x2), some (.inl x3), some (.inl x4), some (.inl x5)], [.inl x5, .inl ((256 * x4) + (sm_I M b_9 (x4).toNatClampNeg)), .inr (sm_R M a0 17)], M)) sm_a200_88 rfl rfl rfl ?_
    refine ru_go (t := (91, [some (.inr (some a0)), some (.inl x1), some (.inl x2), some (.inl x3), some (.inl x4), some (.inl x5)], [.inl (((256 * x4) + (sm_I M b_9 (x4).toNatClampNeg)) + x5), .inr (sm_R M a0 17)], M)) sm_a200_90 rfl rfl rfl ?_
    refine ru_go (t := (92, [some (.inr (some a0)), some (.inl x1), some (.inl x2), some (.inl x3), some (.inl x4), some (.inl x5)], [.inr (some a0), .inl (((256 * x4) + (sm_I M b_9 (x4).toNatClampNeg)) + x5), .inr (sm_R M a0 17)], M)) sm_a200_91 rfl rfl rfl ?_
    refine ru_go (t := (95, [some (.inr (some a0)), some (.inl x1), some (.inl x2), some (.inl x3), some (.inl x4), some (.inl x5)], [.inr (sm_R M a0 2), .inl (((256 * x4) + (sm_I M b_9 (x4).toNatClampNeg)) + x5), .inr (sm_R M a0 17)], M)) sm_a200_92 rfl rfl (st_getR h_8 rfl rfl) ?_
    refine ru_go (t := (97, [some (.inr (some a0)), some (.inl x1), some (.inl x2), some (.inl x3), some (.inl x4), some (.inl x5)], [.inl x5, .inr (sm_R M a0 2), .inl (((256 * x4) + (sm_I M b_9 (x4).toNatClampNeg)) + x5), .inr (sm_R M a0 17)], M)) sm_a200_95 rfl rfl rfl ?_
    obtain ⟨b_13, hb_14, h⟩ := h
    rw [hb_14]
    obtain ⟨h_15, h⟩ := h
    obtain ⟨h_16, h⟩ := h
    refine ru_go (t := (98, [some (.inr (some a0)), some (.inl x1), some (.inl x2), some (.inl x3), some (.inl x4), some (.inl x5)], [.inl (sm_I M b_13 (x5).toNatClampNeg), .inl (((256 * x4) + (sm_I M b_9 (x4).toNatClampNeg)) + x5), .inr (sm_R M a0 17)], M)) sm_a200_97 rfl rfl (st_iald h_15 h_16) ?_
    obtain ⟨b_17, hb_18, h⟩ := h
    rw [hb_18]
    obtain ⟨h_19, h⟩ := h
    obtain ⟨h_20, h⟩ := h
    refine ru_go (t := (99, [some (.inr (some a0)), some (.inl x1), some (.inl x2), some (.inl x3), some (.inl x4), some (.inl x5)], [], sm_putI M b_17 (((256 * x4) + (sm_I M b_9 (x4).toNatClampNeg)) + x5).toNatClampNeg (sm_I M b_13 (x5).toNatClampNeg))) sm_a200_98 rfl rfl (st_iast h_19 h_20) ?_
    refine ru_go (t := (102, [some (.inr (some a0)), some (.inl x1), some (.inl x2), some (.inl x3), some (.inl x4), some (.inl (x5 + 1))], [], sm_putI M b_17 (((256 * x4) + (sm_I M b_9 (x4).toNatClampNeg)) + x5).toNatClampNeg (sm_I M b_13 (x5).toNatClampNeg))) sm_a200_99 rfl rfl (st_iinc rfl (by decide)) ?_
    refine ru_go (t := (64, [some (.inr (some a0)), some (.inl x1), some (.inl x2), some (.inl x3), some (.inl x4), some (.inl (x5 + 1))], [], sm_putI M b_17 (((256 * x4) + (sm_I M b_9 (x4).toNatClampNeg)) + x5).toNatClampNeg (sm_I M b_13 (x5).toNatClampNeg))) sm_a200_102 rfl rfl (st_goto (pc := 102) (by decide)) ?_
    exact h
theorem bb_200_121 {d : Nat} {M : sm_M} {Q : Option sm_V → sm_M → Prop} {a0 : Nat} {x1 : Int32} {x2 : Int32} {x3 : Int32} {x4 : Int32} {x5 : Int32}
    (h : sm_K M a0 = 39 ∧ ∃ b_2, sm_R M a0 15 = some b_2 ∧ sm_iA M b_2 ∧ sm_in_ M b_2 x4 ∧ Q (some (.inl (sm_I M b_2 (x4).toNatClampNeg))) M) :
    sm_Run (d + 1) 200 121 [some (.inr (some a0)), some (.inl x1), some (.inl x2), some (.inl x3), some (.inl x4), some (.inl x5)] [] M Q := by
  refine ru_go (t := (122, [some (.inr (some a0)), some (.inl x1), some (.inl x2), some (.inl x3), some (.inl x4), some (.inl x5)], [.inr (some a0)], M)) sm_a200_121 rfl rfl rfl ?_
  obtain ⟨h_1, h⟩ := h
  refine ru_go (t := (125, [some (.inr (some a0)), some (.inl x1), some (.inl x2), some (.inl x3), some (.inl x4), some (.inl x5)], [.inr (sm_R M a0 15)], M)) sm_a200_122 rfl rfl (st_getR h_1 rfl rfl) ?_
  refine ru_go (t := (127, [some (.inr (some a0)), some (.inl x1), some (.inl x2), some (.inl x3), some (.inl x4), some (.inl x5)], [.inl x4, .inr (sm_R M a0 15)], M)) sm_a200_125 rfl rfl rfl ?_
  obtain ⟨b_2, hb_3, h⟩ := h
  rw [hb_3]
  obtain ⟨h_4, h⟩ := h
  obtain ⟨h_5, h⟩ := h
  refine ru_go (t := (128, [some (.inr (some a0)), some (.inl x1), some (.inl x2), some (.inl x3), some (.inl x4), some (.inl x5)], [.inl (sm_I M b_2 (x4).toNatClampNeg)], M)) sm_a200_127 rfl rfl (st_iald h_4 h_5) ?_
  exact ru_ret sm_a200_128 rfl h

/-! WireBusModel.take:(II)I -/
theorem sm_a201_0 : sm_at 201 0 = some (.aload_n 0, 1, (0, 0, 0, 0)) := by decide +kernel
theorem sm_a201_1 : sm_at 201 1 = some (.iload_n 1, 1, (0, 0, 0, 0)) := by decide +kernel
theorem sm_a201_2 : sm_at 201 2 = some (.iload_n 2, 1, (0, 0, 0, 0)) := by decide +kernel
theorem sm_a201_3 : sm_at 201 3 = some (.invokevirtual 296, 3, (10, 155, 12, 1470)) := by decide +kernel
theorem sm_a201_6 : sm_at 201 6 = some (.istore_n 3, 1, (0, 0, 0, 0)) := by decide +kernel
theorem sm_a201_7 : sm_at 201 7 = some (.iload_n 3, 1, (0, 0, 0, 0)) := by decide +kernel
theorem sm_a201_8 : sm_at 201 8 = some (.iconst (-1), 1, (0, 0, 0, 0)) := by decide +kernel
theorem sm_a201_9 : sm_at 201 9 = some (.if_icmp .eq 10, 3, (0, 0, 0, 0)) := by decide +kernel
theorem sm_a201_12 : sm_at 201 12 = some (.iload_n 2, 1, (0, 0, 0, 0)) := by decide +kernel
theorem sm_a201_13 : sm_at 201 13 = some (.sipush 128, 3, (0, 0, 0, 0)) := by decide +kernel
theorem sm_a201_16 : sm_at 201 16 = some (.if_icmp .lt 5, 3, (0, 0, 0, 0)) := by decide +kernel
theorem sm_a201_19 : sm_at 201 19 = some (.iconst (-1), 1, (0, 0, 0, 0)) := by decide +kernel
theorem sm_a201_20 : sm_at 201 20 = some (.ireturn, 1, (0, 0, 0, 0)) := by decide +kernel
theorem sm_a201_21 : sm_at 201 21 = some (.aload_n 0, 1, (0, 0, 0, 0)) := by decide +kernel
theorem sm_a201_22 : sm_at 201 22 = some (.getfield 16, 3, (12, 4, 0, 1187)) := by decide +kernel
theorem sm_a201_25 : sm_at 201 25 = some (.iload_n 1, 1, (0, 0, 0, 0)) := by decide +kernel
theorem sm_a201_26 : sm_at 201 26 = some (.iaload, 1, (0, 0, 0, 0)) := by decide +kernel
theorem sm_a201_27 : sm_at 201 27 = some (.ifCond .eq 12, 3, (0, 0, 0, 0)) := by decide +kernel
theorem sm_a201_30 : sm_at 201 30 = some (.aload_n 0, 1, (0, 0, 0, 0)) := by decide +kernel
theorem sm_a201_31 : sm_at 201 31 = some (.getfield 50, 3, (12, 15, 0, 1198)) := by decide +kernel
theorem sm_a201_34 : sm_at 201 34 = some (.iload_n 3, 1, (0, 0, 0, 0)) := by decide +kernel
theorem sm_a201_35 : sm_at 201 35 = some (.iaload, 1, (0, 0, 0, 0)) := by decide +kernel
theorem sm_a201_36 : sm_at 201 36 = some (.ifCond .ne 5, 3, (0, 0, 0, 0)) := by decide +kernel
theorem sm_a201_39 : sm_at 201 39 = some (.iconst (-1), 1, (0, 0, 0, 0)) := by decide +kernel
theorem sm_a201_40 : sm_at 201 40 = some (.ireturn, 1, (0, 0, 0, 0)) := by decide +kernel
theorem sm_a201_41 : sm_at 201 41 = some (.aload_n 0, 1, (0, 0, 0, 0)) := by decide +kernel
theorem sm_a201_42 : sm_at 201 42 = some (.getfield 56, 3, (12, 17, 0, 1200)) := by decide +kernel
theorem sm_a201_45 : sm_at 201 45 = some (.sipush 256, 3, (0, 0, 0, 0)) := by decide +kernel
theorem sm_a201_48 : sm_at 201 48 = some (.iload_n 3, 1, (0, 0, 0, 0)) := by decide +kernel
theorem sm_a201_49 : sm_at 201 49 = some (.imul, 1, (0, 0, 0, 0)) := by decide +kernel
theorem sm_a201_50 : sm_at 201 50 = some (.iaload, 1, (0, 0, 0, 0)) := by decide +kernel
theorem sm_a201_51 : sm_at 201 51 = some (.istore 4, 2, (0, 0, 0, 0)) := by decide +kernel
theorem sm_a201_53 : sm_at 201 53 = some (.aload_n 0, 1, (0, 0, 0, 0)) := by decide +kernel
theorem sm_a201_54 : sm_at 201 54 = some (.getfield 50, 3, (12, 15, 0, 1198)) := by decide +kernel
theorem sm_a201_57 : sm_at 201 57 = some (.iload_n 3, 1, (0, 0, 0, 0)) := by decide +kernel
theorem sm_a201_58 : sm_at 201 58 = some (.dup2, 1, (0, 0, 0, 0)) := by decide +kernel
theorem sm_a201_59 : sm_at 201 59 = some (.iaload, 1, (0, 0, 0, 0)) := by decide +kernel
theorem sm_a201_60 : sm_at 201 60 = some (.iconst 1, 1, (0, 0, 0, 0)) := by decide +kernel
theorem sm_a201_61 : sm_at 201 61 = some (.isub, 1, (0, 0, 0, 0)) := by decide +kernel
theorem sm_a201_62 : sm_at 201 62 = some (.iastore, 1, (1, 0, 0, 0)) := by decide +kernel
theorem sm_a201_63 : sm_at 201 63 = some (.iconst 0, 1, (0, 0, 0, 0)) := by decide +kernel
theorem sm_a201_64 : sm_at 201 64 = some (.istore 5, 2, (0, 0, 0, 0)) := by decide +kernel
theorem sm_a201_66 : sm_at 201 66 = some (.iload 5, 2, (0, 0, 0, 0)) := by decide +kernel
theorem sm_a201_68 : sm_at 201 68 = some (.aload_n 0, 1, (0, 0, 0, 0)) := by decide +kernel
theorem sm_a201_69 : sm_at 201 69 = some (.getfield 50, 3, (12, 15, 0, 1198)) := by decide +kernel
theorem sm_a201_72 : sm_at 201 72 = some (.iload_n 3, 1, (0, 0, 0, 0)) := by decide +kernel
theorem sm_a201_73 : sm_at 201 73 = some (.iaload, 1, (0, 0, 0, 0)) := by decide +kernel
theorem sm_a201_74 : sm_at 201 74 = some (.if_icmp .ge 37, 3, (0, 0, 0, 0)) := by decide +kernel
theorem sm_a201_77 : sm_at 201 77 = some (.aload_n 0, 1, (0, 0, 0, 0)) := by decide +kernel
theorem sm_a201_78 : sm_at 201 78 = some (.getfield 56, 3, (12, 17, 0, 1200)) := by decide +kernel
theorem sm_a201_81 : sm_at 201 81 = some (.sipush 256, 3, (0, 0, 0, 0)) := by decide +kernel
theorem sm_a201_84 : sm_at 201 84 = some (.iload_n 3, 1, (0, 0, 0, 0)) := by decide +kernel
theorem sm_a201_85 : sm_at 201 85 = some (.imul, 1, (0, 0, 0, 0)) := by decide +kernel
theorem sm_a201_86 : sm_at 201 86 = some (.iload 5, 2, (0, 0, 0, 0)) := by decide +kernel
theorem sm_a201_88 : sm_at 201 88 = some (.iadd, 1, (0, 0, 0, 0)) := by decide +kernel
theorem sm_a201_89 : sm_at 201 89 = some (.aload_n 0, 1, (0, 0, 0, 0)) := by decide +kernel
theorem sm_a201_90 : sm_at 201 90 = some (.getfield 56, 3, (12, 17, 0, 1200)) := by decide +kernel
theorem sm_a201_93 : sm_at 201 93 = some (.sipush 256, 3, (0, 0, 0, 0)) := by decide +kernel
theorem sm_a201_96 : sm_at 201 96 = some (.iload_n 3, 1, (0, 0, 0, 0)) := by decide +kernel
theorem sm_a201_97 : sm_at 201 97 = some (.imul, 1, (0, 0, 0, 0)) := by decide +kernel
theorem sm_a201_98 : sm_at 201 98 = some (.iload 5, 2, (0, 0, 0, 0)) := by decide +kernel
theorem sm_a201_100 : sm_at 201 100 = some (.iadd, 1, (0, 0, 0, 0)) := by decide +kernel
theorem sm_a201_101 : sm_at 201 101 = some (.iconst 1, 1, (0, 0, 0, 0)) := by decide +kernel
theorem sm_a201_102 : sm_at 201 102 = some (.iadd, 1, (0, 0, 0, 0)) := by decide +kernel
theorem sm_a201_103 : sm_at 201 103 = some (.iaload, 1, (0, 0, 0, 0)) := by decide +kernel
theorem sm_a201_104 : sm_at 201 104 = some (.iastore, 1, (1, 0, 0, 0)) := by decide +kernel
theorem sm_a201_105 : sm_at 201 105 = some (.iinc 5 1, 3, (0, 0, 0, 0)) := by decide +kernel
theorem sm_a201_108 : sm_at 201 108 = some (.goto (-42), 3, (0, 0, 0, 0)) := by decide +kernel
theorem sm_a201_111 : sm_at 201 111 = some (.iload 4, 2, (0, 0, 0, 0)) := by decide +kernel
theorem sm_a201_113 : sm_at 201 113 = some (.ireturn, 1, (0, 0, 0, 0)) := by decide +kernel
theorem bb_201_0 {d : Nat} {M : sm_M} {Q : Option sm_V → sm_M → Prop} {a0 : Nat} {x1 : Int32} {x2 : Int32} {z3 : Option sm_V} {z4 : Option sm_V} {z5 : Option sm_V}
    (h : sm_K M a0 = 39 ∧ sm_Run d 155 0 (sm_ent 155 [.inr (some a0), .inl x1, .inl x2]) [] M (fun v M1 => sm_Run (d + 1) 201 6 [some (.inr (some a0)), some (.inl x1), some (.inl x2), z3, z4, z5] (v.toList ++ []) M1 Q)) :
    sm_Run (d + 1) 201 0 [some (.inr (some a0)), some (.inl x1), some (.inl x2), z3, z4, z5] [] M Q := by
  refine ru_go (t := (1, [some (.inr (some a0)), some (.inl x1), some (.inl x2), z3, z4, z5], [.inr (some a0)], M)) sm_a201_0 rfl rfl rfl ?_
  refine ru_go (t := (2, [some (.inr (some a0)), some (.inl x1), some (.inl x2), z3, z4, z5], [.inl x1, .inr (some a0)], M)) sm_a201_1 rfl rfl rfl ?_
  refine ru_go (t := (3, [some (.inr (some a0)), some (.inl x1), some (.inl x2), z3, z4, z5], [.inl x2, .inl x1, .inr (some a0)], M)) sm_a201_2 rfl rfl rfl ?_
  obtain ⟨h_1, h⟩ := h
  exact ru_call (p := 6) sm_a201_3 rfl (sc_virt (Or.inl rfl) rfl rfl h_1 (Nat.le_of_ble_eq_true rfl)) rfl h
theorem bb_201_6 {d : Nat} {M : sm_M} {Q : Option sm_V → sm_M → Prop} {a0 : Nat} {x1 : Int32} {x2 : Int32} {z3 : Option sm_V} {z4 : Option sm_V} {z5 : Option sm_V} {y0 : Int32}
    (h : ((y0 = (-1) → Q (some (.inl (-1))) M) ∧ (¬ (y0 = (-1)) → ((x2 < 128 → sm_K M a0 = 39 ∧ ∃ b_4, sm_R M a0 4 = some b_4 ∧ sm_iA M b_4 ∧ sm_in_ M b_4 x1 ∧ (((sm_I M b_4 (x1).toNatClampNeg) = 0 → Q (some (.inl (-1))) M) ∧ (¬ ((sm_I M b_4 (x1).toNatClampNeg) = 0) → ∃ b_9, sm_R M a0 15 = some b_9 ∧ sm_iA M b_9 ∧ sm_in_ M b_9 y0 ∧ ((¬ (sm_I M b_9 (y0).toNatClampNeg) = 0 → ∃ b_14, sm_R M a0 17 = some b_14 ∧ sm_iA M b_14 ∧ sm_in_ M b_14 (256 * y0) ∧ ∃ b_18, sm_R M a0 15 = some b_18 ∧ sm_iA M b_18 ∧ sm_in_ M b_18 y0 ∧ sm_wA 1 M b_18 ∧ sm_Run (d + 1) 201 66 [some (.inr (some a0)), some (.inl x1), some (.inl x2), some (.inl y0), some (.inl (sm_I M b_14 (256 * y0).toNatClampNeg)), some (.inl 0)] [] (sm_putI M b_18 (y0).toNatClampNeg ((sm_I M b_18 (y0).toNatClampNeg) - 1)) Q) ∧ (¬ (¬ (sm_I M b_9 (y0).toNatClampNeg) = 0) → Q (some (.inl (-1))) M))))) ∧ (¬ (x2 < 128) → Q (some (.inl (-1))) M))))) :
    sm_Run (d + 1) 201 6 [some (.inr (some a0)), some (.inl x1), some (.inl x2), z3, z4, z5] [.inl y0] M Q := by
  refine ru_go (t := (7, [some (.inr (some a0)), some (.inl x1), some (.inl x2), some (.inl y0), z4, z5], [], M)) sm_a201_6 rfl rfl rfl ?_
  refine ru_go (t := (8, [some (.inr (some a0)), some (.inl x1), some (.inl x2), some (.inl y0), z4, z5], [.inl y0], M)) sm_a201_7 rfl rfl rfl ?_
  refine ru_go (t := (9, [some (.inr (some a0)), some (.inl x1), some (.inl x2), some (.inl y0), z4, z5], [.inl (-1), .inl y0], M)) sm_a201_8 rfl rfl (st_iconst (by decide)) ?_
  refine ru_icmp (pc := 9) (p := 19) (p2 := 12) sm_a201_9 (by decide) rfl ⟨fun hc_1 => ?_, fun hc_1 => ?_⟩
  · have h := h.1 hc_1
    refine ru_go (t := (20, [some (.inr (some a0)), some (.inl x1), some (.inl x2), some (.inl y0), z4, z5], [.inl (-1)], M)) sm_a201_19 rfl rfl (st_iconst (by decide)) ?_
    exact ru_ret sm_a201_20 rfl h
  · have h := h.2 hc_1
    refine ru_go (t := (13, [some (.inr (some a0)), some (.inl x1), some (.inl x2), some (.inl y0), z4, z5], [.inl x2], M)) sm_a201_12 rfl rfl rfl ?_
    refine ru_go (t := (16, [some (.inr (some a0)), some (.inl x1), some (.inl x2), some (.inl y0), z4, z5], [.inl 128, .inl x2], M)) sm_a201_13 rfl rfl (st_sipush (by decide)) ?_
    refine ru_icmp (pc := 16) (p := 21) (p2 := 19) sm_a201_16 (by decide) rfl ⟨fun hc_2 => ?_, fun hc_2 => ?_⟩
    · have h := h.1 hc_2
      refine ru_go (t := (22, [some (.inr (some a0)), some (.inl x1), some (.inl x2), some (.inl y0), z4, z5], [.inr (some a0)], M)) sm_a201_21 rfl rfl rfl ?_
      obtain ⟨h_3, h⟩ := h
      refine ru_go (t := (25, [some (.inr (some a0)), some (.inl x1), some (.inl x2), some (.inl y0), z4, z5], [.inr (sm_R M a0 4)], M)) sm_a201_22 rfl rfl (st_getR h_3 rfl rfl) ?_
      refine ru_go (t := (26, [some (.inr (some a0)), some (.inl x1), some (.inl x2), some (.inl y0), z4, z5], [.inl x1, .inr (sm_R M a0 4)], M)) sm_a201_25 rfl rfl rfl ?_
      obtain ⟨b_4, hb_5, h⟩ := h
      rw [hb_5]
      obtain ⟨h_6, h⟩ := h
      obtain ⟨h_7, h⟩ := h
      refine ru_go (t := (27, [some (.inr (some a0)), some (.inl x1), some (.inl x2), some (.inl y0), z4, z5], [.inl (sm_I M b_4 (x1).toNatClampNeg)], M)) sm_a201_26 rfl rfl (st_iald h_6 h_7) ?_
      refine ru_if (pc := 27) (p := 39) (p2 := 30) sm_a201_27 (by decide) rfl ⟨fun hc_8 => ?_, fun hc_8 => ?_⟩
      · have h := h.1 hc_8
        refine ru_go (t := (40, [some (.inr (some a0)), some (.inl x1), some (.inl x2), some (.inl y0), z4, z5], [.inl (-1)], M)) sm_a201_39 rfl rfl (st_iconst (by decide)) ?_
        exact ru_ret sm_a201_40 rfl h
      · have h := h.2 hc_8
        refine ru_go (t := (31, [some (.inr (some a0)), some (.inl x1), some (.inl x2), some (.inl y0), z4, z5], [.inr (some a0)], M)) sm_a201_30 rfl rfl rfl ?_
        refine ru_go (t := (34, [some (.inr (some a0)), some (.inl x1), some (.inl x2), some (.inl y0), z4, z5], [.inr (sm_R M a0 15)], M)) sm_a201_31 rfl rfl (st_getR h_3 rfl rfl) ?_
        refine ru_go (t := (35, [some (.inr (some a0)), some (.inl x1), some (.inl x2), some (.inl y0), z4, z5], [.inl y0, .inr (sm_R M a0 15)], M)) sm_a201_34 rfl rfl rfl ?_
        obtain ⟨b_9, hb_10, h⟩ := h
        rw [hb_10]
        obtain ⟨h_11, h⟩ := h
        obtain ⟨h_12, h⟩ := h
        refine ru_go (t := (36, [some (.inr (some a0)), some (.inl x1), some (.inl x2), some (.inl y0), z4, z5], [.inl (sm_I M b_9 (y0).toNatClampNeg)], M)) sm_a201_35 rfl rfl (st_iald h_11 h_12) ?_
        refine ru_if (pc := 36) (p := 41) (p2 := 39) sm_a201_36 (by decide) rfl ⟨fun hc_13 => ?_, fun hc_13 => ?_⟩
        · have h := h.1 hc_13
          refine ru_go (t := (42, [some (.inr (some a0)), some (.inl x1), some (.inl x2), some (.inl y0), z4, z5], [.inr (some a0)], M)) sm_a201_41 rfl rfl rfl ?_
          refine ru_go (t := (45, [some (.inr (some a0)), some (.inl x1), some (.inl x2), some (.inl y0), z4, z5], [.inr (sm_R M a0 17)], M)) sm_a201_42 rfl rfl (st_getR h_3 rfl rfl) ?_
          refine ru_go (t := (48, [some (.inr (some a0)), some (.inl x1), some (.inl x2), some (.inl y0), z4, z5], [.inl 256, .inr (sm_R M a0 17)], M)) sm_a201_45 rfl rfl (st_sipush (by decide)) ?_
          refine ru_go (t := (49, [some (.inr (some a0)), some (.inl x1), some (.inl x2), some (.inl y0), z4, z5], [.inl y0, .inl 256, .inr (sm_R M a0 17)], M)) sm_a201_48 rfl rfl rfl ?_
          refine ru_go (t := (50, [some (.inr (some a0)), some (.inl x1), some (.inl x2), some (.inl y0), z4, z5], [.inl (256 * y0), .inr (sm_R M a0 17)], M)) sm_a201_49 rfl rfl rfl ?_
          obtain ⟨b_14, hb_15, h⟩ := h
          rw [hb_15]
          obtain ⟨h_16, h⟩ := h
          obtain ⟨h_17, h⟩ := h
          refine ru_go (t := (51, [some (.inr (some a0)), some (.inl x1), some (.inl x2), some (.inl y0), z4, z5], [.inl (sm_I M b_14 (256 * y0).toNatClampNeg)], M)) sm_a201_50 rfl rfl (st_iald h_16 h_17) ?_
          refine ru_go (t := (53, [some (.inr (some a0)), some (.inl x1), some (.inl x2), some (.inl y0), some (.inl (sm_I M b_14 (256 * y0).toNatClampNeg)), z5], [], M)) sm_a201_51 rfl rfl rfl ?_
          refine ru_go (t := (54, [some (.inr (some a0)), some (.inl x1), some (.inl x2), some (.inl y0), some (.inl (sm_I M b_14 (256 * y0).toNatClampNeg)), z5], [.inr (some a0)], M)) sm_a201_53 rfl rfl rfl ?_
          refine ru_go (t := (57, [some (.inr (some a0)), some (.inl x1), some (.inl x2), some (.inl y0), some (.inl (sm_I M b_14 (256 * y0).toNatClampNeg)), z5], [.inr (sm_R M a0 15)], M)) sm_a201_54 rfl rfl (st_getR h_3 rfl rfl) ?_
          refine ru_go (t := (58, [some (.inr (some a0)), some (.inl x1), some (.inl x2), some (.inl y0), some (.inl (sm_I M b_14 (256 * y0).toNatClampNeg)), z5], [.inl y0, .inr (sm_R M a0 15)], M)) sm_a201_57 rfl rfl rfl ?_
          refine ru_go (t := (59, [some (.inr (some a0)), some (.inl x1), some (.inl x2), some (.inl y0), some (.inl (sm_I M b_14 (256 * y0).toNatClampNeg)), z5], [.inl y0, .inr (sm_R M a0 15), .inl y0, .inr (sm_R M a0 15)], M)) sm_a201_58 rfl rfl rfl ?_
          obtain ⟨b_18, hb_19, h⟩ := h
          rw [hb_19]
          obtain ⟨h_20, h⟩ := h
          obtain ⟨h_21, h⟩ := h
          refine ru_go (t := (60, [some (.inr (some a0)), some (.inl x1), some (.inl x2), some (.inl y0), some (.inl (sm_I M b_14 (256 * y0).toNatClampNeg)), z5], [.inl (sm_I M b_18 (y0).toNatClampNeg), .inl y0, .inr (some b_18)], M)) sm_a201_59 rfl rfl (st_iald h_20 h_21) ?_
          refine ru_go (t := (61, [some (.inr (some a0)), some (.inl x1), some (.inl x2), some (.inl y0), some (.inl (sm_I M b_14 (256 * y0).toNatClampNeg)), z5], [.inl 1, .inl (sm_I M b_18 (y0).toNatClampNeg), .inl y0, .inr (some b_18)], M)) sm_a201_60 rfl rfl (st_iconst (by decide)) ?_
          refine ru_go (t := (62, [some (.inr (some a0)), some (.inl x1), some (.inl x2), some (.inl y0), some (.inl (sm_I M b_14 (256 * y0).toNatClampNeg)), z5], [.inl ((sm_I M b_18 (y0).toNatClampNeg) - 1), .inl y0, .inr (some b_18)], M)) sm_a201_61 rfl rfl rfl ?_
          obtain ⟨h_22, h⟩ := h
          refine ru_go (t := (63, [some (.inr (some a0)), some (.inl x1), some (.inl x2), some (.inl y0), some (.inl (sm_I M b_14 (256 * y0).toNatClampNeg)), z5], [], sm_putI M b_18 (y0).toNatClampNeg ((sm_I M b_18 (y0).toNatClampNeg) - 1))) sm_a201_62 rfl rfl (st_iast h_22 h_21) ?_
          refine ru_go (t := (64, [some (.inr (some a0)), some (.inl x1), some (.inl x2), some (.inl y0), some (.inl (sm_I M b_14 (256 * y0).toNatClampNeg)), z5], [.inl 0], sm_putI M b_18 (y0).toNatClampNeg ((sm_I M b_18 (y0).toNatClampNeg) - 1))) sm_a201_63 rfl rfl (st_iconst (by decide)) ?_
          refine ru_go (t := (66, [some (.inr (some a0)), some (.inl x1), some (.inl x2), some (.inl y0), some (.inl (sm_I M b_14 (256 * y0).toNatClampNeg)), some (.inl 0)], [], sm_putI M b_18 (y0).toNatClampNeg ((sm_I M b_18 (y0).toNatClampNeg) - 1))) sm_a201_64 rfl rfl rfl ?_
          exact h
        · have h := h.2 hc_13
          refine ru_go (t := (40, [some (.inr (some a0)), some (.inl x1), some (.inl x2), some (.inl y0), z4, z5], [.inl (-1)], M)) sm_a201_39 rfl rfl (st_iconst (by decide)) ?_
          exact ru_ret sm_a201_40 rfl h
    · have h := h.2 hc_2
      refine ru_go (t := (20, [some (.inr (some a0)), some (.inl x1), some (.inl x2), some (.inl y0), z4, z5], [.inl (-1)], M)) sm_a201_19 rfl rfl (st_iconst (by decide)) ?_
      exact ru_ret sm_a201_20 rfl h
theorem bb_201_66 {d : Nat} {M : sm_M} {Q : Option sm_V → sm_M → Prop} {a0 : Nat} {x1 : Int32} {x2 : Int32} {x3 : Int32} {x4 : Int32} {x5 : Int32}
    (h : sm_K M a0 = 39 ∧ ∃ b_2, sm_R M a0 15 = some b_2 ∧ sm_iA M b_2 ∧ sm_in_ M b_2 x3 ∧ (((sm_I M b_2 (x3).toNatClampNeg) ≤ x5 → Q (some (.inl x4)) M) ∧ (¬ ((sm_I M b_2 (x3).toNatClampNeg) ≤ x5) → ∃ b_7, sm_R M a0 17 = some b_7 ∧ sm_iA M b_7 ∧ sm_in_ M b_7 (((256 * x3) + x5) + 1) ∧ sm_wA 1 M b_7 ∧ sm_in_ M b_7 ((256 * x3) + x5) ∧ sm_Run (d + 1) 201 66 [some (.inr (some a0)), some (.inl x1), some (.inl x2), some (.inl x3), some (.inl x4), some (.inl (x5 + 1))] [] (sm_putI M b_7 ((256 * x3) + x5).toNatClampNeg (sm_I M b_7 (((256 * x3) + x5) + 1).toNatClampNeg)) Q))) :
    sm_Run (d + 1) 201 66 [some (.inr (some a0)), some (.inl x1), some (.inl x2), some (.inl x3), some (.inl x4), some (.inl x5)] [] M Q := by
  refine ru_go (t := (68, [some (.inr (some a0)), some (.inl x1), some (.inl x2), some (.inl x3), some (.inl x4), some (.inl x5)], [.inl x5], M)) sm_a201_66 rfl rfl rfl ?_
  refine ru_go (t := (69, [some (.inr (some a0)), some (.inl x1), some (.inl x2), some (.inl x3), some (.inl x4), some (.inl x5)], [.inr (some a0), .inl x5], M)) sm_a201_68 rfl rfl rfl ?_
  obtain ⟨h_1, h⟩ := h
  refine ru_go (t := (72, [some (.inr (some a0)), some (.inl x1), some (.inl x2), some (.inl x3), some (.inl x4), some (.inl x5)], [.inr (sm_R M a0 15), .inl x5], M)) sm_a201_69 rfl rfl (st_getR h_1 rfl rfl) ?_
  refine ru_go (t := (73, [some (.inr (some a0)), some (.inl x1), some (.inl x2), some (.inl x3), some (.inl x4), some (.inl x5)], [.inl x3, .inr (sm_R M a0 15), .inl x5], M)) sm_a201_72 rfl rfl rfl ?_
  obtain ⟨b_2, hb_3, h⟩ := h
  rw [hb_3]
  obtain ⟨h_4, h⟩ := h
  obtain ⟨h_5, h⟩ := h
  refine ru_go (t := (74, [some (.inr (some a0)), some (.inl x1), some (.inl x2), some (.inl x3), some (.inl x4), some (.inl x5)], [.inl (sm_I M b_2 (x3).toNatClampNeg), .inl x5], M)) sm_a201_73 rfl rfl (st_iald h_4 h_5) ?_
  refine ru_icmp (pc := 74) (p := 111) (p2 := 77) sm_a201_74 (by decide) rfl ⟨fun hc_6 => ?_, fun hc_6 => ?_⟩
  · have h := h.1 hc_6
    refine ru_go (t := (113, [some (.inr (some a0)), some (.inl x1), some (.inl x2), some (.inl x3), some (.inl x4), some (.inl x5)], [.inl x4], M)) sm_a201_111 rfl rfl rfl ?_
    exact ru_ret sm_a201_113 rfl h
  · have h := h.2 hc_6
    refine ru_go (t := (78, [some (.inr (some a0)), some (.inl x1), some (.inl x2), some (.inl x3), some (.inl x4), some (.inl x5)], [.inr (some a0)], M)) sm_a201_77 rfl rfl rfl ?_
    refine ru_go (t := (81, [some (.inr (some a0)), some (.inl x1), some (.inl x2), some (.inl x3), some (.inl x4), some (.inl x5)], [.inr (sm_R M a0 17)], M)) sm_a201_78 rfl rfl (st_getR h_1 rfl rfl) ?_
    refine ru_go (t := (84, [some (.inr (some a0)), some (.inl x1), some (.inl x2), some (.inl x3), some (.inl x4), some (.inl x5)], [.inl 256, .inr (sm_R M a0 17)], M)) sm_a201_81 rfl rfl (st_sipush (by decide)) ?_
    refine ru_go (t := (85, [some (.inr (some a0)), some (.inl x1), some (.inl x2), some (.inl x3), some (.inl x4), some (.inl x5)], [.inl x3, .inl 256, .inr (sm_R M a0 17)], M)) sm_a201_84 rfl rfl rfl ?_
    refine ru_go (t := (86, [some (.inr (some a0)), some (.inl x1), some (.inl x2), some (.inl x3), some (.inl x4), some (.inl x5)], [.inl (256 * x3), .inr (sm_R M a0 17)], M)) sm_a201_85 rfl rfl rfl ?_
    refine ru_go (t := (88, [some (.inr (some a0)), some (.inl x1), some (.inl x2), some (.inl x3), some (.inl x4), some (.inl x5)], [.inl x5, .inl (256 * x3), .inr (sm_R M a0 17)], M)) sm_a201_86 rfl rfl rfl ?_
    refine ru_go (t := (89, [some (.inr (some a0)), some (.inl x1), some (.inl x2), some (.inl x3), some (.inl x4), some (.inl x5)], [.inl ((256 * x3) + x5), .inr (sm_R M a0 17)], M)) sm_a201_88 rfl rfl rfl ?_
    refine ru_go (t := (90, [some (.inr (some a0)), some (.inl x1), some (.inl x2), some (.inl x3), some (.inl x4), some (.inl x5)], [.inr (some a0), .inl ((256 * x3) + x5), .inr (sm_R M a0 17)], M)) sm_a201_89 rfl rfl rfl ?_
    refine ru_go (t := (93, [some (.inr (some a0)), some (.inl x1), some (.inl x2), some (.inl x3), some (.inl x4), some (.inl x5)], [.inr (sm_R M a0 17), .inl ((256 * x3) + x5), .inr (sm_R M a0 17)], M)) sm_a201_90 rfl rfl (st_getR h_1 rfl rfl) ?_
    refine ru_go (t := (96, [some (.inr (some a0)), some (.inl x1), some (.inl x2), some (.inl x3), some (.inl x4), some (.inl x5)], [.inl 256, .inr (sm_R M a0 17), .inl ((256 * x3) + x5), .inr (sm_R M a0 17)], M)) sm_a201_93 rfl rfl (st_sipush (by decide)) ?_
    refine ru_go (t := (97, [some (.inr (some a0)), some (.inl x1), some (.inl x2), some (.inl x3), some (.inl x4), some (.inl x5)], [.inl x3, .inl 256, .inr (sm_R M a0 17), .inl ((256 * x3) + x5), .inr (sm_R M a0 17)], M)) sm_a201_96 rfl rfl rfl ?_
    refine ru_go (t := (98, [some (.inr (some a0)), some (.inl x1), some (.inl x2), some (.inl x3), some (.inl x4), some (.inl x5)], [.inl (256 * x3), .inr (sm_R M a0 17), .inl ((256 * x3) + x5), .inr (sm_R M a0 17)], M)) sm_a201_97 rfl rfl rfl ?_
    refine ru_go (t := (100, [some (.inr (some a0)), some (.inl x1), some (.inl x2), some (.inl x3), some (.inl x4), some (.inl x5)], [.inl x5, .inl (256 * x3), .inr (sm_R M a0 17), .inl ((256 * x3) + x5), .inr (sm_R M a0 17)], M)) sm_a201_98 rfl rfl rfl ?_
    refine ru_go (t := (101, [some (.inr (some a0)), some (.inl x1), some (.inl x2), some (.inl x3), some (.inl x4), some (.inl x5)], [.inl ((256 * x3) + x5), .inr (sm_R M a0 17), .inl ((256 * x3) + x5), .inr (sm_R M a0 17)], M)) sm_a201_100 rfl rfl rfl ?_
    refine ru_go (t := (102, [some (.inr (some a0)), some (.inl x1), some (.inl x2), some (.inl x3), some (.inl x4), some (.inl x5)], [.inl 1, .inl ((256 * x3) + x5), .inr (sm_R M a0 17), .inl ((256 * x3) + x5), .inr (sm_R M a0 17)], M)) sm_a201_101 rfl rfl (st_iconst (by decide)) ?_
    refine ru_go (t := (103, [some (.inr (some a0)), some (.inl x1), some (.inl x2), some (.inl x3), some (.inl x4), some (.inl x5)], [.inl (((256 * x3) + x5) + 1), .inr (sm_R M a0 17), .inl ((256 * x3) + x5), .inr (sm_R M a0 17)], M)) sm_a201_102 rfl rfl rfl ?_
    obtain ⟨b_7, hb_8, h⟩ := h
    rw [hb_8]
    obtain ⟨h_9, h⟩ := h
    obtain ⟨h_10, h⟩ := h
    refine ru_go (t := (104, [some (.inr (some a0)), some (.inl x1), some (.inl x2), some (.inl x3), some (.inl x4), some (.inl x5)], [.inl (sm_I M b_7 (((256 * x3) + x5) + 1).toNatClampNeg), .inl ((256 * x3) + x5), .inr (some b_7)], M)) sm_a201_103 rfl rfl (st_iald h_9 h_10) ?_
    obtain ⟨h_11, h⟩ := h
    obtain ⟨h_12, h⟩ := h
    refine ru_go (t := (105, [some (.inr (some a0)), some (.inl x1), some (.inl x2), some (.inl x3), some (.inl x4), some (.inl x5)], [], sm_putI M b_7 ((256 * x3) + x5).toNatClampNeg (sm_I M b_7 (((256 * x3) + x5) + 1).toNatClampNeg))) sm_a201_104 rfl rfl (st_iast h_11 h_12) ?_
    refine ru_go (t := (108, [some (.inr (some a0)), some (.inl x1), some (.inl x2), some (.inl x3), some (.inl x4), some (.inl (x5 + 1))], [], sm_putI M b_7 ((256 * x3) + x5).toNatClampNeg (sm_I M b_7 (((256 * x3) + x5) + 1).toNatClampNeg))) sm_a201_105 rfl rfl (st_iinc rfl (by decide)) ?_
    refine ru_go (t := (66, [some (.inr (some a0)), some (.inl x1), some (.inl x2), some (.inl x3), some (.inl x4), some (.inl (x5 + 1))], [], sm_putI M b_7 ((256 * x3) + x5).toNatClampNeg (sm_I M b_7 (((256 * x3) + x5) + 1).toNatClampNeg))) sm_a201_108 rfl rfl (st_goto (pc := 108) (by decide)) ?_
    exact h

/-! WireBusModel.fault:(III)Z -/
theorem sm_a202_0 : sm_at 202 0 = some (.iconst 0, 1, (0, 0, 0, 0)) := by decide +kernel
theorem sm_a202_1 : sm_at 202 1 = some (.istore 4, 2, (0, 0, 0, 0)) := by decide +kernel
theorem sm_a202_3 : sm_at 202 3 = some (.iconst 0, 1, (0, 0, 0, 0)) := by decide +kernel
theorem sm_a202_4 : sm_at 202 4 = some (.istore 5, 2, (0, 0, 0, 0)) := by decide +kernel
theorem sm_a202_6 : sm_at 202 6 = some (.iload 5, 2, (0, 0, 0, 0)) := by decide +kernel
theorem sm_a202_8 : sm_at 202 8 = some (.aload_n 0, 1, (0, 0, 0, 0)) := by decide +kernel
theorem sm_a202_9 : sm_at 202 9 = some (.getfield 259, 3, (12, 33, 0, 1216)) := by decide +kernel
theorem sm_a202_12 : sm_at 202 12 = some (.if_icmp .ge 32, 3, (0, 0, 0, 0)) := by decide +kernel
theorem sm_a202_15 : sm_at 202 15 = some (.iload 4, 2, (0, 0, 0, 0)) := by decide +kernel
theorem sm_a202_17 : sm_at 202 17 = some (.ifCond .ne 14, 3, (0, 0, 0, 0)) := by decide +kernel
theorem sm_a202_20 : sm_at 202 20 = some (.aload_n 0, 1, (0, 0, 0, 0)) := by decide +kernel
theorem sm_a202_21 : sm_at 202 21 = some (.getfield 101, 3, (12, 34, 0, 1217)) := by decide +kernel
theorem sm_a202_24 : sm_at 202 24 = some (.iload 5, 2, (0, 0, 0, 0)) := by decide +kernel
theorem sm_a202_26 : sm_at 202 26 = some (.iaload, 1, (0, 0, 0, 0)) := by decide +kernel
theorem sm_a202_27 : sm_at 202 27 = some (.iload_n 1, 1, (0, 0, 0, 0)) := by decide +kernel
theorem sm_a202_28 : sm_at 202 28 = some (.if_icmp .ne 7, 3, (0, 0, 0, 0)) := by decide +kernel
theorem sm_a202_31 : sm_at 202 31 = some (.iconst 1, 1, (0, 0, 0, 0)) := by decide +kernel
theorem sm_a202_32 : sm_at 202 32 = some (.goto 4, 3, (0, 0, 0, 0)) := by decide +kernel
theorem sm_a202_35 : sm_at 202 35 = some (.iconst 0, 1, (0, 0, 0, 0)) := by decide +kernel
theorem sm_a202_36 : sm_at 202 36 = some (.istore 4, 2, (0, 0, 0, 0)) := by decide +kernel
theorem sm_a202_38 : sm_at 202 38 = some (.iinc 5 1, 3, (0, 0, 0, 0)) := by decide +kernel
theorem sm_a202_41 : sm_at 202 41 = some (.goto (-35), 3, (0, 0, 0, 0)) := by decide +kernel
theorem sm_a202_44 : sm_at 202 44 = some (.iload_n 1, 1, (0, 0, 0, 0)) := by decide +kernel
theorem sm_a202_45 : sm_at 202 45 = some (.aload_n 0, 1, (0, 0, 0, 0)) := by decide +kernel
theorem sm_a202_46 : sm_at 202 46 = some (.getfield 256, 3, (12, 32, 0, 1215)) := by decide +kernel
theorem sm_a202_49 : sm_at 202 49 = some (.if_icmp .lt 34, 3, (0, 0, 0, 0)) := by decide +kernel
theorem sm_a202_52 : sm_at 202 52 = some (.iload 4, 2, (0, 0, 0, 0)) := by decide +kernel
theorem sm_a202_54 : sm_at 202 54 = some (.ifCond .ne 29, 3, (0, 0, 0, 0)) := by decide +kernel
theorem sm_a202_57 : sm_at 202 57 = some (.aload_n 0, 1, (0, 0, 0, 0)) := by decide +kernel
theorem sm_a202_58 : sm_at 202 58 = some (.getfield 259, 3, (12, 33, 0, 1216)) := by decide +kernel
theorem sm_a202_61 : sm_at 202 61 = some (.bipush 50, 2, (0, 0, 0, 0)) := by decide +kernel
theorem sm_a202_63 : sm_at 202 63 = some (.if_icmp .eq 20, 3, (0, 0, 0, 0)) := by decide +kernel
theorem sm_a202_66 : sm_at 202 66 = some (.iload_n 2, 1, (0, 0, 0, 0)) := by decide +kernel
theorem sm_a202_67 : sm_at 202 67 = some (.ifCond .lt 16, 3, (0, 0, 0, 0)) := by decide +kernel
theorem sm_a202_70 : sm_at 202 70 = some (.iload_n 2, 1, (0, 0, 0, 0)) := by decide +kernel
theorem sm_a202_71 : sm_at 202 71 = some (.iconst 3, 1, (0, 0, 0, 0)) := by decide +kernel
theorem sm_a202_72 : sm_at 202 72 = some (.if_icmp .gt 11, 3, (0, 0, 0, 0)) := by decide +kernel
theorem sm_a202_75 : sm_at 202 75 = some (.iload_n 2, 1, (0, 0, 0, 0)) := by decide +kernel
theorem sm_a202_76 : sm_at 202 76 = some (.ifCond .le 9, 3, (0, 0, 0, 0)) := by decide +kernel
theorem sm_a202_79 : sm_at 202 79 = some (.iload_n 3, 1, (0, 0, 0, 0)) := by decide +kernel
theorem sm_a202_80 : sm_at 202 80 = some (.ifCond .ge 5, 3, (0, 0, 0, 0)) := by decide +kernel
theorem sm_a202_83 : sm_at 202 83 = some (.iconst 0, 1, (0, 0, 0, 0)) := by decide +kernel
theorem sm_a202_84 : sm_at 202 84 = some (.ireturn, 1, (0, 0, 0, 0)) := by decide +kernel
theorem sm_a202_85 : sm_at 202 85 = some (.aload_n 0, 1, (0, 0, 0, 0)) := by decide +kernel
theorem sm_a202_86 : sm_at 202 86 = some (.getfield 101, 3, (12, 34, 0, 1217)) := by decide +kernel
theorem sm_a202_89 : sm_at 202 89 = some (.aload_n 0, 1, (0, 0, 0, 0)) := by decide +kernel
theorem sm_a202_90 : sm_at 202 90 = some (.getfield 259, 3, (12, 33, 0, 1216)) := by decide +kernel
theorem sm_a202_93 : sm_at 202 93 = some (.iload_n 1, 1, (0, 0, 0, 0)) := by decide +kernel
theorem sm_a202_94 : sm_at 202 94 = some (.iastore, 1, (1, 0, 0, 0)) := by decide +kernel
theorem sm_a202_95 : sm_at 202 95 = some (.aload_n 0, 1, (0, 0, 0, 0)) := by decide +kernel
theorem sm_a202_96 : sm_at 202 96 = some (.getfield 104, 3, (12, 35, 0, 1218)) := by decide +kernel
theorem sm_a202_99 : sm_at 202 99 = some (.aload_n 0, 1, (0, 0, 0, 0)) := by decide +kernel
theorem sm_a202_100 : sm_at 202 100 = some (.getfield 259, 3, (12, 33, 0, 1216)) := by decide +kernel
theorem sm_a202_103 : sm_at 202 103 = some (.iload_n 2, 1, (0, 0, 0, 0)) := by decide +kernel
theorem sm_a202_104 : sm_at 202 104 = some (.iastore, 1, (1, 0, 0, 0)) := by decide +kernel
theorem sm_a202_105 : sm_at 202 105 = some (.aload_n 0, 1, (0, 0, 0, 0)) := by decide +kernel
theorem sm_a202_106 : sm_at 202 106 = some (.getfield 107, 3, (12, 36, 0, 1219)) := by decide +kernel
theorem sm_a202_109 : sm_at 202 109 = some (.aload_n 0, 1, (0, 0, 0, 0)) := by decide +kernel
theorem sm_a202_110 : sm_at 202 110 = some (.getfield 259, 3, (12, 33, 0, 1216)) := by decide +kernel
theorem sm_a202_113 : sm_at 202 113 = some (.iload_n 3, 1, (0, 0, 0, 0)) := by decide +kernel
theorem sm_a202_114 : sm_at 202 114 = some (.iastore, 1, (1, 0, 0, 0)) := by decide +kernel
theorem sm_a202_115 : sm_at 202 115 = some (.aload_n 0, 1, (0, 0, 0, 0)) := by decide +kernel
theorem sm_a202_116 : sm_at 202 116 = some (.dup, 1, (0, 0, 0, 0)) := by decide +kernel
theorem sm_a202_117 : sm_at 202 117 = some (.getfield 259, 3, (12, 33, 0, 1216)) := by decide +kernel
theorem sm_a202_120 : sm_at 202 120 = some (.iconst 1, 1, (0, 0, 0, 0)) := by decide +kernel
theorem sm_a202_121 : sm_at 202 121 = some (.iadd, 1, (0, 0, 0, 0)) := by decide +kernel
theorem sm_a202_122 : sm_at 202 122 = some (.putfield 259, 3, (12, 33, 0, 1216)) := by decide +kernel
theorem sm_a202_125 : sm_at 202 125 = some (.iconst 1, 1, (0, 0, 0, 0)) := by decide +kernel
theorem sm_a202_126 : sm_at 202 126 = some (.ireturn, 1, (0, 0, 0, 0)) := by decide +kernel
theorem bb_202_0 {d : Nat} {M : sm_M} {Q : Option sm_V → sm_M → Prop} {a0 : Nat} {x1 : Int32} {x2 : Int32} {x3 : Int32} {z4 : Option sm_V} {z5 : Option sm_V}
    (h : sm_Run d 202 6 [some (.inr (some a0)), some (.inl x1), some (.inl x2), some (.inl x3), some (.inl 0), some (.inl 0)] [] M Q) :
    sm_Run d 202 0 [some (.inr (some a0)), some (.inl x1), some (.inl x2), some (.inl x3), z4, z5] [] M Q := by
  refine ru_go (t := (1, [some (.inr (some a0)), some (.inl x1), some (.inl x2), some (.inl x3), z4, z5], [.inl 0], M)) sm_a202_0 rfl rfl (st_iconst (by decide)) ?_
  refine ru_go (t := (3, [some (.inr (some a0)), some (.inl x1), some (.inl x2), some (.inl x3), some (.inl 0), z5], [], M)) sm_a202_1 rfl rfl rfl ?_
  refine ru_go (t := (4, [some (.inr (some a0)), some (.inl x1), some (.inl x2), some (.inl x3), some (.inl 0), z5], [.inl 0], M)) sm_a202_3 rfl rfl (st_iconst (by decide)) ?_
  refine ru_go (t := (6, [some (.inr (some a0)), some (.inl x1), some (.inl x2), some (.inl x3), some (.inl 0), some (.inl 0)], [], M)) sm_a202_4 rfl rfl rfl ?_
  exact h
theorem bb_202_6 {d : Nat} {M : sm_M} {Q : Option sm_V → sm_M → Prop} {a0 : Nat} {x1 : Int32} {x2 : Int32} {x3 : Int32} {x4 : Int32} {x5 : Int32}
    (h : sm_K M a0 = 39 ∧ (((sm_I M a0 33) ≤ x5 → ((x1 < (sm_I M a0 32) → Q (some (.inl 0)) M) ∧ (¬ (x1 < (sm_I M a0 32)) → ((¬ x4 = 0 → Q (some (.inl 0)) M) ∧ (¬ (¬ x4 = 0) → (((sm_I M a0 33) = 50 → Q (some (.inl 0)) M) ∧ (¬ ((sm_I M a0 33) = 50) → ((x2 < 0 → Q (some (.inl 0)) M) ∧ (¬ (x2 < 0) → ((3 < x2 → Q (some (.inl 0)) M) ∧ (¬ (3 < x2) → ((x2 ≤ 0 → sm_Run d 202 85 [some (.inr (some a0)), some (.inl x1), some (.inl x2), some (.inl x3), some (.inl x4), some (.inl x5)] [] M Q) ∧ (¬ (x2 ≤ 0) → ((0 ≤ x3 → sm_Run d 202 85 [some (.inr (some a0)), some (.inl x1), some (.inl x2), some (.inl x3), some (.inl x4), some (.inl x5)] [] M Q) ∧ (¬ (0 ≤ x3) → Q (some (.inl 0)) M))))))))))))))) ∧ (¬ ((sm_I M a0 33) ≤ x5) → ((¬ x4 = 0 → sm_Run d 202 6 [some (.inr (some a0)), some (.inl x1), some (.inl x2), some (.inl x3), some (.inl 1), some (.inl (x5 + 1))] [] M Q) ∧ (¬ (¬ x4 = 0) → ∃ b_11, sm_R M a0 34 = some b_11 ∧ sm_iA M b_11 ∧ sm_in_ M b_11 x5 ∧ ((¬ (sm_I M b_11 (x5).toNatClampNeg) = x1 → sm_Run d 202 6 [some (.inr (some a0)), some (.inl x1), some (.inl x2), some (.inl x3), some (.inl 0), some (.inl (x5 + 1))] [] M Q) ∧ (¬ (¬ (sm_I M b_11 (x5).toNatClampNeg) = x1) → sm_Run d 202 6 [some (.inr (some a0)), some (.inl x1), some (.inl x2), some (.inl x3), some (.inl 1), some (.inl (x5 + 1))] [] M Q))))))) :
    sm_Run d 202 6 [some (.inr (some a0)), some (.inl x1), some (.inl x2), some (.inl x3), some (.inl x4), some (.inl x5)] [] M Q := by
  refine ru_go (t := (8, [some (.inr (some a0)), some (.inl x1), some (.inl x2), some (.inl x3), some (.inl x4), some (.inl x5)], [.inl x5], M)) sm_a202_6 rfl rfl rfl ?_
  refine ru_go (t := (9, [some (.inr (some a0)), some (.inl x1), some (.inl x2), some (.inl x3), some (.inl x4), some (.inl x5)], [.inr (some a0), .inl x5], M)) sm_a202_8 rfl rfl rfl ?_
  obtain ⟨h_1, h⟩ := h
  refine ru_go (t := (12, [some (.inr (some a0)), some (.inl x1), some (.inl x2), some (.inl x3), some (.inl x4), some (.inl x5)], [.inl (sm_I M a0 33), .inl x5], M)) sm_a202_9 rfl rfl (st_getI h_1 rfl) ?_
  refine ru_icmp (pc := 12) (p := 44) (p2 := 15) sm_a202_12 (by decide) rfl ⟨fun hc_2 => ?_, fun hc_2 => ?_⟩
  · have h := h.1 hc_2
    refine ru_go (t := (45, [some (.inr (some a0)), some (.inl x1), some (.inl x2), some (.inl x3), some (.inl x4), some (.inl x5)], [.inl x1], M)) sm_a202_44 rfl rfl rfl ?_
    refine ru_go (t := (46, [some (.inr (some a0)), some (.inl x1), some (.inl x2), some (.inl x3), some (.inl x4), some (.inl x5)], [.inr (some a0), .inl x1], M)) sm_a202_45 rfl rfl rfl ?_
    refine ru_go (t := (49, [some (.inr (some a0)), some (.inl x1), some (.inl x2), some (.inl x3), some (.inl x4), some (.inl x5)], [.inl (sm_I M a0 32), .inl x1], M)) sm_a202_46 rfl rfl (st_getI h_1 rfl) ?_
    refine ru_icmp (pc := 49) (p := 83) (p2 := 52) sm_a202_49 (by decide) rfl ⟨fun hc_3 => ?_, fun hc_3 => ?_⟩
    · have h := h.1 hc_3
      refine ru_go (t := (84, [some (.inr (some a0)), some (.inl x1), some (.inl x2), some (.inl x3), some (.inl x4), some (.inl x5)], [.inl 0], M)) sm_a202_83 rfl rfl (st_iconst (by decide)) ?_
      exact ru_ret sm_a202_84 (sm_rvz rfl (by decide)) h
    · have h := h.2 hc_3
      refine ru_go (t := (54, [some (.inr (some a0)), some (.inl x1), some (.inl x2), some (.inl x3), some (.inl x4), some (.inl x5)], [.inl x4], M)) sm_a202_52 rfl rfl rfl ?_
      refine ru_if (pc := 54) (p := 83) (p2 := 57) sm_a202_54 (by decide) rfl ⟨fun hc_4 => ?_, fun hc_4 => ?_⟩
      · have h := h.1 hc_4
        refine ru_go (t := (84, [some (.inr (some a0)), some (.inl x1), some (.inl x2), some (.inl x3), some (.inl x4), some (.inl x5)], [.inl 0], M)) sm_a202_83 rfl rfl (st_iconst (by decide)) ?_
        exact ru_ret sm_a202_84 (sm_rvz rfl (by decide)) h
      · have h := h.2 hc_4
        refine ru_go (t := (58, [some (.inr (some a0)), some (.inl x1), some (.inl x2), some (.inl x3), some (.inl x4), some (.inl x5)], [.inr (some a0)], M)) sm_a202_57 rfl rfl rfl ?_
        refine ru_go (t := (61, [some (.inr (some a0)), some (.inl x1), some (.inl x2), some (.inl x3), some (.inl x4), some (.inl x5)], [.inl (sm_I M a0 33)], M)) sm_a202_58 rfl rfl (st_getI h_1 rfl) ?_
        refine ru_go (t := (63, [some (.inr (some a0)), some (.inl x1), some (.inl x2), some (.inl x3), some (.inl x4), some (.inl x5)], [.inl 50, .inl (sm_I M a0 33)], M)) sm_a202_61 rfl rfl (st_bipush (by decide)) ?_
        refine ru_icmp (pc := 63) (p := 83) (p2 := 66) sm_a202_63 (by decide) rfl ⟨fun hc_5 => ?_, fun hc_5 => ?_⟩
        · have h := h.1 hc_5
          refine ru_go (t := (84, [some (.inr (some a0)), some (.inl x1), some (.inl x2), some (.inl x3), some (.inl x4), some (.inl x5)], [.inl 0], M)) sm_a202_83 rfl rfl (st_iconst (by decide)) ?_
          exact ru_ret sm_a202_84 (sm_rvz rfl (by decide)) h
        · have h := h.2 hc_5
          refine ru_go (t := (67, [some (.inr (some a0)), some (.inl x1), some (.inl x2), some (.inl x3), some (.inl x4), some (.inl x5)], [.inl x2], M)) sm_a202_66 rfl rfl rfl ?_
          refine ru_if (pc := 67) (p := 83) (p2 := 70) sm_a202_67 (by decide) rfl ⟨fun hc_6 => ?_, fun hc_6 => ?_⟩
          · have h := h.1 hc_6
            refine ru_go (t := (84, [some (.inr (some a0)), some (.inl x1), some (.inl x2), some (.inl x3), some (.inl x4), some (.inl x5)], [.inl 0], M)) sm_a202_83 rfl rfl (st_iconst (by decide)) ?_
            exact ru_ret sm_a202_84 (sm_rvz rfl (by decide)) h
          · have h := h.2 hc_6
            refine ru_go (t := (71, [some (.inr (some a0)), some (.inl x1), some (.inl x2), some (.inl x3), some (.inl x4), some (.inl x5)], [.inl x2], M)) sm_a202_70 rfl rfl rfl ?_
            refine ru_go (t := (72, [some (.inr (some a0)), some (.inl x1), some (.inl x2), some (.inl x3), some (.inl x4), some (.inl x5)], [.inl 3, .inl x2], M)) sm_a202_71 rfl rfl (st_iconst (by decide)) ?_
            refine ru_icmp (pc := 72) (p := 83) (p2 := 75) sm_a202_72 (by decide) rfl ⟨fun hc_7 => ?_, fun hc_7 => ?_⟩
            · have h := h.1 hc_7
              refine ru_go (t := (84, [some (.inr (some a0)), some (.inl x1), some (.inl x2), some (.inl x3), some (.inl x4), some (.inl x5)], [.inl 0], M)) sm_a202_83 rfl rfl (st_iconst (by decide)) ?_
              exact ru_ret sm_a202_84 (sm_rvz rfl (by decide)) h
            · have h := h.2 hc_7
              refine ru_go (t := (76, [some (.inr (some a0)), some (.inl x1), some (.inl x2), some (.inl x3), some (.inl x4), some (.inl x5)], [.inl x2], M)) sm_a202_75 rfl rfl rfl ?_
              refine ru_if (pc := 76) (p := 85) (p2 := 79) sm_a202_76 (by decide) rfl ⟨fun hc_8 => ?_, fun hc_8 => ?_⟩
              · have h := h.1 hc_8
                exact h
              · have h := h.2 hc_8
                refine ru_go (t := (80, [some (.inr (some a0)), some (.inl x1), some (.inl x2), some (.inl x3), some (.inl x4), some (.inl x5)], [.inl x3], M)) sm_a202_79 rfl rfl rfl ?_
                refine ru_if (pc := 80) (p := 85) (p2 := 83) sm_a202_80 (by decide) rfl ⟨fun hc_9 => ?_, fun hc_9 => ?_⟩
                · have h := h.1 hc_9
                  exact h
                · have h := h.2 hc_9
                  refine ru_go (t := (84, [some (.inr (some a0)), some (.inl x1), some (.inl x2), some (.inl x3), some (.inl x4), some (.inl x5)], [.inl 0], M)) sm_a202_83 rfl rfl (st_iconst (by decide)) ?_
                  exact ru_ret sm_a202_84 (sm_rvz rfl (by decide)) h
  · have h := h.2 hc_2
    refine ru_go (t := (17, [some (.inr (some a0)), some (.inl x1), some (.inl x2), some (.inl x3), some (.inl x4), some (.inl x5)], [.inl x4], M)) sm_a202_15 rfl rfl rfl ?_
    refine ru_if (pc := 17) (p := 31) (p2 := 20) sm_a202_17 (by decide) rfl ⟨fun hc_10 => ?_, fun hc_10 => ?_⟩
    · have h := h.1 hc_10
      refine ru_go (t := (32, [some (.inr (some a0)), some (.inl x1), some (.inl x2), some (.inl x3), some (.inl x4), some (.inl x5)], [.inl 1], M)) sm_a202_31 rfl rfl (st_iconst (by decide)) ?_
      refine ru_go (t := (36, [some (.inr (some a0)), some (.inl x1), some (.inl x2), some (.inl x3), some (.inl x4), some (.inl x5)], [.inl 1], M)) sm_a202_32 rfl rfl (st_goto (pc := 32) (by decide)) ?_
      refine ru_go (t := (38, [some (.inr (some a0)), some (.inl x1), some (.inl x2), some (.inl x3), some (.inl 1), some (.inl x5)], [], M)) sm_a202_36 rfl rfl rfl ?_
      refine ru_go (t := (41, [some (.inr (some a0)), some (.inl x1), some (.inl x2), some (.inl x3), some (.inl 1), some (.inl (x5 + 1))], [], M)) sm_a202_38 rfl rfl (st_iinc rfl (by decide)) ?_
      refine ru_go (t := (6, [some (.inr (some a0)), some (.inl x1), some (.inl x2), some (.inl x3), some (.inl 1), some (.inl (x5 + 1))], [], M)) sm_a202_41 rfl rfl (st_goto (pc := 41) (by decide)) ?_
      exact h
    · have h := h.2 hc_10
      refine ru_go (t := (21, [some (.inr (some a0)), some (.inl x1), some (.inl x2), some (.inl x3), some (.inl x4), some (.inl x5)], [.inr (some a0)], M)) sm_a202_20 rfl rfl rfl ?_
      refine ru_go (t := (24, [some (.inr (some a0)), some (.inl x1), some (.inl x2), some (.inl x3), some (.inl x4), some (.inl x5)], [.inr (sm_R M a0 34)], M)) sm_a202_21 rfl rfl (st_getR h_1 rfl rfl) ?_
      refine ru_go (t := (26, [some (.inr (some a0)), some (.inl x1), some (.inl x2), some (.inl x3), some (.inl x4), some (.inl x5)], [.inl x5, .inr (sm_R M a0 34)], M)) sm_a202_24 rfl rfl rfl ?_
      obtain ⟨b_11, hb_12, h⟩ := h
      rw [hb_12]
      obtain ⟨h_13, h⟩ := h
      obtain ⟨h_14, h⟩ := h
      refine ru_go (t := (27, [some (.inr (some a0)), some (.inl x1), some (.inl x2), some (.inl x3), some (.inl x4), some (.inl x5)], [.inl (sm_I M b_11 (x5).toNatClampNeg)], M)) sm_a202_26 rfl rfl (st_iald h_13 h_14) ?_
      refine ru_go (t := (28, [some (.inr (some a0)), some (.inl x1), some (.inl x2), some (.inl x3), some (.inl x4), some (.inl x5)], [.inl x1, .inl (sm_I M b_11 (x5).toNatClampNeg)], M)) sm_a202_27 rfl rfl rfl ?_
      refine ru_icmp (pc := 28) (p := 35) (p2 := 31) sm_a202_28 (by decide) rfl ⟨fun hc_15 => ?_, fun hc_15 => ?_⟩
      · have h := h.1 hc_15
        refine ru_go (t := (36, [some (.inr (some a0)), some (.inl x1), some (.inl x2), some (.inl x3), some (.inl x4), some (.inl x5)], [.inl 0], M)) sm_a202_35 rfl rfl (st_iconst (by decide)) ?_
        refine ru_go (t := (38, [some (.inr (some a0)), some (.inl x1), some (.inl x2), some (.inl x3), some (.inl 0), some (.inl x5)], [], M)) sm_a202_36 rfl rfl rfl ?_
        refine ru_go (t := (41, [some (.inr (some a0)), some (.inl x1), some (.inl x2), some (.inl x3), some (.inl 0), some (.inl (x5 + 1))], [], M)) sm_a202_38 rfl rfl (st_iinc rfl (by decide)) ?_
        refine ru_go (t := (6, [some (.inr (some a0)), some (.inl x1), some (.inl x2), some (.inl x3), some (.inl 0), some (.inl (x5 + 1))], [], M)) sm_a202_41 rfl rfl (st_goto (pc := 41) (by decide)) ?_
        exact h
      · have h := h.2 hc_15
        refine ru_go (t := (32, [some (.inr (some a0)), some (.inl x1), some (.inl x2), some (.inl x3), some (.inl x4), some (.inl x5)], [.inl 1], M)) sm_a202_31 rfl rfl (st_iconst (by decide)) ?_
        refine ru_go (t := (36, [some (.inr (some a0)), some (.inl x1), some (.inl x2), some (.inl x3), some (.inl x4), some (.inl x5)], [.inl 1], M)) sm_a202_32 rfl rfl (st_goto (pc := 32) (by decide)) ?_
        refine ru_go (t := (38, [some (.inr (some a0)), some (.inl x1), some (.inl x2), some (.inl x3), some (.inl 1), some (.inl x5)], [], M)) sm_a202_36 rfl rfl rfl ?_
        refine ru_go (t := (41, [some (.inr (some a0)), some (.inl x1), some (.inl x2), some (.inl x3), some (.inl 1), some (.inl (x5 + 1))], [], M)) sm_a202_38 rfl rfl (st_iinc rfl (by decide)) ?_
        refine ru_go (t := (6, [some (.inr (some a0)), some (.inl x1), some (.inl x2), some (.inl x3), some (.inl 1), some (.inl (x5 + 1))], [], M)) sm_a202_41 rfl rfl (st_goto (pc := 41) (by decide)) ?_
        exact h
theorem bb_202_85 {d : Nat} {M : sm_M} {Q : Option sm_V → sm_M → Prop} {a0 : Nat} {x1 : Int32} {x2 : Int32} {x3 : Int32} {x4 : Int32} {x5 : Int32}
    (h : sm_K M a0 = 39 ∧ ∃ b_2, sm_R M a0 34 = some b_2 ∧ sm_wA 1 M b_2 ∧ sm_in_ M b_2 (sm_I M a0 33) ∧ ∃ b_6, sm_R (sm_putI M b_2 (sm_I M a0 33).toNatClampNeg x1) a0 35 = some b_6 ∧ sm_wA 1 M b_6 ∧ sm_in_ M b_6 (sm_I (sm_putI M b_2 (sm_I M a0 33).toNatClampNeg x1) a0 33) ∧ ∃ b_10, sm_R (sm_putI (sm_putI M b_2 (sm_I M a0 33).toNatClampNeg x1) b_6 (sm_I (sm_putI M b_2 (sm_I M a0 33).toNatClampNeg x1) a0 33).toNatClampNeg x2) a0 36 = some b_10 ∧ sm_wA 1 M b_10 ∧ sm_in_ M b_10 (sm_I (sm_putI (sm_putI M b_2 (sm_I M a0 33).toNatClampNeg x1) b_6 (sm_I (sm_putI M b_2 (sm_I M a0 33).toNatClampNeg x1) a0 33).toNatClampNeg x2) a0 33) ∧ sm_Run d 202 125 [some (.inr (some a0)), some (.inl x1), some (.inl x2), some (.inl x3), some (.inl x4), some (.inl x5)] [] (sm_putI (sm_putI (sm_putI (sm_putI M b_2 (sm_I M a0 33).toNatClampNeg x1) b_6 (sm_I (sm_putI M b_2 (sm_I M a0 33).toNatClampNeg x1) a0 33).toNatClampNeg x2) b_10 (sm_I (sm_putI (sm_putI M b_2 (sm_I M a0 33).toNatClampNeg x1) b_6 (sm_I (sm_putI M b_2 (sm_I M a0 33).toNatClampNeg x1) a0 33).toNatClampNeg x2) a0 33).toNatClampNeg x3) a0 33 ((sm_I (sm_putI (sm_putI (sm_putI M b_2 (sm_I M a0 33).toNatClampNeg x1) b_6 (sm_I (sm_putI M b_2 (sm_I M a0 33).toNatClampNeg x1) a0 33).toNatClampNeg x2) b_10 (sm_I (sm_putI (sm_putI M b_2 (sm_I M a0 33).toNatClampNeg x1) b_6 (sm_I (sm_putI M b_2 (sm_I M a0 33).toNatClampNeg x1) a0 33).toNatClampNeg x2) a0 33).toNatClampNeg x3) a0 33) + 1)) Q) :
    sm_Run d 202 85 [some (.inr (some a0)), some (.inl x1), some (.inl x2), some (.inl x3), some (.inl x4), some (.inl x5)] [] M Q := by
  refine ru_go (t := (86, [some (.inr (some a0)), some (.inl x1), some (.inl x2), some (.inl x3), some (.inl x4), some (.inl x5)], [.inr (some a0)], M)) sm_a202_85 rfl rfl rfl ?_
  obtain ⟨h_1, h⟩ := h
  refine ru_go (t := (89, [some (.inr (some a0)), some (.inl x1), some (.inl x2), some (.inl x3), some (.inl x4), some (.inl x5)], [.inr (sm_R M a0 34)], M)) sm_a202_86 rfl rfl (st_getR h_1 rfl rfl) ?_
  refine ru_go (t := (90, [some (.inr (some a0)), some (.inl x1), some (.inl x2), some (.inl x3), some (.inl x4), some (.inl x5)], [.inr (some a0), .inr (sm_R M a0 34)], M)) sm_a202_89 rfl rfl rfl ?_
  refine ru_go (t := (93, [some (.inr (some a0)), some (.inl x1), some (.inl x2), some (.inl x3), some (.inl x4), some (.inl x5)], [.inl (sm_I M a0 33), .inr (sm_R M a0 34)], M)) sm_a202_90 rfl rfl (st_getI h_1 rfl) ?_
  refine ru_go (t := (94, [some (.inr (some a0)), some (.inl x1), some (.inl x2), some (.inl x3), some (.inl x4), some (.inl x5)], [.inl x1, .inl (sm_I M a0 33), .inr (sm_R M a0 34)], M)) sm_a202_93 rfl rfl rfl ?_
  obtain ⟨b_2, hb_3, h⟩ := h
  rw [hb_3]
  obtain ⟨h_4, h⟩ := h
  obtain ⟨h_5, h⟩ := h
  refine ru_go (t := (95, [some (.inr (some a0)), some (.inl x1), some (.inl x2), some (.inl x3), some (.inl x4), some (.inl x5)], [], sm_putI M b_2 (sm_I M a0 33).toNatClampNeg x1)) sm_a202_94 rfl rfl (st_iast h_4 h_5) ?_
  refine ru_go (t := (96, [some (.inr (some a0)), some (.inl x1), some (.inl x2), some (.inl x3), some (.inl x4), some (.inl x5)], [.inr (some a0)], sm_putI M b_2 (sm_I M a0 33).toNatClampNeg x1)) sm_a202_95 rfl rfl rfl ?_
  refine ru_go (t := (99, [some (.inr (some a0)), some (.inl x1), some (.inl x2), some (.inl x3), some (.inl x4), some (.inl x5)], [.inr (sm_R (sm_putI M b_2 (sm_I M a0 33).toNatClampNeg x1) a0 35)], sm_putI M b_2 (sm_I M a0 33).toNatClampNeg x1)) sm_a202_96 rfl rfl (st_getR h_1 rfl rfl) ?_
  refine ru_go (t := (100, [some (.inr (some a0)), some (.inl x1), some (.inl x2), some (.inl x3), some (.inl x4), some (.inl x5)], [.inr (some a0), .inr (sm_R (sm_putI M b_2 (sm_I M a0 33).toNatClampNeg x1) a0 35)], sm_putI M b_2 (sm_I M a0 33).toNatClampNeg x1)) sm_a202_99 rfl rfl rfl ?_
  refine ru_go (t := (103, [some (.inr (some a0)), some (.inl x1), some (.inl x2), some (.inl x3), some (.inl x4), some (.inl x5)], [.inl (sm_I (sm_putI M b_2 (sm_I M a0 33).toNatClampNeg x1) a0 33), .inr (sm_R (sm_putI M b_2 (sm_I M a0 33).toNatClampNeg x1) a0 35)], sm_putI M b_2 (sm_I M a0 33).toNatClampNeg x1)) sm_a202_100 rfl rfl (st_getI h_1 rfl) ?_
  refine ru_go (t := (104, [some (.inr (some a0)), some (.inl x1), some (.inl x2), some (.inl x3), some (.inl x4), some (.inl x5)], [.inl x2, .inl (sm_I (sm_putI M b_2 (sm_I M a0 33).toNatClampNeg x1) a0 33), .inr (sm_R (sm_putI M b_2 (sm_I M a0 33).toNatClampNeg x1) a0 35)], sm_putI M b_2 (sm_I M a0 33).toNatClampNeg x1)) sm_a202_103 rfl rfl rfl ?_
  obtain ⟨b_6, hb_7, h⟩ := h
  rw [hb_7]
  obtain ⟨h_8, h⟩ := h
  obtain ⟨h_9, h⟩ := h
  refine ru_go (t := (105, [some (.inr (some a0)), some (.inl x1), some (.inl x2), some (.inl x3), some (.inl x4), some (.inl x5)], [], sm_putI (sm_putI M b_2 (sm_I M a0 33).toNatClampNeg x1) b_6 (sm_I (sm_putI M b_2 (sm_I M a0 33).toNatClampNeg x1) a0 33).toNatClampNeg x2)) sm_a202_104 rfl rfl (st_iast h_8 h_9) ?_
  refine ru_go (t := (106, [some (.inr (some a0)), some (.inl x1), some (.inl x2), some (.inl x3), some (.inl x4), some (.inl x5)], [.inr (some a0)], sm_putI (sm_putI M b_2 (sm_I M a0 33).toNatClampNeg x1) b_6 (sm_I (sm_putI M b_2 (sm_I M a0 33).toNatClampNeg x1) a0 33).toNatClampNeg x2)) sm_a202_105 rfl rfl rfl ?_
  refine ru_go (t := (109, [some (.inr (some a0)), some (.inl x1), some (.inl x2), some (.inl x3), some (.inl x4), some (.inl x5)], [.inr (sm_R (sm_putI (sm_putI M b_2 (sm_I M a0 33).toNatClampNeg x1) b_6 (sm_I (sm_putI M b_2 (sm_I M a0 33).toNatClampNeg x1) a0 33).toNatClampNeg x2) a0 36)], sm_putI (sm_putI M b_2 (sm_I M a0 33).toNatClampNeg x1) b_6 (sm_I (sm_putI M b_2 (sm_I M a0 33).toNatClampNeg x1) a0 33).toNatClampNeg x2)) sm_a202_106 rfl rfl (st_getR h_1 rfl rfl) ?_
  refine ru_go (t := (110, [some (.inr (some a0)), some (.inl x1), some (.inl x2), some (.inl x3), some (.inl x4), some (.inl x5)], [.inr (some a0), .inr (sm_R (sm_putI (sm_putI M b_2 (sm_I M a0 33).toNatClampNeg x1) b_6 (sm_I (sm_putI M b_2 (sm_I M a0 33).toNatClampNeg x1) a0 33).toNatClampNeg x2) a0 36)], sm_putI (sm_putI M b_2 (sm_I M a0 33).toNatClampNeg x1) b_6 (sm_I (sm_putI M b_2 (sm_I M a0 33).toNatClampNeg x1) a0 33).toNatClampNeg x2)) sm_a202_109 rfl rfl rfl ?_
  refine ru_go (t := (113, [some (.inr (some a0)), some (.inl x1), some (.inl x2), some (.inl x3), some (.inl x4), some (.inl x5)], [.inl (sm_I (sm_putI (sm_putI M b_2 (sm_I M a0 33).toNatClampNeg x1) b_6 (sm_I (sm_putI M b_2 (sm_I M a0 33).toNatClampNeg x1) a0 33).toNatClampNeg x2) a0 33), .inr (sm_R (sm_putI (sm_putI M b_2 (sm_I M a0 33).toNatClampNeg x1) b_6 (sm_I (sm_putI M b_2 (sm_I M a0 33).toNatClampNeg x1) a0 33).toNatClampNeg x2) a0 36)], sm_putI (sm_putI M b_2 (sm_I M a0 33).toNatClampNeg x1) b_6 (sm_I (sm_putI M b_2 (sm_I M a0 33).toNatClampNeg x1) a0 33).toNatClampNeg x2)) sm_a202_110 rfl rfl (st_getI h_1 rfl) ?_
  refine ru_go (t := (114, [some (.inr (some a0)), some (.inl x1), some (.inl x2), some (.inl x3), some (.inl x4), some (.inl x5)], [.inl x3, .inl (sm_I (sm_putI (sm_putI M b_2 (sm_I M a0 33).toNatClampNeg x1) b_6 (sm_I (sm_putI M b_2 (sm_I M a0 33).toNatClampNeg x1) a0 33).toNatClampNeg x2) a0 33), .inr (sm_R (sm_putI (sm_putI M b_2 (sm_I M a0 33).toNatClampNeg x1) b_6 (sm_I (sm_putI M b_2 (sm_I M a0 33).toNatClampNeg x1) a0 33).toNatClampNeg x2) a0 36)], sm_putI (sm_putI M b_2 (sm_I M a0 33).toNatClampNeg x1) b_6 (sm_I (sm_putI M b_2 (sm_I M a0 33).toNatClampNeg x1) a0 33).toNatClampNeg x2)) sm_a202_113 rfl rfl rfl ?_
  obtain ⟨b_10, hb_11, h⟩ := h
  rw [hb_11]
  obtain ⟨h_12, h⟩ := h
  obtain ⟨h_13, h⟩ := h
  refine ru_go (t := (115, [some (.inr (some a0)), some (.inl x1), some (.inl x2), some (.inl x3), some (.inl x4), some (.inl x5)], [], sm_putI (sm_putI (sm_putI M b_2 (sm_I M a0 33).toNatClampNeg x1) b_6 (sm_I (sm_putI M b_2 (sm_I M a0 33).toNatClampNeg x1) a0 33).toNatClampNeg x2) b_10 (sm_I (sm_putI (sm_putI M b_2 (sm_I M a0 33).toNatClampNeg x1) b_6 (sm_I (sm_putI M b_2 (sm_I M a0 33).toNatClampNeg x1) a0 33).toNatClampNeg x2) a0 33).toNatClampNeg x3)) sm_a202_114 rfl rfl (st_iast h_12 h_13) ?_
  refine ru_go (t := (116, [some (.inr (some a0)), some (.inl x1), some (.inl x2), some (.inl x3), some (.inl x4), some (.inl x5)], [.inr (some a0)], sm_putI (sm_putI (sm_putI M b_2 (sm_I M a0 33).toNatClampNeg x1) b_6 (sm_I (sm_putI M b_2 (sm_I M a0 33).toNatClampNeg x1) a0 33).toNatClampNeg x2) b_10 (sm_I (sm_putI (sm_putI M b_2 (sm_I M a0 33).toNatClampNeg x1) b_6 (sm_I (sm_putI M b_2 (sm_I M a0 33).toNatClampNeg x1) a0 33).toNatClampNeg x2) a0 33).toNatClampNeg x3)) sm_a202_115 rfl rfl rfl ?_
  refine ru_go (t := (117, [some (.inr (some a0)), some (.inl x1), some (.inl x2), some (.inl x3), some (.inl x4), some (.inl x5)], [.inr (some a0), .inr (some a0)], sm_putI (sm_putI (sm_putI M b_2 (sm_I M a0 33).toNatClampNeg x1) b_6 (sm_I (sm_putI M b_2 (sm_I M a0 33).toNatClampNeg x1) a0 33).toNatClampNeg x2) b_10 (sm_I (sm_putI (sm_putI M b_2 (sm_I M a0 33).toNatClampNeg x1) b_6 (sm_I (sm_putI M b_2 (sm_I M a0 33).toNatClampNeg x1) a0 33).toNatClampNeg x2) a0 33).toNatClampNeg x3)) sm_a202_116 rfl rfl rfl ?_
  refine ru_go (t := (120, [some (.inr (some a0)), some (.inl x1), some (.inl x2), some (.inl x3), some (.inl x4), some (.inl x5)], [.inl (sm_I (sm_putI (sm_putI (sm_putI M b_2 (sm_I M a0 33).toNatClampNeg x1) b_6 (sm_I (sm_putI M b_2 (sm_I M a0 33).toNatClampNeg x1) a0 33).toNatClampNeg x2) b_10 (sm_I (sm_putI (sm_putI M b_2 (sm_I M a0 33).toNatClampNeg x1) b_6 (sm_I (sm_putI M b_2 (sm_I M a0 33).toNatClampNeg x1) a0 33).toNatClampNeg x2) a0 33).toNatClampNeg x3) a0 33), .inr (some a0)], sm_putI (sm_putI (sm_putI M b_2 (sm_I M a0 33).toNatClampNeg x1) b_6 (sm_I (sm_putI M b_2 (sm_I M a0 33).toNatClampNeg x1) a0 33).toNatClampNeg x2) b_10 (sm_I (sm_putI (sm_putI M b_2 (sm_I M a0 33).toNatClampNeg x1) b_6 (sm_I (sm_putI M b_2 (sm_I M a0 33).toNatClampNeg x1) a0 33).toNatClampNeg x2) a0 33).toNatClampNeg x3)) sm_a202_117 rfl rfl (st_getI h_1 rfl) ?_
  refine ru_go (t := (121, [some (.inr (some a0)), some (.inl x1), some (.inl x2), some (.inl x3), some (.inl x4), some (.inl x5)], [.inl 1, .inl (sm_I (sm_putI (sm_putI (sm_putI M b_2 (sm_I M a0 33).toNatClampNeg x1) b_6 (sm_I (sm_putI M b_2 (sm_I M a0 33).toNatClampNeg x1) a0 33).toNatClampNeg x2) b_10 (sm_I (sm_putI (sm_putI M b_2 (sm_I M a0 33).toNatClampNeg x1) b_6 (sm_I (sm_putI M b_2 (sm_I M a0 33).toNatClampNeg x1) a0 33).toNatClampNeg x2) a0 33).toNatClampNeg x3) a0 33), .inr (some a0)], sm_putI (sm_putI (sm_putI M b_2 (sm_I M a0 33).toNatClampNeg x1) b_6 (sm_I (sm_putI M b_2 (sm_I M a0 33).toNatClampNeg x1) a0 33).toNatClampNeg x2) b_10 (sm_I (sm_putI (sm_putI M b_2 (sm_I M a0 33).toNatClampNeg x1) b_6 (sm_I (sm_putI M b_2 (sm_I M a0 33).toNatClampNeg x1) a0 33).toNatClampNeg x2) a0 33).toNatClampNeg x3)) sm_a202_120 rfl rfl (st_iconst (by decide)) ?_
  refine ru_go (t := (122, [some (.inr (some a0)), some (.inl x1), some (.inl x2), some (.inl x3), some (.inl x4), some (.inl x5)], [.inl ((sm_I (sm_putI (sm_putI (sm_putI M b_2 (sm_I M a0 33).toNatClampNeg x1) b_6 (sm_I (sm_putI M b_2 (sm_I M a0 33).toNatClampNeg x1) a0 33).toNatClampNeg x2) b_10 (sm_I (sm_putI (sm_putI M b_2 (sm_I M a0 33).toNatClampNeg x1) b_6 (sm_I (sm_putI M b_2 (sm_I M a0 33).toNatClampNeg x1) a0 33).toNatClampNeg x2) a0 33).toNatClampNeg x3) a0 33) + 1), .inr (some a0)], sm_putI (sm_putI (sm_putI M b_2 (sm_I M a0 33).toNatClampNeg x1) b_6 (sm_I (sm_putI M b_2 (sm_I M a0 33).toNatClampNeg x1) a0 33).toNatClampNeg x2) b_10 (sm_I (sm_putI (sm_putI M b_2 (sm_I M a0 33).toNatClampNeg x1) b_6 (sm_I (sm_putI M b_2 (sm_I M a0 33).toNatClampNeg x1) a0 33).toNatClampNeg x2) a0 33).toNatClampNeg x3)) sm_a202_121 rfl rfl rfl ?_
  refine ru_go (t := (125, [some (.inr (some a0)), some (.inl x1), some (.inl x2), some (.inl x3), some (.inl x4), some (.inl x5)], [], sm_putI (sm_putI (sm_putI (sm_putI M b_2 (sm_I M a0 33).toNatClampNeg x1) b_6 (sm_I (sm_putI M b_2 (sm_I M a0 33).toNatClampNeg x1) a0 33).toNatClampNeg x2) b_10 (sm_I (sm_putI (sm_putI M b_2 (sm_I M a0 33).toNatClampNeg x1) b_6 (sm_I (sm_putI M b_2 (sm_I M a0 33).toNatClampNeg x1) a0 33).toNatClampNeg x2) a0 33).toNatClampNeg x3) a0 33 ((sm_I (sm_putI (sm_putI (sm_putI M b_2 (sm_I M a0 33).toNatClampNeg x1) b_6 (sm_I (sm_putI M b_2 (sm_I M a0 33).toNatClampNeg x1) a0 33).toNatClampNeg x2) b_10 (sm_I (sm_putI (sm_putI M b_2 (sm_I M a0 33).toNatClampNeg x1) b_6 (sm_I (sm_putI M b_2 (sm_I M a0 33).toNatClampNeg x1) a0 33).toNatClampNeg x2) a0 33).toNatClampNeg x3) a0 33) + 1))) sm_a202_122 rfl rfl (st_putI h_1 rfl) ?_
  exact h
theorem bb_202_125 {d : Nat} {M : sm_M} {Q : Option sm_V → sm_M → Prop} {a0 : Nat} {x1 : Int32} {x2 : Int32} {x3 : Int32} {x4 : Int32} {x5 : Int32}
    (h : Q (some (.inl 1)) M) :
    sm_Run d 202 125 [some (.inr (some a0)), some (.inl x1), some (.inl x2), some (.inl x3), some (.inl x4), some (.inl x5)] [] M Q := by
  refine ru_go (t := (126, [some (.inr (some a0)), some (.inl x1), some (.inl x2), some (.inl x3), some (.inl x4), some (.inl x5)], [.inl 1], M)) sm_a202_125 rfl rfl (st_iconst (by decide)) ?_
  exact ru_ret sm_a202_126 (sm_rvz rfl (by decide)) h

/-! WireBusModel.look:(I)I -/
theorem sm_a203_0 : sm_at 203 0 = some (.iload_n 1, 1, (0, 0, 0, 0)) := by decide +kernel
theorem sm_a203_1 : sm_at 203 1 = some (.tableswitch 101 0 5 #[39, 44, 49, 54, 91, 96], 39, (0, 0, 0, 0)) := by decide +kernel
theorem sm_a203_40 : sm_at 203 40 = some (.aload_n 0, 1, (0, 0, 0, 0)) := by decide +kernel
theorem sm_a203_41 : sm_at 203 41 = some (.getfield 391, 3, (12, 56, 0, 1239)) := by decide +kernel
theorem sm_a203_44 : sm_at 203 44 = some (.ireturn, 1, (0, 0, 0, 0)) := by decide +kernel
theorem sm_a203_45 : sm_at 203 45 = some (.aload_n 0, 1, (0, 0, 0, 0)) := by decide +kernel
theorem sm_a203_46 : sm_at 203 46 = some (.getfield 256, 3, (12, 32, 0, 1215)) := by decide +kernel
theorem sm_a203_49 : sm_at 203 49 = some (.ireturn, 1, (0, 0, 0, 0)) := by decide +kernel
theorem sm_a203_50 : sm_at 203 50 = some (.aload_n 0, 1, (0, 0, 0, 0)) := by decide +kernel
theorem sm_a203_51 : sm_at 203 51 = some (.getfield 332, 3, (12, 70, 0, 1253)) := by decide +kernel
theorem sm_a203_54 : sm_at 203 54 = some (.ireturn, 1, (0, 0, 0, 0)) := by decide +kernel
theorem sm_a203_55 : sm_at 203 55 = some (.iconst 0, 1, (0, 0, 0, 0)) := by decide +kernel
theorem sm_a203_56 : sm_at 203 56 = some (.istore_n 2, 1, (0, 0, 0, 0)) := by decide +kernel
theorem sm_a203_57 : sm_at 203 57 = some (.iconst 0, 1, (0, 0, 0, 0)) := by decide +kernel
theorem sm_a203_58 : sm_at 203 58 = some (.istore_n 3, 1, (0, 0, 0, 0)) := by decide +kernel
theorem sm_a203_59 : sm_at 203 59 = some (.iload_n 3, 1, (0, 0, 0, 0)) := by decide +kernel
theorem sm_a203_60 : sm_at 203 60 = some (.aload_n 0, 1, (0, 0, 0, 0)) := by decide +kernel
theorem sm_a203_61 : sm_at 203 61 = some (.getfield 332, 3, (12, 70, 0, 1253)) := by decide +kernel
theorem sm_a203_64 : sm_at 203 64 = some (.if_icmp .ge 26, 3, (0, 0, 0, 0)) := by decide +kernel
theorem sm_a203_67 : sm_at 203 67 = some (.iload_n 2, 1, (0, 0, 0, 0)) := by decide +kernel
theorem sm_a203_68 : sm_at 203 68 = some (.aload_n 0, 1, (0, 0, 0, 0)) := by decide +kernel
theorem sm_a203_69 : sm_at 203 69 = some (.getfield 191, 3, (12, 73, 0, 1256)) := by decide +kernel
theorem sm_a203_72 : sm_at 203 72 = some (.iload_n 3, 1, (0, 0, 0, 0)) := by decide +kernel
theorem sm_a203_73 : sm_at 203 73 = some (.iaload, 1, (0, 0, 0, 0)) := by decide +kernel
theorem sm_a203_74 : sm_at 203 74 = some (.ifCond .ne 7, 3, (0, 0, 0, 0)) := by decide +kernel
theorem sm_a203_77 : sm_at 203 77 = some (.iconst 1, 1, (0, 0, 0, 0)) := by decide +kernel
theorem sm_a203_78 : sm_at 203 78 = some (.goto 4, 3, (0, 0, 0, 0)) := by decide +kernel
theorem sm_a203_81 : sm_at 203 81 = some (.iconst 0, 1, (0, 0, 0, 0)) := by decide +kernel
theorem sm_a203_82 : sm_at 203 82 = some (.iadd, 1, (0, 0, 0, 0)) := by decide +kernel
theorem sm_a203_83 : sm_at 203 83 = some (.istore_n 2, 1, (0, 0, 0, 0)) := by decide +kernel
theorem sm_a203_84 : sm_at 203 84 = some (.iinc 3 1, 3, (0, 0, 0, 0)) := by decide +kernel
theorem sm_a203_87 : sm_at 203 87 = some (.goto (-28), 3, (0, 0, 0, 0)) := by decide +kernel
theorem sm_a203_90 : sm_at 203 90 = some (.iload_n 2, 1, (0, 0, 0, 0)) := by decide +kernel
theorem sm_a203_91 : sm_at 203 91 = some (.ireturn, 1, (0, 0, 0, 0)) := by decide +kernel
theorem sm_a203_92 : sm_at 203 92 = some (.aload_n 0, 1, (0, 0, 0, 0)) := by decide +kernel
theorem sm_a203_93 : sm_at 203 93 = some (.getfield 259, 3, (12, 33, 0, 1216)) := by decide +kernel
theorem sm_a203_96 : sm_at 203 96 = some (.ireturn, 1, (0, 0, 0, 0)) := by decide +kernel
theorem sm_a203_97 : sm_at 203 97 = some (.aload_n 0, 1, (0, 0, 0, 0)) := by decide +kernel
theorem sm_a203_98 : sm_at 203 98 = some (.getfield 239, 3, (12, 3, 0, 1186)) := by decide +kernel
theorem sm_a203_101 : sm_at 203 101 = some (.ireturn, 1, (0, 0, 0, 0)) := by decide +kernel
theorem sm_a203_102 : sm_at 203 102 = some (.iconst (-1), 1, (0, 0, 0, 0)) := by decide +kernel
theorem sm_a203_103 : sm_at 203 103 = some (.ireturn, 1, (0, 0, 0, 0)) := by decide +kernel
theorem bb_203_0 {d : Nat} {M : sm_M} {Q : Option sm_V → sm_M → Prop} {a0 : Nat} {x1 : Int32} {z2 : Option sm_V} {z3 : Option sm_V}
    (h : ((x1 = 0 → sm_K M a0 = 39 ∧ Q (some (.inl (sm_I M a0 56))) M) ∧ (x1 = 1 → sm_K M a0 = 39 ∧ Q (some (.inl (sm_I M a0 32))) M) ∧ (x1 = 2 → sm_K M a0 = 39 ∧ Q (some (.inl (sm_I M a0 70))) M) ∧ (x1 = 3 → sm_Run d 203 59 [some (.inr (some a0)), some (.inl x1), some (.inl 0), some (.inl 0)] [] M Q) ∧ (x1 = 4 → sm_K M a0 = 39 ∧ Q (some (.inl (sm_I M a0 33))) M) ∧ (x1 = 5 → sm_K M a0 = 39 ∧ Q (some (.inl (sm_I M a0 3))) M) ∧ (¬ x1 = 0 → ¬ x1 = 1 → ¬ x1 = 2 → ¬ x1 = 3 → ¬ x1 = 4 → ¬ x1 = 5 → Q (some (.inl (-1))) M))) :
    sm_Run d 203 0 [some (.inr (some a0)), some (.inl x1), z2, z3] [] M Q := by
  refine ru_go (t := (1, [some (.inr (some a0)), some (.inl x1), z2, z3], [.inl x1], M)) sm_a203_0 rfl rfl rfl ?_
  by_cases hc_1 : x1 = 0
  · have h := h.1 hc_1
    refine ru_tsw (pc := 1) (v := 0) (p := 40) sm_a203_1 hc_1 (by decide) ?_
    refine ru_go (t := (41, [some (.inr (some a0)), some (.inl x1), z2, z3], [.inr (some a0)], M)) sm_a203_40 rfl rfl rfl ?_
    obtain ⟨h_2, h⟩ := h
    refine ru_go (t := (44, [some (.inr (some a0)), some (.inl x1), z2, z3], [.inl (sm_I M a0 56)], M)) sm_a203_41 rfl rfl (st_getI h_2 rfl) ?_
    exact ru_ret sm_a203_44 rfl h
  · by_cases hc_3 : x1 = 1
    · have h := h.2.1 hc_3
      refine ru_tsw (pc := 1) (v := 1) (p := 45) sm_a203_1 hc_3 (by decide) ?_
      refine ru_go (t := (46, [some (.inr (some a0)), some (.inl x1), z2, z3], [.inr (some a0)], M)) sm_a203_45 rfl rfl rfl ?_
      obtain ⟨h_4, h⟩ := h
      refine ru_go (t := (49, [some (.inr (some a0)), some (.inl x1), z2, z3], [.inl (sm_I M a0 32)], M)) sm_a203_46 rfl rfl (st_getI h_4 rfl) ?_
      exact ru_ret sm_a203_49 rfl h
    · by_cases hc_5 : x1 = 2
      · have h := h.2.2.1 hc_5
        refine ru_tsw (pc := 1) (v := 2) (p := 50) sm_a203_1 hc_5 (by decide) ?_
        refine ru_go (t := (51, [some (.inr (some a0)), some (.inl x1), z2, z3], [.inr (some a0)], M)) sm_a203_50 rfl rfl rfl ?_
        obtain ⟨h_6, h⟩ := h
        refine ru_go (t := (54, [some (.inr (some a0)), some (.inl x1), z2, z3], [.inl (sm_I M a0 70)], M)) sm_a203_51 rfl rfl (st_getI h_6 rfl) ?_
        exact ru_ret sm_a203_54 rfl h
      · by_cases hc_7 : x1 = 3
        · have h := h.2.2.2.1 hc_7
          refine ru_tsw (pc := 1) (v := 3) (p := 55) sm_a203_1 hc_7 (by decide) ?_
          refine ru_go (t := (56, [some (.inr (some a0)), some (.inl x1), z2, z3], [.inl 0], M)) sm_a203_55 rfl rfl (st_iconst (by decide)) ?_
          refine ru_go (t := (57, [some (.inr (some a0)), some (.inl x1), some (.inl 0), z3], [], M)) sm_a203_56 rfl rfl rfl ?_
          refine ru_go (t := (58, [some (.inr (some a0)), some (.inl x1), some (.inl 0), z3], [.inl 0], M)) sm_a203_57 rfl rfl (st_iconst (by decide)) ?_
          refine ru_go (t := (59, [some (.inr (some a0)), some (.inl x1), some (.inl 0), some (.inl 0)], [], M)) sm_a203_58 rfl rfl rfl ?_
          exact h
        · by_cases hc_8 : x1 = 4
          · have h := h.2.2.2.2.1 hc_8
            refine ru_tsw (pc := 1) (v := 4) (p := 92) sm_a203_1 hc_8 (by decide) ?_
            refine ru_go (t := (93, [some (.inr (some a0)), some (.inl x1), z2, z3], [.inr (some a0)], M)) sm_a203_92 rfl rfl rfl ?_
            obtain ⟨h_9, h⟩ := h
            refine ru_go (t := (96, [some (.inr (some a0)), some (.inl x1), z2, z3], [.inl (sm_I M a0 33)], M)) sm_a203_93 rfl rfl (st_getI h_9 rfl) ?_
            exact ru_ret sm_a203_96 rfl h
          · by_cases hc_10 : x1 = 5
            · have h := h.2.2.2.2.2.1 hc_10
              refine ru_tsw (pc := 1) (v := 5) (p := 97) sm_a203_1 hc_10 (by decide) ?_
              refine ru_go (t := (98, [some (.inr (some a0)), some (.inl x1), z2, z3], [.inr (some a0)], M)) sm_a203_97 rfl rfl rfl ?_
              obtain ⟨h_11, h⟩ := h
              refine ru_go (t := (101, [some (.inr (some a0)), some (.inl x1), z2, z3], [.inl (sm_I M a0 3)], M)) sm_a203_98 rfl rfl (st_getI h_11 rfl) ?_
              exact ru_ret sm_a203_101 rfl h
            · have h := h.2.2.2.2.2.2 hc_1 hc_3 hc_5 hc_7 hc_8 hc_10
              have zhc_1 := sm_ne_toInt hc_1; rw [show (0 : Int32).toInt = 0 by decide] at zhc_1
              have zhc_3 := sm_ne_toInt hc_3; rw [show (1 : Int32).toInt = 1 by decide] at zhc_3
              have zhc_5 := sm_ne_toInt hc_5; rw [show (2 : Int32).toInt = 2 by decide] at zhc_5
              have zhc_7 := sm_ne_toInt hc_7; rw [show (3 : Int32).toInt = 3 by decide] at zhc_7
              have zhc_8 := sm_ne_toInt hc_8; rw [show (4 : Int32).toInt = 4 by decide] at zhc_8
              have zhc_10 := sm_ne_toInt hc_10; rw [show (5 : Int32).toInt = 5 by decide] at zhc_10
              refine ru_tswd (pc := 1) (p := 102) sm_a203_1 (by omega) (by decide) ?_
              refine ru_go (t := (103, [some (.inr (some a0)), some (.inl x1), z2, z3], [.inl (-1)], M)) sm_a203_102 rfl rfl (st_iconst (by decide)) ?_
              exact ru_ret sm_a203_103 rfl h
theorem bb_203_59 {d : Nat} {M : sm_M} {Q : Option sm_V → sm_M → Prop} {a0 : Nat} {x1 : Int32} {x2 : Int32} {x3 : Int32}
    (h : sm_K M a0 = 39 ∧ (((sm_I M a0 70) ≤ x3 → Q (some (.inl x2)) M) ∧ (¬ ((sm_I M a0 70) ≤ x3) → ∃ b_3, sm_R M a0 73 = some b_3 ∧ sm_iA M b_3 ∧ sm_in_ M b_3 x3 ∧ ((¬ (sm_I M b_3 (x3).toNatClampNeg) = 0 → sm_Run d 203 59 [some (.inr (some a0)), some (.inl x1), some (.inl (x2 + 0)), some (.inl (x3 + 1))] [] M Q) ∧ (¬ (¬ (sm_I M b_3 (x3).toNatClampNeg) = 0) → sm_Run d 203 59 [some (.inr (some a0)), some (.inl x1), some (.inl (x2 + 1)), some (.inl (x3 + 1))] [] M Q))))) :
    sm_Run d 203 59 [some (.inr (some a0)), some (.inl x1), some (.inl x2), some (.inl x3)] [] M Q := by
  refine ru_go (t := (60, [some (.inr (some a0)), some (.inl x1), some (.inl x2), some (.inl x3)], [.inl x3], M)) sm_a203_59 rfl rfl rfl ?_
  refine ru_go (t := (61, [some (.inr (some a0)), some (.inl x1), some (.inl x2), some (.inl x3)], [.inr (some a0), .inl x3], M)) sm_a203_60 rfl rfl rfl ?_
  obtain ⟨h_1, h⟩ := h
  refine ru_go (t := (64, [some (.inr (some a0)), some (.inl x1), some (.inl x2), some (.inl x3)], [.inl (sm_I M a0 70), .inl x3], M)) sm_a203_61 rfl rfl (st_getI h_1 rfl) ?_
  refine ru_icmp (pc := 64) (p := 90) (p2 := 67) sm_a203_64 (by decide) rfl ⟨fun hc_2 => ?_, fun hc_2 => ?_⟩
  · have h := h.1 hc_2
    refine ru_go (t := (91, [some (.inr (some a0)), some (.inl x1), some (.inl x2), some (.inl x3)], [.inl x2], M)) sm_a203_90 rfl rfl rfl ?_
    exact ru_ret sm_a203_91 rfl h
  · have h := h.2 hc_2
    refine ru_go (t := (68, [some (.inr (some a0)), some (.inl x1), some (.inl x2), some (.inl x3)], [.inl x2], M)) sm_a203_67 rfl rfl rfl ?_
    refine ru_go (t := (69, [some (.inr (some a0)), some (.inl x1), some (.inl x2), some (.inl x3)], [.inr (some a0), .inl x2], M)) sm_a203_68 rfl rfl rfl ?_
    refine ru_go (t := (72, [some (.inr (some a0)), some (.inl x1), some (.inl x2), some (.inl x3)], [.inr (sm_R M a0 73), .inl x2], M)) sm_a203_69 rfl rfl (st_getR h_1 rfl rfl) ?_
    refine ru_go (t := (73, [some (.inr (some a0)), some (.inl x1), some (.inl x2), some (.inl x3)], [.inl x3, .inr (sm_R M a0 73), .inl x2], M)) sm_a203_72 rfl rfl rfl ?_
    obtain ⟨b_3, hb_4, h⟩ := h
    rw [hb_4]
    obtain ⟨h_5, h⟩ := h
    obtain ⟨h_6, h⟩ := h
    refine ru_go (t := (74, [some (.inr (some a0)), some (.inl x1), some (.inl x2), some (.inl x3)], [.inl (sm_I M b_3 (x3).toNatClampNeg), .inl x2], M)) sm_a203_73 rfl rfl (st_iald h_5 h_6) ?_
    refine ru_if (pc := 74) (p := 81) (p2 := 77) sm_a203_74 (by decide) rfl ⟨fun hc_7 => ?_, fun hc_7 => ?_⟩
    · have h := h.1 hc_7
      refine ru_go (t := (82, [some (.inr (some a0)), some (.inl x1), some (.inl x2), some (.inl x3)], [.inl 0, .inl x2], M)) sm_a203_81 rfl rfl (st_iconst (by decide)) ?_
      refine ru_go (t := (83, [some (.inr (some a0)), some (.inl x1), some (.inl x2), some (.inl x3)], [.inl (x2 + 0)], M)) sm_a203_82 rfl rfl rfl ?_
      refine ru_go (t := (84, [some (.inr (some a0)), some (.inl x1), some (.inl (x2 + 0)), some (.inl x3)], [], M)) sm_a203_83 rfl rfl rfl ?_
      refine ru_go (t := (87, [some (.inr (some a0)), some (.inl x1), some (.inl (x2 + 0)), some (.inl (x3 + 1))], [], M)) sm_a203_84 rfl rfl (st_iinc rfl (by decide)) ?_
      refine ru_go (t := (59, [some (.inr (some a0)), some (.inl x1), some (.inl (x2 + 0)), some (.inl (x3 + 1))], [], M)) sm_a203_87 rfl rfl (st_goto (pc := 87) (by decide)) ?_
      exact h
    · have h := h.2 hc_7
      refine ru_go (t := (78, [some (.inr (some a0)), some (.inl x1), some (.inl x2), some (.inl x3)], [.inl 1, .inl x2], M)) sm_a203_77 rfl rfl (st_iconst (by decide)) ?_
      refine ru_go (t := (82, [some (.inr (some a0)), some (.inl x1), some (.inl x2), some (.inl x3)], [.inl 1, .inl x2], M)) sm_a203_78 rfl rfl (st_goto (pc := 78) (by decide)) ?_
      refine ru_go (t := (83, [some (.inr (some a0)), some (.inl x1), some (.inl x2), some (.inl x3)], [.inl (x2 + 1)], M)) sm_a203_82 rfl rfl rfl ?_
      refine ru_go (t := (84, [some (.inr (some a0)), some (.inl x1), some (.inl (x2 + 1)), some (.inl x3)], [], M)) sm_a203_83 rfl rfl rfl ?_
      refine ru_go (t := (87, [some (.inr (some a0)), some (.inl x1), some (.inl (x2 + 1)), some (.inl (x3 + 1))], [], M)) sm_a203_84 rfl rfl (st_iinc rfl (by decide)) ?_
      refine ru_go (t := (59, [some (.inr (some a0)), some (.inl x1), some (.inl (x2 + 1)), some (.inl (x3 + 1))], [], M)) sm_a203_87 rfl rfl (st_goto (pc := 87) (by decide)) ?_
      exact h

/-! WireBusModel.transfer:(II)I -/
theorem sm_a204_0 : sm_at 204 0 = some (.iload_n 1, 1, (0, 0, 0, 0)) := by decide +kernel
theorem sm_a204_1 : sm_at 204 1 = some (.ifCond .lt 15, 3, (0, 0, 0, 0)) := by decide +kernel
theorem sm_a204_4 : sm_at 204 4 = some (.iload_n 1, 1, (0, 0, 0, 0)) := by decide +kernel
theorem sm_a204_5 : sm_at 204 5 = some (.aload_n 0, 1, (0, 0, 0, 0)) := by decide +kernel
theorem sm_a204_6 : sm_at 204 6 = some (.getfield 332, 3, (12, 70, 0, 1253)) := by decide +kernel
theorem sm_a204_9 : sm_at 204 9 = some (.if_icmp .ge 7, 3, (0, 0, 0, 0)) := by decide +kernel
theorem sm_a204_12 : sm_at 204 12 = some (.iload_n 2, 1, (0, 0, 0, 0)) := by decide +kernel
theorem sm_a204_13 : sm_at 204 13 = some (.ifCond .ge 5, 3, (0, 0, 0, 0)) := by decide +kernel
theorem sm_a204_16 : sm_at 204 16 = some (.iconst (-1), 1, (0, 0, 0, 0)) := by decide +kernel
theorem sm_a204_17 : sm_at 204 17 = some (.ireturn, 1, (0, 0, 0, 0)) := by decide +kernel
theorem sm_a204_18 : sm_at 204 18 = some (.iload_n 2, 1, (0, 0, 0, 0)) := by decide +kernel
theorem sm_a204_19 : sm_at 204 19 = some (.tableswitch 79 0 5 #[37, 44, 51, 58, 65, 72], 37, (0, 0, 0, 0)) := by decide +kernel
theorem sm_a204_56 : sm_at 204 56 = some (.aload_n 0, 1, (0, 0, 0, 0)) := by decide +kernel
theorem sm_a204_57 : sm_at 204 57 = some (.getfield 185, 3, (12, 71, 0, 1254)) := by decide +kernel
theorem sm_a204_60 : sm_at 204 60 = some (.iload_n 1, 1, (0, 0, 0, 0)) := by decide +kernel
theorem sm_a204_61 : sm_at 204 61 = some (.iaload, 1, (0, 0, 0, 0)) := by decide +kernel
theorem sm_a204_62 : sm_at 204 62 = some (.ireturn, 1, (0, 0, 0, 0)) := by decide +kernel
theorem sm_a204_63 : sm_at 204 63 = some (.aload_n 0, 1, (0, 0, 0, 0)) := by decide +kernel
theorem sm_a204_64 : sm_at 204 64 = some (.getfield 188, 3, (12, 72, 0, 1255)) := by decide +kernel
theorem sm_a204_67 : sm_at 204 67 = some (.iload_n 1, 1, (0, 0, 0, 0)) := by decide +kernel
theorem sm_a204_68 : sm_at 204 68 = some (.iaload, 1, (0, 0, 0, 0)) := by decide +kernel
theorem sm_a204_69 : sm_at 204 69 = some (.ireturn, 1, (0, 0, 0, 0)) := by decide +kernel
theorem sm_a204_70 : sm_at 204 70 = some (.aload_n 0, 1, (0, 0, 0, 0)) := by decide +kernel
theorem sm_a204_71 : sm_at 204 71 = some (.getfield 191, 3, (12, 73, 0, 1256)) := by decide +kernel
theorem sm_a204_74 : sm_at 204 74 = some (.iload_n 1, 1, (0, 0, 0, 0)) := by decide +kernel
theorem sm_a204_75 : sm_at 204 75 = some (.iaload, 1, (0, 0, 0, 0)) := by decide +kernel
theorem sm_a204_76 : sm_at 204 76 = some (.ireturn, 1, (0, 0, 0, 0)) := by decide +kernel
theorem sm_a204_77 : sm_at 204 77 = some (.aload_n 0, 1, (0, 0, 0, 0)) := by decide +kernel
theorem sm_a204_78 : sm_at 204 78 = some (.getfield 194, 3, (12, 74, 0, 1257)) := by decide +kernel
theorem sm_a204_81 : sm_at 204 81 = some (.iload_n 1, 1, (0, 0, 0, 0)) := by decide +kernel
theorem sm_a204_82 : sm_at 204 82 = some (.iaload, 1, (0, 0, 0, 0)) := by decide +kernel
theorem sm_a204_83 : sm_at 204 83 = some (.ireturn, 1, (0, 0, 0, 0)) := by decide +kernel
theorem sm_a204_84 : sm_at 204 84 = some (.aload_n 0, 1, (0, 0, 0, 0)) := by decide +kernel
theorem sm_a204_85 : sm_at 204 85 = some (.getfield 197, 3, (12, 75, 0, 1258)) := by decide +kernel
theorem sm_a204_88 : sm_at 204 88 = some (.iload_n 1, 1, (0, 0, 0, 0)) := by decide +kernel
theorem sm_a204_89 : sm_at 204 89 = some (.iaload, 1, (0, 0, 0, 0)) := by decide +kernel
theorem sm_a204_90 : sm_at 204 90 = some (.ireturn, 1, (0, 0, 0, 0)) := by decide +kernel
theorem sm_a204_91 : sm_at 204 91 = some (.aload_n 0, 1, (0, 0, 0, 0)) := by decide +kernel
theorem sm_a204_92 : sm_at 204 92 = some (.getfield 200, 3, (12, 76, 0, 1259)) := by decide +kernel
theorem sm_a204_95 : sm_at 204 95 = some (.iload_n 1, 1, (0, 0, 0, 0)) := by decide +kernel
theorem sm_a204_96 : sm_at 204 96 = some (.iaload, 1, (0, 0, 0, 0)) := by decide +kernel
theorem sm_a204_97 : sm_at 204 97 = some (.ireturn, 1, (0, 0, 0, 0)) := by decide +kernel
theorem sm_a204_98 : sm_at 204 98 = some (.aload_n 0, 1, (0, 0, 0, 0)) := by decide +kernel
theorem sm_a204_99 : sm_at 204 99 = some (.getfield 188, 3, (12, 72, 0, 1255)) := by decide +kernel
theorem sm_a204_102 : sm_at 204 102 = some (.iload_n 1, 1, (0, 0, 0, 0)) := by decide +kernel
theorem sm_a204_103 : sm_at 204 103 = some (.iaload, 1, (0, 0, 0, 0)) := by decide +kernel
theorem sm_a204_104 : sm_at 204 104 = some (.sipush 128, 3, (0, 0, 0, 0)) := by decide +kernel
theorem sm_a204_107 : sm_at 204 107 = some (.if_icmp .ge 27, 3, (0, 0, 0, 0)) := by decide +kernel
theorem sm_a204_110 : sm_at 204 110 = some (.aload_n 0, 1, (0, 0, 0, 0)) := by decide +kernel
theorem sm_a204_111 : sm_at 204 111 = some (.getfield 188, 3, (12, 72, 0, 1255)) := by decide +kernel
theorem sm_a204_114 : sm_at 204 114 = some (.iload_n 1, 1, (0, 0, 0, 0)) := by decide +kernel
theorem sm_a204_115 : sm_at 204 115 = some (.iaload, 1, (0, 0, 0, 0)) := by decide +kernel
theorem sm_a204_116 : sm_at 204 116 = some (.ifCond .ne 22, 3, (0, 0, 0, 0)) := by decide +kernel
theorem sm_a204_119 : sm_at 204 119 = some (.aload_n 0, 1, (0, 0, 0, 0)) := by decide +kernel
theorem sm_a204_120 : sm_at 204 120 = some (.getfield 212, 3, (12, 80, 0, 1263)) := by decide +kernel
theorem sm_a204_123 : sm_at 204 123 = some (.bipush 8, 2, (0, 0, 0, 0)) := by decide +kernel
theorem sm_a204_125 : sm_at 204 125 = some (.iload_n 1, 1, (0, 0, 0, 0)) := by decide +kernel
theorem sm_a204_126 : sm_at 204 126 = some (.imul, 1, (0, 0, 0, 0)) := by decide +kernel
theorem sm_a204_127 : sm_at 204 127 = some (.iaload, 1, (0, 0, 0, 0)) := by decide +kernel
theorem sm_a204_128 : sm_at 204 128 = some (.sipush 128, 3, (0, 0, 0, 0)) := by decide +kernel
theorem sm_a204_131 : sm_at 204 131 = some (.if_icmp .lt 7, 3, (0, 0, 0, 0)) := by decide +kernel
theorem sm_a204_134 : sm_at 204 134 = some (.iconst 1, 1, (0, 0, 0, 0)) := by decide +kernel
theorem sm_a204_135 : sm_at 204 135 = some (.goto 4, 3, (0, 0, 0, 0)) := by decide +kernel
theorem sm_a204_138 : sm_at 204 138 = some (.iconst 0, 1, (0, 0, 0, 0)) := by decide +kernel
theorem sm_a204_139 : sm_at 204 139 = some (.istore_n 3, 1, (0, 0, 0, 0)) := by decide +kernel
theorem sm_a204_140 : sm_at 204 140 = some (.iload_n 2, 1, (0, 0, 0, 0)) := by decide +kernel
theorem sm_a204_141 : sm_at 204 141 = some (.bipush 6, 2, (0, 0, 0, 0)) := by decide +kernel
theorem sm_a204_143 : sm_at 204 143 = some (.isub, 1, (0, 0, 0, 0)) := by decide +kernel
theorem sm_a204_144 : sm_at 204 144 = some (.iload_n 3, 1, (0, 0, 0, 0)) := by decide +kernel
theorem sm_a204_145 : sm_at 204 145 = some (.ifCond .eq 12, 3, (0, 0, 0, 0)) := by decide +kernel
theorem sm_a204_148 : sm_at 204 148 = some (.aload_n 0, 1, (0, 0, 0, 0)) := by decide +kernel
theorem sm_a204_149 : sm_at 204 149 = some (.getfield 194, 3, (12, 74, 0, 1257)) := by decide +kernel
theorem sm_a204_152 : sm_at 204 152 = some (.iload_n 1, 1, (0, 0, 0, 0)) := by decide +kernel
theorem sm_a204_153 : sm_at 204 153 = some (.iaload, 1, (0, 0, 0, 0)) := by decide +kernel
theorem sm_a204_154 : sm_at 204 154 = some (.goto 9, 3, (0, 0, 0, 0)) := by decide +kernel
theorem sm_a204_157 : sm_at 204 157 = some (.aload_n 0, 1, (0, 0, 0, 0)) := by decide +kernel
theorem sm_a204_158 : sm_at 204 158 = some (.getfield 197, 3, (12, 75, 0, 1258)) := by decide +kernel
theorem sm_a204_161 : sm_at 204 161 = some (.iload_n 1, 1, (0, 0, 0, 0)) := by decide +kernel
theorem sm_a204_162 : sm_at 204 162 = some (.iaload, 1, (0, 0, 0, 0)) := by decide +kernel
theorem sm_a204_163 : sm_at 204 163 = some (.if_icmp .ge 20, 3, (0, 0, 0, 0)) := by decide +kernel
theorem sm_a204_166 : sm_at 204 166 = some (.aload_n 0, 1, (0, 0, 0, 0)) := by decide +kernel
theorem sm_a204_167 : sm_at 204 167 = some (.getfield 216, 3, (12, 81, 0, 1264)) := by decide +kernel
theorem sm_a204_170 : sm_at 204 170 = some (.bipush 100, 2, (0, 0, 0, 0)) := by decide +kernel
theorem sm_a204_172 : sm_at 204 172 = some (.iload_n 1, 1, (0, 0, 0, 0)) := by decide +kernel
theorem sm_a204_173 : sm_at 204 173 = some (.imul, 1, (0, 0, 0, 0)) := by decide +kernel
theorem sm_a204_174 : sm_at 204 174 = some (.iload_n 2, 1, (0, 0, 0, 0)) := by decide +kernel
theorem sm_a204_175 : sm_at 204 175 = some (.iadd, 1, (0, 0, 0, 0)) := by decide +kernel
theorem sm_a204_176 : sm_at 204 176 = some (.bipush 6, 2, (0, 0, 0, 0)) := by decide +kernel
theorem sm_a204_178 : sm_at 204 178 = some (.isub, 1, (0, 0, 0, 0)) := by decide +kernel
theorem sm_a204_179 : sm_at 204 179 = some (.iaload, 1, (0, 0, 0, 0)) := by decide +kernel
theorem sm_a204_180 : sm_at 204 180 = some (.goto 4, 3, (0, 0, 0, 0)) := by decide +kernel
theorem sm_a204_183 : sm_at 204 183 = some (.iconst (-1), 1, (0, 0, 0, 0)) := by decide +kernel
theorem sm_a204_184 : sm_at 204 184 = some (.ireturn, 1, (0, 0, 0, 0)) := by decide +kernel
theorem bb_204_0 {d : Nat} {M : sm_M} {Q : Option sm_V → sm_M → Prop} {a0 : Nat} {x1 : Int32} {x2 : Int32} {z3 : Option sm_V}
    (h : ((x1 < 0 → Q (some (.inl (-1))) M) ∧ (¬ (x1 < 0) → sm_K M a0 = 39 ∧ (((sm_I M a0 70) ≤ x1 → Q (some (.inl (-1))) M) ∧ (¬ ((sm_I M a0 70) ≤ x1) → ((0 ≤ x2 → ((x2 = 0 → ∃ b_6, sm_R M a0 71 = some b_6 ∧ sm_iA M b_6 ∧ sm_in_ M b_6 x1 ∧ Q (some (.inl (sm_I M b_6 (x1).toNatClampNeg))) M) ∧ (x2 = 1 → ∃ b_11, sm_R M a0 72 = some b_11 ∧ sm_iA M b_11 ∧ sm_in_ M b_11 x1 ∧ Q (some (.inl (sm_I M b_11 (x1).toNatClampNeg))) M) ∧ (x2 = 2 → ∃ b_16, sm_R M a0 73 = some b_16 ∧ sm_iA M b_16 ∧ sm_in_ M b_16 x1 ∧ Q (some (.inl (sm_I M b_16 (x1).toNatClampNeg))) M) ∧ (x2 = 3 → ∃ b_21, sm_R M a0 74 = some b_21 ∧ sm_iA M b_21 ∧ sm_in_ M b_21 x1 ∧ Q (some (.inl (sm_I M b_21 (x1).toNatClampNeg))) M) ∧ (x2 = 4 → ∃ b_26, sm_R M a0 75 = some b_26 ∧ sm_iA M b_26 ∧ sm_in_ M b_26 x1 ∧ Q (some (.inl (sm_I M b_26 (x1).toNatClampNeg))) M) ∧ (x2 = 5 → ∃ b_31, sm_R M a0 76 = some b_31 ∧ sm_iA M b_31 ∧ sm_in_ M b_31 x1 ∧ Q (some (.inl (sm_I M b_31 (x1).toNatClampNeg))) M) ∧ (¬ x2 = 0 → ¬ x2 = 1 → ¬ x2 = 2 → ¬ x2 = 3 → ¬ x2 = 4 → ¬ x2 = 5 → ∃ b_35, sm_R M a0 72 = some b_35 ∧ sm_iA M b_35 ∧ sm_in_ M b_35 x1 ∧ ((128 ≤ (sm_I M b_35 (x1).toNatClampNeg) → sm_Run d 204 134 [some (.inr (some a0)), some (.inl x1), some (.inl x2), z3] [] M Q) ∧ (¬ (128 ≤ (sm_I M b_35 (x1).toNatClampNeg)) → ∃ b_40, sm_R M a0 72 = some b_40 ∧ sm_iA M b_40 ∧ sm_in_ M b_40 x1 ∧ ((¬ (sm_I M b_40 (x1).toNatClampNeg) = 0 → sm_Run d 204 138 [some (.inr (some a0)), some (.inl x1), some (.inl x2), z3] [] M Q) ∧ (¬ (¬ (sm_I M b_40 (x1).toNatClampNeg) = 0) → ∃ b_45, sm_R M a0 80 = some b_45 ∧ sm_iA M b_45 ∧ sm_in_ M b_45 (8 * x1) ∧ (((sm_I M b_45 (8 * x1).toNatClampNeg) < 128 → sm_Run d 204 138 [some (.inr (some a0)), some (.inl x1), some (.inl x2), z3] [] M Q) ∧ (¬ ((sm_I M b_45 (8 * x1).toNatClampNeg) < 128) → sm_Run d 204 134 [some (.inr (some a0)), some (.inl x1), some (.inl x2), z3] [] M Q))))))))) ∧ (¬ (0 ≤ x2) → Q (some (.inl (-1))) M))))))) :
    sm_Run d 204 0 [some (.inr (some a0)), some (.inl x1), some (.inl x2), z3] [] M Q := by
  refine ru_go (t := (1, [some (.inr (some a0)), some (.inl x1), some (.inl x2), z3], [.inl x1], M)) sm_a204_0 rfl rfl rfl ?_
  refine ru_if (pc := 1) (p := 16) (p2 := 4) sm_a204_1 (by decide) rfl ⟨fun hc_1 => ?_, fun hc_1 => ?_⟩
  · have h := h.1 hc_1
    refine ru_go (t := (17, [some (.inr (some a0)), some (.inl x1), some (.inl x2), z3], [.inl (-1)], M)) sm_a204_16 rfl rfl (st_iconst (by decide)) ?_
    exact ru_ret sm_a204_17 rfl h
  · have h := h.2 hc_1
    refine ru_go (t := (5, [some (.inr (some a0)), some (.inl x1), some (.inl x2), z3], [.inl x1], M)) sm_a204_4 rfl rfl rfl ?_
    refine ru_go (t := (6, [some (.inr (some a0)), some (.inl x1), some (.inl x2), z3], [.inr (some a0), .inl x1], M)) sm_a204_5 rfl rfl rfl ?_
    obtain ⟨h_2, h⟩ := h
    refine ru_go (t := (9, [some (.inr (some a0)), some (.inl x1), some (.inl x2), z3], [.inl (sm_I M a0 70), .inl x1], M)) sm_a204_6 rfl rfl (st_getI h_2 rfl) ?_
    refine ru_icmp (pc := 9) (p := 16) (p2 := 12) sm_a204_9 (by decide) rfl ⟨fun hc_3 => ?_, fun hc_3 => ?_⟩
    · have h := h.1 hc_3
      refine ru_go (t := (17, [some (.inr (some a0)), some (.inl x1), some (.inl x2), z3], [.inl (-1)], M)) sm_a204_16 rfl rfl (st_iconst (by decide)) ?_
      exact ru_ret sm_a204_17 rfl h
    · have h := h.2 hc_3
      refine ru_go (t := (13, [some (.inr (some a0)), some (.inl x1), some (.inl x2), z3], [.inl x2], M)) sm_a204_12 rfl rfl rfl ?_
      refine ru_if (pc := 13) (p := 18) (p2 := 16) sm_a204_13 (by decide) rfl ⟨fun hc_4 => ?_, fun hc_4 => ?_⟩
      · have h := h.1 hc_4
        refine ru_go (t := (19, [some (.inr (some a0)), some (.inl x1), some (.inl x2), z3], [.inl x2], M)) sm_a204_18 rfl rfl rfl ?_
        by_cases hc_5 : x2 = 0
        · have h := h.1 hc_5
          refine ru_tsw (pc := 19) (v := 0) (p := 56) sm_a204_19 hc_5 (by decide) ?_
          refine ru_go (t := (57, [some (.inr (some a0)), some (.inl x1), some (.inl x2), z3], [.inr (some a0)], M)) sm_a204_56 rfl rfl rfl ?_
          refine ru_go (t := (60, [some (.inr (some a0)), some (.inl x1), some (.inl x2), z3], [.inr (sm_R M a0 71)], M)) sm_a204_57 rfl rfl (st_getR h_2 rfl rfl) ?_
          refine ru_go (t := (61, [some (.inr (some a0)), some (.inl x1), some (.inl x2), z3], [.inl x1, .inr (sm_R M a0 71)], M)) sm_a204_60 rfl rfl rfl ?_
          obtain ⟨b_6, hb_7, h⟩ := h
          rw [hb_7]
          obtain ⟨h_8, h⟩ := h
          obtain ⟨h_9, h⟩ := h
          refine ru_go (t := (62, [some (.inr (some a0)), some (.inl x1), some (.inl x2), z3], [.inl (sm_I M b_6 (x1).toNatClampNeg)], M)) sm_a204_61 rfl rfl (st_iald h_8 h_9) ?_
          exact ru_ret sm_a204_62 rfl h
        · by_cases hc_10 : x2 = 1
          · have h := h.2.1 hc_10
            refine ru_tsw (pc := 19) (v := 1) (p := 63) sm_a204_19 hc_10 (by decide) ?_
            refine ru_go (t := (64, [some (.inr (some a0)), some (.inl x1), some (.inl x2), z3], [.inr (some a0)], M)) sm_a204_63 rfl rfl rfl ?_
            refine ru_go (t := (67, [some (.inr (some a0)), some (.inl x1), some (.inl x2), z3], [.inr (sm_R M a0 72)], M)) sm_a204_64 rfl rfl (st_getR h_2 rfl rfl) ?_
            refine ru_go (t := (68, [some (.inr (some a0)), some (.inl x1), some (.inl x2), z3], [.inl x1, .inr (sm_R M a0 72)], M)) sm_a204_67 rfl rfl rfl ?_
            obtain ⟨b_11, hb_12, h⟩ := h
            rw [hb_12]
            obtain ⟨h_13, h⟩ := h
            obtain ⟨h_14, h⟩ := h
            refine ru_go (t := (69, [some (.inr (some a0)), some (.inl x1), some (.inl x2), z3], [.inl (sm_I M b_11 (x1).toNatClampNeg)], M)) sm_a204_68 rfl rfl (st_iald h_13 h_14) ?_
            exact ru_ret sm_a204_69 rfl h
          · by_cases hc_15 : x2 = 2
            · have h := h.2.2.1 hc_15
              refine ru_tsw (pc := 19) (v := 2) (p := 70) sm_a204_19 hc_15 (by decide) ?_
              refine ru_go (t := (71, [some (.inr (some a0)), some (.inl x1), some (.inl x2), z3], [.inr (some a0)], M)) sm_a204_70 rfl rfl rfl ?_
              refine ru_go (t := (74, [some (.inr (some a0)), some (.inl x1), some (.inl x2), z3], [.inr (sm_R M a0 73)], M)) sm_a204_71 rfl rfl (st_getR h_2 rfl rfl) ?_
              refine ru_go (t := (75, [some (.inr (some a0)), some (.inl x1), some (.inl x2), z3], [.inl x1, .inr (sm_R M a0 73)], M)) sm_a204_74 rfl rfl rfl ?_
              obtain ⟨b_16, hb_17, h⟩ := h
              rw [hb_17]
              obtain ⟨h_18, h⟩ := h
              obtain ⟨h_19, h⟩ := h
              refine ru_go (t := (76, [some (.inr (some a0)), some (.inl x1), some (.inl x2), z3], [.inl (sm_I M b_16 (x1).toNatClampNeg)], M)) sm_a204_75 rfl rfl (st_iald h_18 h_19) ?_
              exact ru_ret sm_a204_76 rfl h
            · by_cases hc_20 : x2 = 3
              · have h := h.2.2.2.1 hc_20
                refine ru_tsw (pc := 19) (v := 3) (p := 77) sm_a204_19 hc_20 (by decide) ?_
                refine ru_go (t := (78, [some (.inr (some a0)), some (.inl x1), some (.inl x2), z3], [.inr (some a0)], M)) sm_a204_77 rfl rfl rfl ?_
                refine ru_go (t := (81, [some (.inr (some a0)), some (.inl x1), some (.inl x2), z3], [.inr (sm_R M a0 74)], M)) sm_a204_78 rfl rfl (st_getR h_2 rfl rfl) ?_
                refine ru_go (t := (82, [some (.inr (some a0)), some (.inl x1), some (.inl x2), z3], [.inl x1, .inr (sm_R M a0 74)], M)) sm_a204_81 rfl rfl rfl ?_
                obtain ⟨b_21, hb_22, h⟩ := h
                rw [hb_22]
                obtain ⟨h_23, h⟩ := h
                obtain ⟨h_24, h⟩ := h
                refine ru_go (t := (83, [some (.inr (some a0)), some (.inl x1), some (.inl x2), z3], [.inl (sm_I M b_21 (x1).toNatClampNeg)], M)) sm_a204_82 rfl rfl (st_iald h_23 h_24) ?_
                exact ru_ret sm_a204_83 rfl h
              · by_cases hc_25 : x2 = 4
                · have h := h.2.2.2.2.1 hc_25
                  refine ru_tsw (pc := 19) (v := 4) (p := 84) sm_a204_19 hc_25 (by decide) ?_
                  refine ru_go (t := (85, [some (.inr (some a0)), some (.inl x1), some (.inl x2), z3], [.inr (some a0)], M)) sm_a204_84 rfl rfl rfl ?_
                  refine ru_go (t := (88, [some (.inr (some a0)), some (.inl x1), some (.inl x2), z3], [.inr (sm_R M a0 75)], M)) sm_a204_85 rfl rfl (st_getR h_2 rfl rfl) ?_
                  refine ru_go (t := (89, [some (.inr (some a0)), some (.inl x1), some (.inl x2), z3], [.inl x1, .inr (sm_R M a0 75)], M)) sm_a204_88 rfl rfl rfl ?_
                  obtain ⟨b_26, hb_27, h⟩ := h
                  rw [hb_27]
                  obtain ⟨h_28, h⟩ := h
                  obtain ⟨h_29, h⟩ := h
                  refine ru_go (t := (90, [some (.inr (some a0)), some (.inl x1), some (.inl x2), z3], [.inl (sm_I M b_26 (x1).toNatClampNeg)], M)) sm_a204_89 rfl rfl (st_iald h_28 h_29) ?_
                  exact ru_ret sm_a204_90 rfl h
                · by_cases hc_30 : x2 = 5
                  · have h := h.2.2.2.2.2.1 hc_30
                    refine ru_tsw (pc := 19) (v := 5) (p := 91) sm_a204_19 hc_30 (by decide) ?_
                    refine ru_go (t := (92, [some (.inr (some a0)), some (.inl x1), some (.inl x2), z3], [.inr (some a0)], M)) sm_a204_91 rfl rfl rfl ?_
                    refine ru_go (t := (95, [some (.inr (some a0)), some (.inl x1), some (.inl x2), z3], [.inr (sm_R M a0 76)], M)) sm_a204_92 rfl rfl (st_getR h_2 rfl rfl) ?_
                    refine ru_go (t := (96, [some (.inr (some a0)), some (.inl x1), some (.inl x2), z3], [.inl x1, .inr (sm_R M a0 76)], M)) sm_a204_95 rfl rfl rfl ?_
                    obtain ⟨b_31, hb_32, h⟩ := h
                    rw [hb_32]
                    obtain ⟨h_33, h⟩ := h
                    obtain ⟨h_34, h⟩ := h
                    refine ru_go (t := (97, [some (.inr (some a0)), some (.inl x1), some (.inl x2), z3], [.inl (sm_I M b_31 (x1).toNatClampNeg)], M)) sm_a204_96 rfl rfl (st_iald h_33 h_34) ?_
                    exact ru_ret sm_a204_97 rfl h
                  · have h := h.2.2.2.2.2.2 hc_5 hc_10 hc_15 hc_20 hc_25 hc_30
                    have zhc_5 := sm_ne_toInt hc_5; rw [show (0 : Int32).toInt = 0 by decide] at zhc_5
                    have zhc_10 := sm_ne_toInt hc_10; rw [show (1 : Int32).toInt = 1 by decide] at zhc_10
                    have zhc_15 := sm_ne_toInt hc_15; rw [show (2 : Int32).toInt = 2 by decide] at zhc_15
                    have zhc_20 := sm_ne_toInt hc_20; rw [show (3 : Int32).toInt = 3 by decide] at zhc_20
                    have zhc_25 := sm_ne_toInt hc_25; rw [show (4 : Int32).toInt = 4 by decide] at zhc_25
                    have zhc_30 := sm_ne_toInt hc_30; rw [show (5 : Int32).toInt = 5 by decide] at zhc_30
                    refine ru_tswd (pc := 19) (p := 98) sm_a204_19 (by omega) (by decide) ?_
                    refine ru_go (t := (99, [some (.inr (some a0)), some (.inl x1), some (.inl x2), z3], [.inr (some a0)], M)) sm_a204_98 rfl rfl rfl ?_
                    refine ru_go (t := (102, [some (.inr (some a0)), some (.inl x1), some (.inl x2), z3], [.inr (sm_R M a0 72)], M)) sm_a204_99 rfl rfl (st_getR h_2 rfl rfl) ?_
                    refine ru_go (t := (103, [some (.inr (some a0)), some (.inl x1), some (.inl x2), z3], [.inl x1, .inr (sm_R M a0 72)], M)) sm_a204_102 rfl rfl rfl ?_
                    obtain ⟨b_35, hb_36, h⟩ := h
                    rw [hb_36]
                    obtain ⟨h_37, h⟩ := h
                    obtain ⟨h_38, h⟩ := h
                    refine ru_go (t := (104, [some (.inr (some a0)), some (.inl x1), some (.inl x2), z3], [.inl (sm_I M b_35 (x1).toNatClampNeg)], M)) sm_a204_103 rfl rfl (st_iald h_37 h_38) ?_
                    refine ru_go (t := (107, [some (.inr (some a0)), some (.inl x1), some (.inl x2), z3], [.inl 128, .inl (sm_I M b_35 (x1).toNatClampNeg)], M)) sm_a204_104 rfl rfl (st_sipush (by decide)) ?_
                    refine ru_icmp (pc := 107) (p := 134) (p2 := 110) sm_a204_107 (by decide) rfl ⟨fun hc_39 => ?_, fun hc_39 => ?_⟩
                    · have h := h.1 hc_39
                      exact h
                    · have h := h.2 hc_39
                      refine ru_go (t := (111, [some (.inr (some a0)), some (.inl x1), some (.inl x2), z3], [.inr (some a0)], M)) sm_a204_110 rfl rfl rfl ?_
                      refine ru_go (t := (114, [some (.inr (some a0)), some (.inl x1), some (.inl x2), z3], [.inr (sm_R M a0 72)], M)) sm_a204_111 rfl rfl (st_getR h_2 rfl rfl) ?_
                      refine ru_go (t := (115, [some (.inr (some a0)), some (.inl x1), some (.inl x2), z3], [.inl x1, .inr (sm_R M a0 72)], M)) sm_a204_114 rfl rfl rfl ?_
                      obtain ⟨b_40, hb_41, h⟩ := h
                      rw [hb_41]
                      obtain ⟨h_42, h⟩ := h
                      obtain ⟨h_43, h⟩ := h
                      refine ru_go (t := (116, [some (.inr (some a0)), some (.inl x1), some (.inl x2), z3], [.inl (sm_I M b_40 (x1).toNatClampNeg)], M)) sm_a204_115 rfl rfl (st_iald h_42 h_43) ?_
                      refine ru_if (pc := 116) (p := 138) (p2 := 119) sm_a204_116 (by decide) rfl ⟨fun hc_44 => ?_, fun hc_44 => ?_⟩
                      · have h := h.1 hc_44
                        exact h
                      · have h := h.2 hc_44
                        refine ru_go (t := (120, [some (.inr (some a0)), some (.inl x1), some (.inl x2), z3], [.inr (some a0)], M)) sm_a204_119 rfl rfl rfl ?_
                        refine ru_go (t := (123, [some (.inr (some a0)), some (.inl x1), some (.inl x2), z3], [.inr (sm_R M a0 80)], M)) sm_a204_120 rfl rfl (st_getR h_2 rfl rfl) ?_
                        refine ru_go (t := (125, [some (.inr (some a0)), some (.inl x1), some (.inl x2), z3], [.inl 8, .inr (sm_R M a0 80)], M)) sm_a204_123 rfl rfl (st_bipush (by decide)) ?_
                        refine ru_go (t := (126, [some (.inr (some a0)), some (.inl x1), some (.inl x2), z3], [.inl x1, .inl 8, .inr (sm_R M a0 80)], M)) sm_a204_125 rfl rfl rfl ?_
                        refine ru_go (t := (127, [some (.inr (some a0)), some (.inl x1), some (.inl x2), z3], [.inl (8 * x1), .inr (sm_R M a0 80)], M)) sm_a204_126 rfl rfl rfl ?_
                        obtain ⟨b_45, hb_46, h⟩ := h
                        rw [hb_46]
                        obtain ⟨h_47, h⟩ := h
                        obtain ⟨h_48, h⟩ := h
                        refine ru_go (t := (128, [some (.inr (some a0)), some (.inl x1), some (.inl x2), z3], [.inl (sm_I M b_45 (8 * x1).toNatClampNeg)], M)) sm_a204_127 rfl rfl (st_iald h_47 h_48) ?_
                        refine ru_go (t := (131, [some (.inr (some a0)), some (.inl x1), some (.inl x2), z3], [.inl 128, .inl (sm_I M b_45 (8 * x1).toNatClampNeg)], M)) sm_a204_128 rfl rfl (st_sipush (by decide)) ?_
                        refine ru_icmp (pc := 131) (p := 138) (p2 := 134) sm_a204_131 (by decide) rfl ⟨fun hc_49 => ?_, fun hc_49 => ?_⟩
                        · have h := h.1 hc_49
                          exact h
                        · have h := h.2 hc_49
                          exact h
      · have h := h.2 hc_4
        refine ru_go (t := (17, [some (.inr (some a0)), some (.inl x1), some (.inl x2), z3], [.inl (-1)], M)) sm_a204_16 rfl rfl (st_iconst (by decide)) ?_
        exact ru_ret sm_a204_17 rfl h
theorem bb_204_134 {d : Nat} {M : sm_M} {Q : Option sm_V → sm_M → Prop} {a0 : Nat} {x1 : Int32} {x2 : Int32} {z3 : Option sm_V}
    (h : sm_K M a0 = 39 ∧ ∃ b_2, sm_R M a0 74 = some b_2 ∧ sm_iA M b_2 ∧ sm_in_ M b_2 x1 ∧ (((sm_I M b_2 (x1).toNatClampNeg) ≤ (x2 - 6) → Q (some (.inl (-1))) M) ∧ (¬ ((sm_I M b_2 (x1).toNatClampNeg) ≤ (x2 - 6)) → ∃ b_7, sm_R M a0 81 = some b_7 ∧ sm_iA M b_7 ∧ sm_in_ M b_7 (((100 * x1) + x2) - 6) ∧ Q (some (.inl (sm_I M b_7 (((100 * x1) + x2) - 6).toNatClampNeg))) M))) :
    sm_Run d 204 134 [some (.inr (some a0)), some (.inl x1), some (.inl x2), z3] [] M Q := by
  refine ru_go (t := (135, [some (.inr (some a0)), some (.inl x1), some (.inl x2), z3], [.inl 1], M)) sm_a204_134 rfl rfl (st_iconst (by decide)) ?_
  refine ru_go (t := (139, [some (.inr (some a0)), some (.inl x1), some (.inl x2), z3], [.inl 1], M)) sm_a204_135 rfl rfl (st_goto (pc := 135) (by decide)) ?_
  refine ru_go (t := (140, [some (.inr (some a0)), some (.inl x1), some (.inl x2), some (.inl 1)], [], M)) sm_a204_139 rfl rfl rfl ?_
  refine ru_go (t := (141, [some (.inr (some a0)), some (.inl x1), some (.inl x2), some (.inl 1)], [.inl x2], M)) sm_a204_140 rfl rfl rfl ?_
  refine ru_go (t := (143, [some (.inr (some a0)), some (.inl x1), some (.inl x2), some (.inl 1)], [.inl 6, .inl x2], M)) sm_a204_141 rfl rfl (st_bipush (by decide)) ?_
  refine ru_go (t := (144, [some (.inr (some a0)), some (.inl x1), some (.inl x2), some (.inl 1)], [.inl (x2 - 6)], M)) sm_a204_143 rfl rfl rfl ?_
  refine ru_go (t := (145, [some (.inr (some a0)), some (.inl x1), some (.inl x2), some (.inl 1)], [.inl 1, .inl (x2 - 6)], M)) sm_a204_144 rfl rfl rfl ?_
  refine ru_if (pc := 145) (p := 157) (p2 := 148) sm_a204_145 (by decide) rfl ⟨fun hc => absurd (show (1 : Int32) = 0 from hc) (by decide), fun _ => ?_⟩
  refine ru_go (t := (149, [some (.inr (some a0)), some (.inl x1), some (.inl x2), some (.inl 1)], [.inr (some a0), .inl (x2 - 6)], M)) sm_a204_148 rfl rfl rfl ?_
  obtain ⟨h_1, h⟩ := h
  refine ru_go (t := (152, [some (.inr (some a0)), some (.inl x1), some (.inl x2), some (.inl 1)], [.inr (sm_R M a0 74), .inl (x2 - 6)], M)) sm_a204_149 rfl rfl (st_getR h_1 rfl rfl) ?_
  refine ru_go (t := (153, [some (.inr (some a0)), some (.inl x1), some (.inl x2), some (.inl 1)], [.inl x1, .inr (sm_R M a0 74), .inl (x2 - 6)], M)) sm_a204_152 rfl rfl rfl ?_
  obtain ⟨b_2, hb_3, h⟩ := h
  rw [hb_3]
  obtain ⟨h_4, h⟩ := h
  obtain ⟨h_5, h⟩ := h
  refine ru_go (t := (154, [some (.inr (some a0)), some (.inl x1), some (.inl x2), some (.inl 1)], [.inl (sm_I M b_2 (x1).toNatClampNeg), .inl (x2 - 6)], M)) sm_a204_153 rfl rfl (st_iald h_4 h_5) ?_
  refine ru_go (t := (163, [some (.inr (some a0)), some (.inl x1), some (.inl x2), some (.inl 1)], [.inl (sm_I M b_2 (x1).toNatClampNeg), .inl (x2 - 6)], M)) sm_a204_154 rfl rfl (st_goto (pc := 154) (by decide)) ?_
  refine ru_icmp (pc := 163) (p := 183) (p2 := 166) sm_a204_163 (by decide) rfl ⟨fun hc_6 => ?_, fun hc_6 => ?_⟩
  · have h := h.1 hc_6
    refine ru_go (t := (184, [some (.inr (some a0)), some (.inl x1), some (.inl x2), some (.inl 1)], [.inl (-1)], M)) sm_a204_183 rfl rfl (st_iconst (by decide)) ?_
    exact ru_ret sm_a204_184 rfl h
  · have h := h.2 hc_6
    refine ru_go (t := (167, [some (.inr (some a0)), some (.inl x1), some (.inl x2), some (.inl 1)], [.inr (some a0)], M)) sm_a204_166 rfl rfl rfl ?_
    refine ru_go (t := (170, [some (.inr (some a0)), some (.inl x1), some (.inl x2), some (.inl 1)], [.inr (sm_R M a0 81)], M)) sm_a204_167 rfl rfl (st_getR h_1 rfl rfl) ?_
    refine ru_go (t := (172, [some (.inr (some a0)), some (.inl x1), some (.inl x2), some (.inl 1)], [.inl 100, .inr (sm_R M a0 81)], M)) sm_a204_170 rfl rfl (st_bipush (by decide)) ?_
    refine ru_go (t := (173, [some (.inr (some a0)), some (.inl x1), some (.inl x2), some (.inl 1)], [.inl x1, .inl 100, .inr (sm_R M a0 81)], M)) sm_a204_172 rfl rfl rfl ?_
    refine ru_go (t := (174, [some (.inr (some a0)), some (.inl x1), some (.inl x2), some (.inl 1)], [.inl (100 * x1), .inr (sm_R M a0 81)], M)) sm_a204_173 rfl rfl rfl ?_
    refine ru_go (t := (175, [some (.inr (some a0)), some (.inl x1), some (.inl x2), some (.inl 1)], [.inl x2, .inl (100 * x1), .inr (sm_R M a0 81)], M)) sm_a204_174 rfl rfl rfl ?_
    refine ru_go (t := (176, [some (.inr (some a0)), some (.inl x1), some (.inl x2), some (.inl 1)], [.inl ((100 * x1) + x2), .inr (sm_R M a0 81)], M)) sm_a204_175 rfl rfl rfl ?_
    refine ru_go (t := (178, [some (.inr (some a0)), some (.inl x1), some (.inl x2), some (.inl 1)], [.inl 6, .inl ((100 * x1) + x2), .inr (sm_R M a0 81)], M)) sm_a204_176 rfl rfl (st_bipush (by decide)) ?_
    refine ru_go (t := (179, [some (.inr (some a0)), some (.inl x1), some (.inl x2), some (.inl 1)], [.inl (((100 * x1) + x2) - 6), .inr (sm_R M a0 81)], M)) sm_a204_178 rfl rfl rfl ?_
    obtain ⟨b_7, hb_8, h⟩ := h
    rw [hb_8]
    obtain ⟨h_9, h⟩ := h
    obtain ⟨h_10, h⟩ := h
    refine ru_go (t := (180, [some (.inr (some a0)), some (.inl x1), some (.inl x2), some (.inl 1)], [.inl (sm_I M b_7 (((100 * x1) + x2) - 6).toNatClampNeg)], M)) sm_a204_179 rfl rfl (st_iald h_9 h_10) ?_
    refine ru_go (t := (184, [some (.inr (some a0)), some (.inl x1), some (.inl x2), some (.inl 1)], [.inl (sm_I M b_7 (((100 * x1) + x2) - 6).toNatClampNeg)], M)) sm_a204_180 rfl rfl (st_goto (pc := 180) (by decide)) ?_
    exact ru_ret sm_a204_184 rfl h
theorem bb_204_138 {d : Nat} {M : sm_M} {Q : Option sm_V → sm_M → Prop} {a0 : Nat} {x1 : Int32} {x2 : Int32} {z3 : Option sm_V}
    (h : sm_K M a0 = 39 ∧ ∃ b_2, sm_R M a0 75 = some b_2 ∧ sm_iA M b_2 ∧ sm_in_ M b_2 x1 ∧ (((sm_I M b_2 (x1).toNatClampNeg) ≤ (x2 - 6) → Q (some (.inl (-1))) M) ∧ (¬ ((sm_I M b_2 (x1).toNatClampNeg) ≤ (x2 - 6)) → ∃ b_7, sm_R M a0 81 = some b_7 ∧ sm_iA M b_7 ∧ sm_in_ M b_7 (((100 * x1) + x2) - 6) ∧ Q (some (.inl (sm_I M b_7 (((100 * x1) + x2) - 6).toNatClampNeg))) M))) :
    sm_Run d 204 138 [some (.inr (some a0)), some (.inl x1), some (.inl x2), z3] [] M Q := by
  refine ru_go (t := (139, [some (.inr (some a0)), some (.inl x1), some (.inl x2), z3], [.inl 0], M)) sm_a204_138 rfl rfl (st_iconst (by decide)) ?_
  refine ru_go (t := (140, [some (.inr (some a0)), some (.inl x1), some (.inl x2), some (.inl 0)], [], M)) sm_a204_139 rfl rfl rfl ?_
  refine ru_go (t := (141, [some (.inr (some a0)), some (.inl x1), some (.inl x2), some (.inl 0)], [.inl x2], M)) sm_a204_140 rfl rfl rfl ?_
  refine ru_go (t := (143, [some (.inr (some a0)), some (.inl x1), some (.inl x2), some (.inl 0)], [.inl 6, .inl x2], M)) sm_a204_141 rfl rfl (st_bipush (by decide)) ?_
  refine ru_go (t := (144, [some (.inr (some a0)), some (.inl x1), some (.inl x2), some (.inl 0)], [.inl (x2 - 6)], M)) sm_a204_143 rfl rfl rfl ?_
  refine ru_go (t := (145, [some (.inr (some a0)), some (.inl x1), some (.inl x2), some (.inl 0)], [.inl 0, .inl (x2 - 6)], M)) sm_a204_144 rfl rfl rfl ?_
  refine ru_if (pc := 145) (p := 157) (p2 := 148) sm_a204_145 (by decide) rfl ⟨fun _ => ?_, fun hc => absurd (show sm_cP .eq 0 0 from (by show (0 : Int32) = 0; decide)) hc⟩
  refine ru_go (t := (158, [some (.inr (some a0)), some (.inl x1), some (.inl x2), some (.inl 0)], [.inr (some a0), .inl (x2 - 6)], M)) sm_a204_157 rfl rfl rfl ?_
  obtain ⟨h_1, h⟩ := h
  refine ru_go (t := (161, [some (.inr (some a0)), some (.inl x1), some (.inl x2), some (.inl 0)], [.inr (sm_R M a0 75), .inl (x2 - 6)], M)) sm_a204_158 rfl rfl (st_getR h_1 rfl rfl) ?_
  refine ru_go (t := (162, [some (.inr (some a0)), some (.inl x1), some (.inl x2), some (.inl 0)], [.inl x1, .inr (sm_R M a0 75), .inl (x2 - 6)], M)) sm_a204_161 rfl rfl rfl ?_
  obtain ⟨b_2, hb_3, h⟩ := h
  rw [hb_3]
  obtain ⟨h_4, h⟩ := h
  obtain ⟨h_5, h⟩ := h
  refine ru_go (t := (163, [some (.inr (some a0)), some (.inl x1), some (.inl x2), some (.inl 0)], [.inl (sm_I M b_2 (x1).toNatClampNeg), .inl (x2 - 6)], M)) sm_a204_162 rfl rfl (st_iald h_4 h_5) ?_
  refine ru_icmp (pc := 163) (p := 183) (p2 := 166) sm_a204_163 (by decide) rfl ⟨fun hc_6 => ?_, fun hc_6 => ?_⟩
  · have h := h.1 hc_6
    refine ru_go (t := (184, [some (.inr (some a0)), some (.inl x1), some (.inl x2), some (.inl 0)], [.inl (-1)], M)) sm_a204_183 rfl rfl (st_iconst (by decide)) ?_
    exact ru_ret sm_a204_184 rfl h
  · have h := h.2 hc_6
    refine ru_go (t := (167, [some (.inr (some a0)), some (.inl x1), some (.inl x2), some (.inl 0)], [.inr (some a0)], M)) sm_a204_166 rfl rfl rfl ?_
    refine ru_go (t := (170, [some (.inr (some a0)), some (.inl x1), some (.inl x2), some (.inl 0)], [.inr (sm_R M a0 81)], M)) sm_a204_167 rfl rfl (st_getR h_1 rfl rfl) ?_
    refine ru_go (t := (172, [some (.inr (some a0)), some (.inl x1), some (.inl x2), some (.inl 0)], [.inl 100, .inr (sm_R M a0 81)], M)) sm_a204_170 rfl rfl (st_bipush (by decide)) ?_
    refine ru_go (t := (173, [some (.inr (some a0)), some (.inl x1), some (.inl x2), some (.inl 0)], [.inl x1, .inl 100, .inr (sm_R M a0 81)], M)) sm_a204_172 rfl rfl rfl ?_
    refine ru_go (t := (174, [some (.inr (some a0)), some (.inl x1), some (.inl x2), some (.inl 0)], [.inl (100 * x1), .inr (sm_R M a0 81)], M)) sm_a204_173 rfl rfl rfl ?_
    refine ru_go (t := (175, [some (.inr (some a0)), some (.inl x1), some (.inl x2), some (.inl 0)], [.inl x2, .inl (100 * x1), .inr (sm_R M a0 81)], M)) sm_a204_174 rfl rfl rfl ?_
    refine ru_go (t := (176, [some (.inr (some a0)), some (.inl x1), some (.inl x2), some (.inl 0)], [.inl ((100 * x1) + x2), .inr (sm_R M a0 81)], M)) sm_a204_175 rfl rfl rfl ?_
    refine ru_go (t := (178, [some (.inr (some a0)), some (.inl x1), some (.inl x2), some (.inl 0)], [.inl 6, .inl ((100 * x1) + x2), .inr (sm_R M a0 81)], M)) sm_a204_176 rfl rfl (st_bipush (by decide)) ?_
    refine ru_go (t := (179, [some (.inr (some a0)), some (.inl x1), some (.inl x2), some (.inl 0)], [.inl (((100 * x1) + x2) - 6), .inr (sm_R M a0 81)], M)) sm_a204_178 rfl rfl rfl ?_
    obtain ⟨b_7, hb_8, h⟩ := h
    rw [hb_8]
    obtain ⟨h_9, h⟩ := h
    obtain ⟨h_10, h⟩ := h
    refine ru_go (t := (180, [some (.inr (some a0)), some (.inl x1), some (.inl x2), some (.inl 0)], [.inl (sm_I M b_7 (((100 * x1) + x2) - 6).toNatClampNeg)], M)) sm_a204_179 rfl rfl (st_iald h_9 h_10) ?_
    refine ru_go (t := (184, [some (.inr (some a0)), some (.inl x1), some (.inl x2), some (.inl 0)], [.inl (sm_I M b_7 (((100 * x1) + x2) - 6).toNatClampNeg)], M)) sm_a204_180 rfl rfl (st_goto (pc := 180) (by decide)) ?_
    exact ru_ret sm_a204_184 rfl h

/-! WireBusModel.state:(II)I -/
theorem sm_a205_0 : sm_at 205 0 = some (.iload_n 1, 1, (0, 0, 0, 0)) := by decide +kernel
theorem sm_a205_1 : sm_at 205 1 = some (.ifCond .lt 18, 3, (0, 0, 0, 0)) := by decide +kernel
theorem sm_a205_4 : sm_at 205 4 = some (.iload_n 1, 1, (0, 0, 0, 0)) := by decide +kernel
theorem sm_a205_5 : sm_at 205 5 = some (.iconst 5, 1, (0, 0, 0, 0)) := by decide +kernel
theorem sm_a205_6 : sm_at 205 6 = some (.if_icmp .gt 13, 3, (0, 0, 0, 0)) := by decide +kernel
theorem sm_a205_9 : sm_at 205 9 = some (.iload_n 2, 1, (0, 0, 0, 0)) := by decide +kernel
theorem sm_a205_10 : sm_at 205 10 = some (.ifCond .lt 9, 3, (0, 0, 0, 0)) := by decide +kernel
theorem sm_a205_13 : sm_at 205 13 = some (.iload_n 2, 1, (0, 0, 0, 0)) := by decide +kernel
theorem sm_a205_14 : sm_at 205 14 = some (.bipush 68, 2, (0, 0, 0, 0)) := by decide +kernel
theorem sm_a205_16 : sm_at 205 16 = some (.if_icmp .le 5, 3, (0, 0, 0, 0)) := by decide +kernel
theorem sm_a205_19 : sm_at 205 19 = some (.iconst (-1), 1, (0, 0, 0, 0)) := by decide +kernel
theorem sm_a205_20 : sm_at 205 20 = some (.ireturn, 1, (0, 0, 0, 0)) := by decide +kernel
theorem sm_a205_21 : sm_at 205 21 = some (.iload_n 2, 1, (0, 0, 0, 0)) := by decide +kernel
theorem sm_a205_22 : sm_at 205 22 = some (.tableswitch 69 0 4 #[34, 41, 48, 55, 62], 34, (0, 0, 0, 0)) := by decide +kernel
theorem sm_a205_56 : sm_at 205 56 = some (.aload_n 0, 1, (0, 0, 0, 0)) := by decide +kernel
theorem sm_a205_57 : sm_at 205 57 = some (.getfield 16, 3, (12, 4, 0, 1187)) := by decide +kernel
theorem sm_a205_60 : sm_at 205 60 = some (.iload_n 1, 1, (0, 0, 0, 0)) := by decide +kernel
theorem sm_a205_61 : sm_at 205 61 = some (.iaload, 1, (0, 0, 0, 0)) := by decide +kernel
theorem sm_a205_62 : sm_at 205 62 = some (.ireturn, 1, (0, 0, 0, 0)) := by decide +kernel
theorem sm_a205_63 : sm_at 205 63 = some (.aload_n 0, 1, (0, 0, 0, 0)) := by decide +kernel
theorem sm_a205_64 : sm_at 205 64 = some (.getfield 19, 3, (12, 5, 0, 1188)) := by decide +kernel
theorem sm_a205_67 : sm_at 205 67 = some (.iload_n 1, 1, (0, 0, 0, 0)) := by decide +kernel
theorem sm_a205_68 : sm_at 205 68 = some (.iaload, 1, (0, 0, 0, 0)) := by decide +kernel
theorem sm_a205_69 : sm_at 205 69 = some (.ireturn, 1, (0, 0, 0, 0)) := by decide +kernel
theorem sm_a205_70 : sm_at 205 70 = some (.aload_n 0, 1, (0, 0, 0, 0)) := by decide +kernel
theorem sm_a205_71 : sm_at 205 71 = some (.getfield 149, 3, (12, 57, 0, 1240)) := by decide +kernel
theorem sm_a205_74 : sm_at 205 74 = some (.iload_n 1, 1, (0, 0, 0, 0)) := by decide +kernel
theorem sm_a205_75 : sm_at 205 75 = some (.iaload, 1, (0, 0, 0, 0)) := by decide +kernel
theorem sm_a205_76 : sm_at 205 76 = some (.ireturn, 1, (0, 0, 0, 0)) := by decide +kernel
theorem sm_a205_77 : sm_at 205 77 = some (.aload_n 0, 1, (0, 0, 0, 0)) := by decide +kernel
theorem sm_a205_78 : sm_at 205 78 = some (.getfield 152, 3, (12, 58, 0, 1241)) := by decide +kernel
theorem sm_a205_81 : sm_at 205 81 = some (.iload_n 1, 1, (0, 0, 0, 0)) := by decide +kernel
theorem sm_a205_82 : sm_at 205 82 = some (.iaload, 1, (0, 0, 0, 0)) := by decide +kernel
theorem sm_a205_83 : sm_at 205 83 = some (.ireturn, 1, (0, 0, 0, 0)) := by decide +kernel
theorem sm_a205_84 : sm_at 205 84 = some (.aload_n 0, 1, (0, 0, 0, 0)) := by decide +kernel
theorem sm_a205_85 : sm_at 205 85 = some (.getfield 161, 3, (12, 61, 0, 1244)) := by decide +kernel
theorem sm_a205_88 : sm_at 205 88 = some (.iload_n 1, 1, (0, 0, 0, 0)) := by decide +kernel
theorem sm_a205_89 : sm_at 205 89 = some (.iaload, 1, (0, 0, 0, 0)) := by decide +kernel
theorem sm_a205_90 : sm_at 205 90 = some (.ireturn, 1, (0, 0, 0, 0)) := by decide +kernel
theorem sm_a205_91 : sm_at 205 91 = some (.aload_n 0, 1, (0, 0, 0, 0)) := by decide +kernel
theorem sm_a205_92 : sm_at 205 92 = some (.getfield 59, 3, (12, 18, 0, 1201)) := by decide +kernel
theorem sm_a205_95 : sm_at 205 95 = some (.bipush 64, 2, (0, 0, 0, 0)) := by decide +kernel
theorem sm_a205_97 : sm_at 205 97 = some (.iload_n 1, 1, (0, 0, 0, 0)) := by decide +kernel
theorem sm_a205_98 : sm_at 205 98 = some (.imul, 1, (0, 0, 0, 0)) := by decide +kernel
theorem sm_a205_99 : sm_at 205 99 = some (.iload_n 2, 1, (0, 0, 0, 0)) := by decide +kernel
theorem sm_a205_100 : sm_at 205 100 = some (.iadd, 1, (0, 0, 0, 0)) := by decide +kernel
theorem sm_a205_101 : sm_at 205 101 = some (.iconst 5, 1, (0, 0, 0, 0)) := by decide +kernel
theorem sm_a205_102 : sm_at 205 102 = some (.isub, 1, (0, 0, 0, 0)) := by decide +kernel
theorem sm_a205_103 : sm_at 205 103 = some (.iaload, 1, (0, 0, 0, 0)) := by decide +kernel
theorem sm_a205_104 : sm_at 205 104 = some (.ireturn, 1, (0, 0, 0, 0)) := by decide +kernel
theorem bb_205_0 {d : Nat} {M : sm_M} {Q : Option sm_V → sm_M → Prop} {a0 : Nat} {x1 : Int32} {x2 : Int32}
    (h : ((x1 < 0 → Q (some (.inl (-1))) M) ∧ (¬ (x1 < 0) → ((5 < x1 → Q (some (.inl (-1))) M) ∧ (¬ (5 < x1) → ((x2 < 0 → Q (some (.inl (-1))) M) ∧ (¬ (x2 < 0) → ((x2 ≤ 68 → ((x2 = 0 → sm_K M a0 = 39 ∧ ∃ b_7, sm_R M a0 4 = some b_7 ∧ sm_iA M b_7 ∧ sm_in_ M b_7 x1 ∧ Q (some (.inl (sm_I M b_7 (x1).toNatClampNeg))) M) ∧ (x2 = 1 → sm_K M a0 = 39 ∧ ∃ b_13, sm_R M a0 5 = some b_13 ∧ sm_iA M b_13 ∧ sm_in_ M b_13 x1 ∧ Q (some (.inl (sm_I M b_13 (x1).toNatClampNeg))) M) ∧ (x2 = 2 → sm_K M a0 = 39 ∧ ∃ b_19, sm_R M a0 57 = some b_19 ∧ sm_iA M b_19 ∧ sm_in_ M b_19 x1 ∧ Q (some (.inl (sm_I M b_19 (x1).toNatClampNeg))) M) ∧ (x2 = 3 → sm_K M a0 = 39 ∧ ∃ b_25, sm_R M a0 58 = some b_25 ∧ sm_iA M b_25 ∧ sm_in_ M b_25 x1 ∧ Q (some (.inl (sm_I M b_25 (x1).toNatClampNeg))) M) ∧ (x2 = 4 → sm_K M a0 = 39 ∧ ∃ b_31, sm_R M a0 61 = some b_31 ∧ sm_iA M b_31 ∧ sm_in_ M b_31 x1 ∧ Q (some (.inl (sm_I M b_31 (x1).toNatClampNeg))) M) ∧ (¬ x2 = 0 → ¬ x2 = 1 → ¬ x2 = 2 → ¬ x2 = 3 → ¬ x2 = 4 → sm_K M a0 = 39 ∧ ∃ b_36, sm_R M a0 18 = some b_36 ∧ sm_iA M b_36 ∧ sm_in_ M b_36 (((64 * x1) + x2) - 5) ∧ Q (some (.inl (sm_I M b_36 (((64 * x1) + x2) - 5).toNatClampNeg))) M))) ∧ (¬ (x2 ≤ 68) → Q (some (.inl (-1))) M))))))))) :
    sm_Run d 205 0 [some (.inr (some a0)), some (.inl x1), some (.inl x2)] [] M Q := by
  refine ru_go (t := (1, [some (.inr (some a0)), some (.inl x1), some (.inl x2)], [.inl x1], M)) sm_a205_0 rfl rfl rfl ?_
  refine ru_if (pc := 1) (p := 19) (p2 := 4) sm_a205_1 (by decide) rfl ⟨fun hc_1 => ?_, fun hc_1 => ?_⟩
  · have h := h.1 hc_1
    refine ru_go (t := (20, [some (.inr (some a0)), some (.inl x1), some (.inl x2)], [.inl (-1)], M)) sm_a205_19 rfl rfl (st_iconst (by decide)) ?_
    exact ru_ret sm_a205_20 rfl h
  · have h := h.2 hc_1
    refine ru_go (t := (5, [some (.inr (some a0)), some (.inl x1), some (.inl x2)], [.inl x1], M)) sm_a205_4 rfl rfl rfl ?_
    refine ru_go (t := (6, [some (.inr (some a0)), some (.inl x1), some (.inl x2)], [.inl 5, .inl x1], M)) sm_a205_5 rfl rfl (st_iconst (by decide)) ?_
    refine ru_icmp (pc := 6) (p := 19) (p2 := 9) sm_a205_6 (by decide) rfl ⟨fun hc_2 => ?_, fun hc_2 => ?_⟩
    · have h := h.1 hc_2
      refine ru_go (t := (20, [some (.inr (some a0)), some (.inl x1), some (.inl x2)], [.inl (-1)], M)) sm_a205_19 rfl rfl (st_iconst (by decide)) ?_
      exact ru_ret sm_a205_20 rfl h
    · have h := h.2 hc_2
      refine ru_go (t := (10, [some (.inr (some a0)), some (.inl x1), some (.inl x2)], [.inl x2], M)) sm_a205_9 rfl rfl rfl ?_
      refine ru_if (pc := 10) (p := 19) (p2 := 13) sm_a205_10 (by decide) rfl ⟨fun hc_3 => ?_, fun hc_3 => ?_⟩
      · have h := h.1 hc_3
        refine ru_go (t := (20, [some (.inr (some a0)), some (.inl x1), some (.inl x2)], [.inl (-1)], M)) sm_a205_19 rfl rfl (st_iconst (by decide)) ?_
        exact ru_ret sm_a205_20 rfl h
      · have h := h.2 hc_3
        refine ru_go (t := (14, [some (.inr (some a0)), some (.inl x1), some (.inl x2)], [.inl x2], M)) sm_a205_13 rfl rfl rfl ?_
        refine ru_go (t := (16, [some (.inr (some a0)), some (.inl x1), some (.inl x2)], [.inl 68, .inl x2], M)) sm_a205_14 rfl rfl (st_bipush (by decide)) ?_
        refine ru_icmp (pc := 16) (p := 21) (p2 := 19) sm_a205_16 (by decide) rfl ⟨fun hc_4 => ?_, fun hc_4 => ?_⟩
        · have h := h.1 hc_4
          refine ru_go (t := (22, [some (.inr (some a0)), some (.inl x1), some (.inl x2)], [.inl x2], M)) sm_a205_21 rfl rfl rfl ?_
          by_cases hc_5 : x2 = 0
          · have h := h.1 hc_5
            refine ru_tsw (pc := 22) (v := 0) (p := 56) sm_a205_22 hc_5 (by decide) ?_
            refine ru_go (t := (57, [some (.inr (some a0)), some (.inl x1), some (.inl x2)], [.inr (some a0)], M)) sm_a205_56 rfl rfl rfl ?_
            obtain ⟨h_6, h⟩ := h
            refine ru_go (t := (60, [some (.inr (some a0)), some (.inl x1), some (.inl x2)], [.inr (sm_R M a0 4)], M)) sm_a205_57 rfl rfl (st_getR h_6 rfl rfl) ?_
            refine ru_go (t := (61, [some (.inr (some a0)), some (.inl x1), some (.inl x2)], [.inl x1, .inr (sm_R M a0 4)], M)) sm_a205_60 rfl rfl rfl ?_
            obtain ⟨b_7, hb_8, h⟩ := h
            rw [hb_8]
            obtain ⟨h_9, h⟩ := h
            obtain ⟨h_10, h⟩ := h
            refine ru_go (t := (62, [some (.inr (some a0)), some (.inl x1), some (.inl x2)], [.inl (sm_I M b_7 (x1).toNatClampNeg)], M)) sm_a205_61 rfl rfl (st_iald h_9 h_10) ?_
            exact ru_ret sm_a205_62 rfl h
          · by_cases hc_11 : x2 = 1
            · have h := h.2.1 hc_11
              refine ru_tsw (pc := 22) (v := 1) (p := 63) sm_a205_22 hc_11 (by decide) ?_
              refine ru_go (t := (64, [some (.inr (some a0)), some (.inl x1), some (.inl x2)], [.inr (some a0)], M)) sm_a205_63 rfl rfl rfl ?_
              obtain ⟨h_12, h⟩ := h
              refine ru_go (t := (67, [some (.inr (some a0)), some (.inl x1), some (.inl x2)], [.inr (sm_R M a0 5)], M)) sm_a205_64 rfl rfl (st_getR h_12 rfl rfl) ?_
              refine ru_go (t := (68, [some (.inr (some a0)), some (.inl x1), some (.inl x2)], [.inl x1, .inr (sm_R M a0 5)], M)) sm_a205_67 rfl rfl rfl ?_
              obtain ⟨b_13, hb_14, h⟩ := h
              rw [hb_14]
              obtain ⟨h_15, h⟩ := h
              obtain ⟨h_16, h⟩ := h
              refine ru_go (t := (69, [some (.inr (some a0)), some (.inl x1), some (.inl x2)], [.inl (sm_I M b_13 (x1).toNatClampNeg)], M)) sm_a205_68 rfl rfl (st_iald h_15 h_16) ?_
              exact ru_ret sm_a205_69 rfl h
            · by_cases hc_17 : x2 = 2
              · have h := h.2.2.1 hc_17
                refine ru_tsw (pc := 22) (v := 2) (p := 70) sm_a205_22 hc_17 (by decide) ?_
                refine ru_go (t := (71, [some (.inr (some a0)), some (.inl x1), some (.inl x2)], [.inr (some a0)], M)) sm_a205_70 rfl rfl rfl ?_
                obtain ⟨h_18, h⟩ := h
                refine ru_go (t := (74, [some (.inr (some a0)), some (.inl x1), some (.inl x2)], [.inr (sm_R M a0 57)], M)) sm_a205_71 rfl rfl (st_getR h_18 rfl rfl) ?_
                refine ru_go (t := (75, [some (.inr (some a0)), some (.inl x1), some (.inl x2)], [.inl x1, .inr (sm_R M a0 57)], M)) sm_a205_74 rfl rfl rfl ?_
                obtain ⟨b_19, hb_20, h⟩ := h
                rw [hb_20]
                obtain ⟨h_21, h⟩ := h
                obtain ⟨h_22, h⟩ := h
                refine ru_go (t := (76, [some (.inr (some a0)), some (.inl x1), some (.inl x2)], [.inl (sm_I M b_19 (x1).toNatClampNeg)], M)) sm_a205_75 rfl rfl (st_iald h_21 h_22) ?_
                exact ru_ret sm_a205_76 rfl h
              · by_cases hc_23 : x2 = 3
                · have h := h.2.2.2.1 hc_23
                  refine ru_tsw (pc := 22) (v := 3) (p := 77) sm_a205_22 hc_23 (by decide) ?_
                  refine ru_go (t := (78, [some (.inr (some a0)), some (.inl x1), some (.inl x2)], [.inr (some a0)], M)) sm_a205_77 rfl rfl rfl ?_
                  obtain ⟨h_24, h⟩ := h
                  refine ru_go (t := (81, [some (.inr (some a0)), some (.inl x1), some (.inl x2)], [.inr (sm_R M a0 58)], M)) sm_a205_78 rfl rfl (st_getR h_24 rfl rfl) ?_
                  refine ru_go (t := (82, [some (.inr (some a0)), some (.inl x1), some (.inl x2)], [.inl x1, .inr (sm_R M a0 58)], M)) sm_a205_81 rfl rfl rfl ?_
                  obtain ⟨b_25, hb_26, h⟩ := h
                  rw [hb_26]
                  obtain ⟨h_27, h⟩ := h
                  obtain ⟨h_28, h⟩ := h
                  refine ru_go (t := (83, [some (.inr (some a0)), some (.inl x1), some (.inl x2)], [.inl (sm_I M b_25 (x1).toNatClampNeg)], M)) sm_a205_82 rfl rfl (st_iald h_27 h_28) ?_
                  exact ru_ret sm_a205_83 rfl h
                · by_cases hc_29 : x2 = 4
                  · have h := h.2.2.2.2.1 hc_29
                    refine ru_tsw (pc := 22) (v := 4) (p := 84) sm_a205_22 hc_29 (by decide) ?_
                    refine ru_go (t := (85, [some (.inr (some a0)), some (.inl x1), some (.inl x2)], [.inr (some a0)], M)) sm_a205_84 rfl rfl rfl ?_
                    obtain ⟨h_30, h⟩ := h
                    refine ru_go (t := (88, [some (.inr (some a0)), some (.inl x1), some (.inl x2)], [.inr (sm_R M a0 61)], M)) sm_a205_85 rfl rfl (st_getR h_30 rfl rfl) ?_
                    refine ru_go (t := (89, [some (.inr (some a0)), some (.inl x1), some (.inl x2)], [.inl x1, .inr (sm_R M a0 61)], M)) sm_a205_88 rfl rfl rfl ?_
                    obtain ⟨b_31, hb_32, h⟩ := h
                    rw [hb_32]
                    obtain ⟨h_33, h⟩ := h
                    obtain ⟨h_34, h⟩ := h
                    refine ru_go (t := (90, [some (.inr (some a0)), some (.inl x1), some (.inl x2)], [.inl (sm_I M b_31 (x1).toNatClampNeg)], M)) sm_a205_89 rfl rfl (st_iald h_33 h_34) ?_
                    exact ru_ret sm_a205_90 rfl h
                  · have h := h.2.2.2.2.2 hc_5 hc_11 hc_17 hc_23 hc_29
                    have zhc_5 := sm_ne_toInt hc_5; rw [show (0 : Int32).toInt = 0 by decide] at zhc_5
                    have zhc_11 := sm_ne_toInt hc_11; rw [show (1 : Int32).toInt = 1 by decide] at zhc_11
                    have zhc_17 := sm_ne_toInt hc_17; rw [show (2 : Int32).toInt = 2 by decide] at zhc_17
                    have zhc_23 := sm_ne_toInt hc_23; rw [show (3 : Int32).toInt = 3 by decide] at zhc_23
                    have zhc_29 := sm_ne_toInt hc_29; rw [show (4 : Int32).toInt = 4 by decide] at zhc_29
                    refine ru_tswd (pc := 22) (p := 91) sm_a205_22 (by omega) (by decide) ?_
                    refine ru_go (t := (92, [some (.inr (some a0)), some (.inl x1), some (.inl x2)], [.inr (some a0)], M)) sm_a205_91 rfl rfl rfl ?_
                    obtain ⟨h_35, h⟩ := h
                    refine ru_go (t := (95, [some (.inr (some a0)), some (.inl x1), some (.inl x2)], [.inr (sm_R M a0 18)], M)) sm_a205_92 rfl rfl (st_getR h_35 rfl rfl) ?_
                    refine ru_go (t := (97, [some (.inr (some a0)), some (.inl x1), some (.inl x2)], [.inl 64, .inr (sm_R M a0 18)], M)) sm_a205_95 rfl rfl (st_bipush (by decide)) ?_
                    refine ru_go (t := (98, [some (.inr (some a0)), some (.inl x1), some (.inl x2)], [.inl x1, .inl 64, .inr (sm_R M a0 18)], M)) sm_a205_97 rfl rfl rfl ?_
                    refine ru_go (t := (99, [some (.inr (some a0)), some (.inl x1), some (.inl x2)], [.inl (64 * x1), .inr (sm_R M a0 18)], M)) sm_a205_98 rfl rfl rfl ?_
                    refine ru_go (t := (100, [some (.inr (some a0)), some (.inl x1), some (.inl x2)], [.inl x2, .inl (64 * x1), .inr (sm_R M a0 18)], M)) sm_a205_99 rfl rfl rfl ?_
                    refine ru_go (t := (101, [some (.inr (some a0)), some (.inl x1), some (.inl x2)], [.inl ((64 * x1) + x2), .inr (sm_R M a0 18)], M)) sm_a205_100 rfl rfl rfl ?_
                    refine ru_go (t := (102, [some (.inr (some a0)), some (.inl x1), some (.inl x2)], [.inl 5, .inl ((64 * x1) + x2), .inr (sm_R M a0 18)], M)) sm_a205_101 rfl rfl (st_iconst (by decide)) ?_
                    refine ru_go (t := (103, [some (.inr (some a0)), some (.inl x1), some (.inl x2)], [.inl (((64 * x1) + x2) - 5), .inr (sm_R M a0 18)], M)) sm_a205_102 rfl rfl rfl ?_
                    obtain ⟨b_36, hb_37, h⟩ := h
                    rw [hb_37]
                    obtain ⟨h_38, h⟩ := h
                    obtain ⟨h_39, h⟩ := h
                    refine ru_go (t := (104, [some (.inr (some a0)), some (.inl x1), some (.inl x2)], [.inl (sm_I M b_36 (((64 * x1) + x2) - 5).toNatClampNeg)], M)) sm_a205_103 rfl rfl (st_iald h_38 h_39) ?_
                    exact ru_ret sm_a205_104 rfl h
        · have h := h.2 hc_4
          refine ru_go (t := (20, [some (.inr (some a0)), some (.inl x1), some (.inl x2)], [.inl (-1)], M)) sm_a205_19 rfl rfl (st_iconst (by decide)) ?_
          exact ru_ret sm_a205_20 rfl h

/-! WireBusModel.point:(III)I -/
theorem sm_a206_0 : sm_at 206 0 = some (.aload_n 0, 1, (0, 0, 0, 0)) := by decide +kernel
theorem sm_a206_1 : sm_at 206 1 = some (.iload_n 1, 1, (0, 0, 0, 0)) := by decide +kernel
theorem sm_a206_2 : sm_at 206 2 = some (.iload_n 2, 1, (0, 0, 0, 0)) := by decide +kernel
theorem sm_a206_3 : sm_at 206 3 = some (.invokevirtual 296, 3, (10, 155, 12, 1470)) := by decide +kernel
theorem sm_a206_6 : sm_at 206 6 = some (.istore 4, 2, (0, 0, 0, 0)) := by decide +kernel
theorem sm_a206_8 : sm_at 206 8 = some (.iload 4, 2, (0, 0, 0, 0)) := by decide +kernel
theorem sm_a206_10 : sm_at 206 10 = some (.iconst (-1), 1, (0, 0, 0, 0)) := by decide +kernel
theorem sm_a206_11 : sm_at 206 11 = some (.if_icmp .eq 12, 3, (0, 0, 0, 0)) := by decide +kernel
theorem sm_a206_14 : sm_at 206 14 = some (.iload_n 3, 1, (0, 0, 0, 0)) := by decide +kernel
theorem sm_a206_15 : sm_at 206 15 = some (.ifCond .lt 8, 3, (0, 0, 0, 0)) := by decide +kernel
theorem sm_a206_18 : sm_at 206 18 = some (.iload_n 3, 1, (0, 0, 0, 0)) := by decide +kernel
theorem sm_a206_19 : sm_at 206 19 = some (.iconst 4, 1, (0, 0, 0, 0)) := by decide +kernel
theorem sm_a206_20 : sm_at 206 20 = some (.if_icmp .le 5, 3, (0, 0, 0, 0)) := by decide +kernel
theorem sm_a206_23 : sm_at 206 23 = some (.iconst (-1), 1, (0, 0, 0, 0)) := by decide +kernel
theorem sm_a206_24 : sm_at 206 24 = some (.ireturn, 1, (0, 0, 0, 0)) := by decide +kernel
theorem sm_a206_25 : sm_at 206 25 = some (.aload_n 0, 1, (0, 0, 0, 0)) := by decide +kernel
theorem sm_a206_26 : sm_at 206 26 = some (.iload_n 1, 1, (0, 0, 0, 0)) := by decide +kernel
theorem sm_a206_27 : sm_at 206 27 = some (.iload_n 2, 1, (0, 0, 0, 0)) := by decide +kernel
theorem sm_a206_28 : sm_at 206 28 = some (.invokevirtual 385, 3, (10, 177, 12, 1498)) := by decide +kernel
theorem sm_a206_31 : sm_at 206 31 = some (.istore 5, 2, (0, 0, 0, 0)) := by decide +kernel
theorem sm_a206_33 : sm_at 206 33 = some (.iload_n 3, 1, (0, 0, 0, 0)) := by decide +kernel
theorem sm_a206_34 : sm_at 206 34 = some (.tableswitch 80 0 3 #[30, 38, 54, 62], 30, (0, 0, 0, 0)) := by decide +kernel
theorem sm_a206_64 : sm_at 206 64 = some (.aload_n 0, 1, (0, 0, 0, 0)) := by decide +kernel
theorem sm_a206_65 : sm_at 206 65 = some (.getfield 43, 3, (12, 13, 0, 1196)) := by decide +kernel
theorem sm_a206_68 : sm_at 206 68 = some (.iload 4, 2, (0, 0, 0, 0)) := by decide +kernel
theorem sm_a206_70 : sm_at 206 70 = some (.iaload, 1, (0, 0, 0, 0)) := by decide +kernel
theorem sm_a206_71 : sm_at 206 71 = some (.ireturn, 1, (0, 0, 0, 0)) := by decide +kernel
theorem sm_a206_72 : sm_at 206 72 = some (.aload_n 0, 1, (0, 0, 0, 0)) := by decide +kernel
theorem sm_a206_73 : sm_at 206 73 = some (.getfield 46, 3, (12, 14, 0, 1197)) := by decide +kernel
theorem sm_a206_76 : sm_at 206 76 = some (.iload 4, 2, (0, 0, 0, 0)) := by decide +kernel
theorem sm_a206_78 : sm_at 206 78 = some (.baload, 1, (0, 0, 0, 0)) := by decide +kernel
theorem sm_a206_79 : sm_at 206 79 = some (.ifCond .eq 7, 3, (0, 0, 0, 0)) := by decide +kernel
theorem sm_a206_82 : sm_at 206 82 = some (.iconst 1, 1, (0, 0, 0, 0)) := by decide +kernel
theorem sm_a206_83 : sm_at 206 83 = some (.goto 4, 3, (0, 0, 0, 0)) := by decide +kernel
theorem sm_a206_86 : sm_at 206 86 = some (.iconst 0, 1, (0, 0, 0, 0)) := by decide +kernel
theorem sm_a206_87 : sm_at 206 87 = some (.ireturn, 1, (0, 0, 0, 0)) := by decide +kernel
theorem sm_a206_88 : sm_at 206 88 = some (.aload_n 0, 1, (0, 0, 0, 0)) := by decide +kernel
theorem sm_a206_89 : sm_at 206 89 = some (.getfield 50, 3, (12, 15, 0, 1198)) := by decide +kernel
theorem sm_a206_92 : sm_at 206 92 = some (.iload 4, 2, (0, 0, 0, 0)) := by decide +kernel
theorem sm_a206_94 : sm_at 206 94 = some (.iaload, 1, (0, 0, 0, 0)) := by decide +kernel
theorem sm_a206_95 : sm_at 206 95 = some (.ireturn, 1, (0, 0, 0, 0)) := by decide +kernel
theorem sm_a206_96 : sm_at 206 96 = some (.iload 5, 2, (0, 0, 0, 0)) := by decide +kernel
theorem sm_a206_98 : sm_at 206 98 = some (.iconst (-1), 1, (0, 0, 0, 0)) := by decide +kernel
theorem sm_a206_99 : sm_at 206 99 = some (.if_icmp .ne 7, 3, (0, 0, 0, 0)) := by decide +kernel
theorem sm_a206_102 : sm_at 206 102 = some (.iconst (-1), 1, (0, 0, 0, 0)) := by decide +kernel
theorem sm_a206_103 : sm_at 206 103 = some (.goto 10, 3, (0, 0, 0, 0)) := by decide +kernel
theorem sm_a206_106 : sm_at 206 106 = some (.aload_n 0, 1, (0, 0, 0, 0)) := by decide +kernel
theorem sm_a206_107 : sm_at 206 107 = some (.getfield 176, 3, (12, 66, 0, 1249)) := by decide +kernel
theorem sm_a206_110 : sm_at 206 110 = some (.iload 5, 2, (0, 0, 0, 0)) := by decide +kernel
theorem sm_a206_112 : sm_at 206 112 = some (.iaload, 1, (0, 0, 0, 0)) := by decide +kernel
theorem sm_a206_113 : sm_at 206 113 = some (.ireturn, 1, (0, 0, 0, 0)) := by decide +kernel
theorem sm_a206_114 : sm_at 206 114 = some (.iload 5, 2, (0, 0, 0, 0)) := by decide +kernel
theorem sm_a206_116 : sm_at 206 116 = some (.iconst (-1), 1, (0, 0, 0, 0)) := by decide +kernel
theorem sm_a206_117 : sm_at 206 117 = some (.if_icmp .ne 7, 3, (0, 0, 0, 0)) := by decide +kernel
theorem sm_a206_120 : sm_at 206 120 = some (.iconst 0, 1, (0, 0, 0, 0)) := by decide +kernel
theorem sm_a206_121 : sm_at 206 121 = some (.goto 18, 3, (0, 0, 0, 0)) := by decide +kernel
theorem sm_a206_124 : sm_at 206 124 = some (.aload_n 0, 1, (0, 0, 0, 0)) := by decide +kernel
theorem sm_a206_125 : sm_at 206 125 = some (.getfield 179, 3, (12, 67, 0, 1250)) := by decide +kernel
theorem sm_a206_128 : sm_at 206 128 = some (.iload 5, 2, (0, 0, 0, 0)) := by decide +kernel
theorem sm_a206_130 : sm_at 206 130 = some (.baload, 1, (0, 0, 0, 0)) := by decide +kernel
theorem sm_a206_131 : sm_at 206 131 = some (.ifCond .eq 7, 3, (0, 0, 0, 0)) := by decide +kernel
theorem sm_a206_134 : sm_at 206 134 = some (.iconst 1, 1, (0, 0, 0, 0)) := by decide +kernel
theorem sm_a206_135 : sm_at 206 135 = some (.goto 4, 3, (0, 0, 0, 0)) := by decide +kernel
theorem sm_a206_138 : sm_at 206 138 = some (.iconst 2, 1, (0, 0, 0, 0)) := by decide +kernel
theorem sm_a206_139 : sm_at 206 139 = some (.ireturn, 1, (0, 0, 0, 0)) := by decide +kernel
theorem bb_206_0 {d : Nat} {M : sm_M} {Q : Option sm_V → sm_M → Prop} {a0 : Nat} {x1 : Int32} {x2 : Int32} {x3 : Int32} {z4 : Option sm_V} {z5 : Option sm_V}
    (h : sm_K M a0 = 39 ∧ sm_Run d 155 0 (sm_ent 155 [.inr (some a0), .inl x1, .inl x2]) [] M (fun v M1 => sm_Run (d + 1) 206 6 [some (.inr (some a0)), some (.inl x1), some (.inl x2), some (.inl x3), z4, z5] (v.toList ++ []) M1 Q)) :
    sm_Run (d + 1) 206 0 [some (.inr (some a0)), some (.inl x1), some (.inl x2), some (.inl x3), z4, z5] [] M Q := by
  refine ru_go (t := (1, [some (.inr (some a0)), some (.inl x1), some (.inl x2), some (.inl x3), z4, z5], [.inr (some a0)], M)) sm_a206_0 rfl rfl rfl ?_
  refine ru_go (t := (2, [some (.inr (some a0)), some (.inl x1), some (.inl x2), some (.inl x3), z4, z5], [.inl x1, .inr (some a0)], M)) sm_a206_1 rfl rfl rfl ?_
  refine ru_go (t := (3, [some (.inr (some a0)), some (.inl x1), some (.inl x2), some (.inl x3), z4, z5], [.inl x2, .inl x1, .inr (some a0)], M)) sm_a206_2 rfl rfl rfl ?_
  obtain ⟨h_1, h⟩ := h
  exact ru_call (p := 6) sm_a206_3 rfl (sc_virt (Or.inl rfl) rfl rfl h_1 (Nat.le_of_ble_eq_true rfl)) rfl h
theorem bb_206_6 {d : Nat} {M : sm_M} {Q : Option sm_V → sm_M → Prop} {a0 : Nat} {x1 : Int32} {x2 : Int32} {x3 : Int32} {z4 : Option sm_V} {z5 : Option sm_V} {y0 : Int32}
    (h : ((y0 = (-1) → Q (some (.inl (-1))) M) ∧ (¬ (y0 = (-1)) → ((x3 < 0 → Q (some (.inl (-1))) M) ∧ (¬ (x3 < 0) → ((x3 ≤ 4 → sm_K M a0 = 39 ∧ sm_Run d 177 0 (sm_ent 177 [.inr (some a0), .inl x1, .inl x2]) [] M (fun v M1 => sm_Run (d + 1) 206 31 [some (.inr (some a0)), some (.inl x1), some (.inl x2), some (.inl x3), some (.inl y0), z5] (v.toList ++ []) M1 Q)) ∧ (¬ (x3 ≤ 4) → Q (some (.inl (-1))) M))))))) :
    sm_Run (d + 1) 206 6 [some (.inr (some a0)), some (.inl x1), some (.inl x2), some (.inl x3), z4, z5] [.inl y0] M Q := by
  refine ru_go (t := (8, [some (.inr (some a0)), some (.inl x1), some (.inl x2), some (.inl x3), some (.inl y0), z5], [], M)) sm_a206_6 rfl rfl rfl ?_
  refine ru_go (t := (10, [some (.inr (some a0)), some (.inl x1), some (.inl x2), some (.inl x3), some (.inl y0), z5], [.inl y0], M)) sm_a206_8 rfl rfl rfl ?_
  refine ru_go (t := (11, [some (.inr (some a0)), some (.inl x1), some (.inl x2), some (.inl x3), some (.inl y0), z5], [.inl (-1), .inl y0], M)) sm_a206_10 rfl rfl (st_iconst (by decide)) ?_
  refine ru_icmp (pc := 11) (p := 23) (p2 := 14) sm_a206_11 (by decide) rfl ⟨fun hc_1 => ?_, fun hc_1 => ?_⟩
  · have h := h.1 hc_1
    refine ru_go (t := (24, [some (.inr (some a0)), some (.inl x1), some (.inl x2), some (.inl x3), some (.inl y0), z5], [.inl (-1)], M)) sm_a206_23 rfl rfl (st_iconst (by decide)) ?_
    exact ru_ret sm_a206_24 rfl h
  · have h := h.2 hc_1
    refine ru_go (t := (15, [some (.inr (some a0)), some (.inl x1), some (.inl x2), some (.inl x3), some (.inl y0), z5], [.inl x3], M)) sm_a206_14 rfl rfl rfl ?_
    refine ru_if (pc := 15) (p := 23) (p2 := 18) sm_a206_15 (by decide) rfl ⟨fun hc_2 => ?_, fun hc_2 => ?_⟩
    · have h := h.1 hc_2
      refine ru_go (t := (24, [some (.inr (some a0)), some (.inl x1), some (.inl x2), some (.inl x3), some (.inl y0), z5], [.inl (-1)], M)) sm_a206_23 rfl rfl (st_iconst (by decide)) ?_
      exact ru_ret sm_a206_24 rfl h
    · have h := h.2 hc_2
      refine ru_go (t := (19, [some (.inr (some a0)), some (.inl x1), some (.inl x2), some (.inl x3), some (.inl y0), z5], [.inl x3], M)) sm_a206_18 rfl rfl rfl ?_
      refine ru_go (t := (20, [some (.inr (some a0)), some (.inl x1), some (.inl x2), some (.inl x3), some (.inl y0), z5], [.inl 4, .inl x3], M)) sm_a206_19 rfl rfl (st_iconst (by decide)) ?_
      refine ru_icmp (pc := 20) (p := 25) (p2 := 23) sm_a206_20 (by decide) rfl ⟨fun hc_3 => ?_, fun hc_3 => ?_⟩
      · have h := h.1 hc_3
        refine ru_go (t := (26, [some (.inr (some a0)), some (.inl x1), some (.inl x2), some (.inl x3), some (.inl y0), z5], [.inr (some a0)], M)) sm_a206_25 rfl rfl rfl ?_
        refine ru_go (t := (27, [some (.inr (some a0)), some (.inl x1), some (.inl x2), some (.inl x3), some (.inl y0), z5], [.inl x1, .inr (some a0)], M)) sm_a206_26 rfl rfl rfl ?_
        refine ru_go (t := (28, [some (.inr (some a0)), some (.inl x1), some (.inl x2), some (.inl x3), some (.inl y0), z5], [.inl x2, .inl x1, .inr (some a0)], M)) sm_a206_27 rfl rfl rfl ?_
        obtain ⟨h_4, h⟩ := h
        exact ru_call (p := 31) sm_a206_28 rfl (sc_virt (Or.inl rfl) rfl rfl h_4 (Nat.le_of_ble_eq_true rfl)) rfl h
      · have h := h.2 hc_3
        refine ru_go (t := (24, [some (.inr (some a0)), some (.inl x1), some (.inl x2), some (.inl x3), some (.inl y0), z5], [.inl (-1)], M)) sm_a206_23 rfl rfl (st_iconst (by decide)) ?_
        exact ru_ret sm_a206_24 rfl h
theorem bb_206_31 {d : Nat} {M : sm_M} {Q : Option sm_V → sm_M → Prop} {a0 : Nat} {x1 : Int32} {x2 : Int32} {x3 : Int32} {x4 : Int32} {z5 : Option sm_V} {y0 : Int32}
    (h : ((x3 = 0 → sm_K M a0 = 39 ∧ ∃ b_3, sm_R M a0 13 = some b_3 ∧ sm_iA M b_3 ∧ sm_in_ M b_3 x4 ∧ Q (some (.inl (sm_I M b_3 (x4).toNatClampNeg))) M) ∧ (x3 = 1 → sm_K M a0 = 39 ∧ ∃ b_9, sm_R M a0 14 = some b_9 ∧ sm_wZ 1 M b_9 ∧ sm_in_ M b_9 x4 ∧ (((sm_I M b_9 (x4).toNatClampNeg) = 0 → Q (some (.inl 0)) M) ∧ (¬ ((sm_I M b_9 (x4).toNatClampNeg) = 0) → Q (some (.inl 1)) M))) ∧ (x3 = 2 → sm_K M a0 = 39 ∧ ∃ b_16, sm_R M a0 15 = some b_16 ∧ sm_iA M b_16 ∧ sm_in_ M b_16 x4 ∧ Q (some (.inl (sm_I M b_16 (x4).toNatClampNeg))) M) ∧ (x3 = 3 → ((¬ y0 = (-1) → sm_K M a0 = 39 ∧ ∃ b_23, sm_R M a0 66 = some b_23 ∧ sm_iA M b_23 ∧ sm_in_ M b_23 y0 ∧ Q (some (.inl (sm_I M b_23 (y0).toNatClampNeg))) M) ∧ (¬ (¬ y0 = (-1)) → Q (some (.inl (-1))) M))) ∧ (¬ x3 = 0 → ¬ x3 = 1 → ¬ x3 = 2 → ¬ x3 = 3 → ((¬ y0 = (-1) → sm_K M a0 = 39 ∧ ∃ b_29, sm_R M a0 67 = some b_29 ∧ sm_wZ 1 M b_29 ∧ sm_in_ M b_29 y0 ∧ (((sm_I M b_29 (y0).toNatClampNeg) = 0 → Q (some (.inl 2)) M) ∧ (¬ ((sm_I M b_29 (y0).toNatClampNeg) = 0) → Q (some (.inl 1)) M))) ∧ (¬ (¬ y0 = (-1)) → Q (some (.inl 0)) M))))) :
    sm_Run (d + 1) 206 31 [some (.inr (some a0)), some (.inl x1), some (.inl x2), some (.inl x3), some (.inl x4), z5] [.inl y0] M Q := by
  refine ru_go (t := (33, [some (.inr (some a0)), some (.inl x1), some (.inl x2), some (.inl x3), some (.inl x4), some (.inl y0)], [], M)) sm_a206_31 rfl rfl rfl ?_
  refine ru_go (t := (34, [some (.inr (some a0)), some (.inl x1), some (.inl x2), some (.inl x3), some (.inl x4), some (.inl y0)], [.inl x3], M)) sm_a206_33 rfl rfl rfl ?_
  by_cases hc_1 : x3 = 0
  · have h := h.1 hc_1
    refine ru_tsw (pc := 34) (v := 0) (p := 64) sm_a206_34 hc_1 (by decide) ?_
    refine ru_go (t := (65, [some (.inr (some a0)), some (.inl x1), some (.inl x2), some (.inl x3), some (.inl x4), some (.inl y0)], [.inr (some a0)], M)) sm_a206_64 rfl rfl rfl ?_
    obtain ⟨h_2, h⟩ := h
    refine ru_go (t := (68, [some (.inr (some a0)), some (.inl x1), some (.inl x2), some (.inl x3), some (.inl x4), some (.inl y0)], [.inr (sm_R M a0 13)], M)) sm_a206_65 rfl rfl (st_getR h_2 rfl rfl) ?_
    refine ru_go (t := (70, [some (.inr (some a0)), some (.inl x1), some (.inl x2), some (.inl x3), some (.inl x4), some (.inl y0)], [.inl x4, .inr (sm_R M a0 13)], M)) sm_a206_68 rfl rfl rfl ?_
    obtain ⟨b_3, hb_4, h⟩ := h
    rw [hb_4]
    obtain ⟨h_5, h⟩ := h
    obtain ⟨h_6, h⟩ := h
    refine ru_go (t := (71, [some (.inr (some a0)), some (.inl x1), some (.inl x2), some (.inl x3), some (.inl x4), some (.inl y0)], [.inl (sm_I M b_3 (x4).toNatClampNeg)], M)) sm_a206_70 rfl rfl (st_iald h_5 h_6) ?_
    exact ru_ret sm_a206_71 rfl h
  · by_cases hc_7 : x3 = 1
    · have h := h.2.1 hc_7
      refine ru_tsw (pc := 34) (v := 1) (p := 72) sm_a206_34 hc_7 (by decide) ?_
      refine ru_go (t := (73, [some (.inr (some a0)), some (.inl x1), some (.inl x2), some (.inl x3), some (.inl x4), some (.inl y0)], [.inr (some a0)], M)) sm_a206_72 rfl rfl rfl ?_
      obtain ⟨h_8, h⟩ := h
      refine ru_go (t := (76, [some (.inr (some a0)), some (.inl x1), some (.inl x2), some (.inl x3), some (.inl x4), some (.inl y0)], [.inr (sm_R M a0 14)], M)) sm_a206_73 rfl rfl (st_getR h_8 rfl rfl) ?_
      refine ru_go (t := (78, [some (.inr (some a0)), some (.inl x1), some (.inl x2), some (.inl x3), some (.inl x4), some (.inl y0)], [.inl x4, .inr (sm_R M a0 14)], M)) sm_a206_76 rfl rfl rfl ?_
      obtain ⟨b_9, hb_10, h⟩ := h
      rw [hb_10]
      obtain ⟨h_11, h⟩ := h
      obtain ⟨h_12, h⟩ := h
      refine ru_go (t := (79, [some (.inr (some a0)), some (.inl x1), some (.inl x2), some (.inl x3), some (.inl x4), some (.inl y0)], [.inl (sm_I M b_9 (x4).toNatClampNeg)], M)) sm_a206_78 rfl rfl (st_zald h_11 h_12) ?_
      refine ru_if (pc := 79) (p := 86) (p2 := 82) sm_a206_79 (by decide) rfl ⟨fun hc_13 => ?_, fun hc_13 => ?_⟩
      · have h := h.1 hc_13
        refine ru_go (t := (87, [some (.inr (some a0)), some (.inl x1), some (.inl x2), some (.inl x3), some (.inl x4), some (.inl y0)], [.inl 0], M)) sm_a206_86 rfl rfl (st_iconst (by decide)) ?_
        exact ru_ret sm_a206_87 rfl h
      · have h := h.2 hc_13
        refine ru_go (t := (83, [some (.inr (some a0)), some (.inl x1), some (.inl x2), some (.inl x3), some (.inl x4), some (.inl y0)], [.inl 1], M)) sm_a206_82 rfl rfl (st_iconst (by decide)) ?_
        refine ru_go (t := (87, [some (.inr (some a0)), some (.inl x1), some (.inl x2), some (.inl x3), some (.inl x4), some (.inl y0)], [.inl 1], M)) sm_a206_83 rfl rfl (st_goto (pc := 83) (by decide)) ?_
        exact ru_ret sm_a206_87 rfl h
    · by_cases hc_14 : x3 = 2
      · have h := h.2.2.1 hc_14
        refine ru_tsw (pc := 34) (v := 2) (p := 88) sm_a206_34 hc_14 (by decide) ?_
        refine ru_go (t := (89, [some (.inr (some a0)), some (.inl x1), some (.inl x2), some (.inl x3), some (.inl x4), some (.inl y0)], [.inr (some a0)], M)) sm_a206_88 rfl rfl rfl ?_
        obtain ⟨h_15, h⟩ := h
        refine ru_go (t := (92, [some (.inr (some a0)), some (.inl x1), some (.inl x2), some (.inl x3), some (.inl x4), some (.inl y0)], [.inr (sm_R M a0 15)], M)) sm_a206_89 rfl rfl (st_getR h_15 rfl rfl) ?_
        refine ru_go (t := (94, [some (.inr (some a0)), some (.inl x1), some (.inl x2), some (.inl x3), some (.inl x4), some (.inl y0)], [.inl x4, .inr (sm_R M a0 15)], M)) sm_a206_92 rfl rfl rfl ?_
        obtain ⟨b_16, hb_17, h⟩ := h
        rw [hb_17]
        obtain ⟨h_18, h⟩ := h
        obtain ⟨h_19, h⟩ := h
        refine ru_go (t := (95, [some (.inr (some a0)), some (.inl x1), some (.inl x2), some (.inl x3), some (.inl x4), some (.inl y0)], [.inl (sm_I M b_16 (x4).toNatClampNeg)], M)) sm_a206_94 rfl rfl (st_iald h_18 h_19) ?_
        exact ru_ret sm_a206_95 rfl h
      · by_cases hc_20 : x3 = 3
        · have h := h.2.2.2.1 hc_20
          refine ru_tsw (pc := 34) (v := 3) (p := 96) sm_a206_34 hc_20 (by decide) ?_
          refine ru_go (t := (98, [some (.inr (some a0)), some (.inl x1), some (.inl x2), some (.inl x3), some (.inl x4), some (.inl y0)], [.inl y0], M)) sm_a206_96 rfl rfl rfl ?_
          refine ru_go (t := (99, [some (.inr (some a0)), some (.inl x1), some (.inl x2), some (.inl x3), some (.inl x4), some (.inl y0)], [.inl (-1), .inl y0], M)) sm_a206_98 rfl rfl (st_iconst (by decide)) ?_
          refine ru_icmp (pc := 99) (p := 106) (p2 := 102) sm_a206_99 (by decide) rfl ⟨fun hc_21 => ?_, fun hc_21 => ?_⟩
          · have h := h.1 hc_21
            refine ru_go (t := (107, [some (.inr (some a0)), some (.inl x1), some (.inl x2), some (.inl x3), some (.inl x4), some (.inl y0)], [.inr (some a0)], M)) sm_a206_106 rfl rfl rfl ?_
            obtain ⟨h_22, h⟩ := h
            refine ru_go (t := (110, [some (.inr (some a0)), some (.inl x1), some (.inl x2), some (.inl x3), some (.inl x4), some (.inl y0)], [.inr (sm_R M a0 66)], M)) sm_a206_107 rfl rfl (st_getR h_22 rfl rfl) ?_
            refine ru_go (t := (112, [some (.inr (some a0)), some (.inl x1), some (.inl x2), some (.inl x3), some (.inl x4), some (.inl y0)], [.inl y0, .inr (sm_R M a0 66)], M)) sm_a206_110 rfl rfl rfl ?_
            obtain ⟨b_23, hb_24, h⟩ := h
            rw [hb_24]
            obtain ⟨h_25, h⟩ := h
            obtain ⟨h_26, h⟩ := h
            refine ru_go (t := (113, [some (.inr (some a0)), some (.inl x1), some (.inl x2), some (.inl x3), some (.inl x4), some (.inl y0)], [.inl (sm_I M b_23 (y0).toNatClampNeg)], M)) sm_a206_112 rfl rfl (st_iald h_25 h_26) ?_
            exact ru_ret sm_a206_113 rfl h
          · have h := h.2 hc_21
            refine ru_go (t := (103, [some (.inr (some a0)), some (.inl x1), some (.inl x2), some (.inl x3), some (.inl x4), some (.inl y0)], [.inl (-1)], M)) sm_a206_102 rfl rfl (st_iconst (by decide)) ?_
            refine ru_go (t := (113, [some (.inr (some a0)), some (.inl x1), some (.inl x2), some (.inl x3), some (.inl x4), some (.inl y0)], [.inl (-1)], M)) sm_a206_103 rfl rfl (st_goto (pc := 103) (by decide)) ?_
            exact ru_ret sm_a206_113 rfl h
        · have h := h.2.2.2.2 hc_1 hc_7 hc_14 hc_20
          have zhc_1 := sm_ne_toInt hc_1; rw [show (0 : Int32).toInt = 0 by decide] at zhc_1
          have zhc_7 := sm_ne_toInt hc_7; rw [show (1 : Int32).toInt = 1 by decide] at zhc_7
          have zhc_14 := sm_ne_toInt hc_14; rw [show (2 : Int32).toInt = 2 by decide] at zhc_14
          have zhc_20 := sm_ne_toInt hc_20; rw [show (3 : Int32).toInt = 3 by decide] at zhc_20
          refine ru_tswd (pc := 34) (p := 114) sm_a206_34 (by omega) (by decide) ?_
          refine ru_go (t := (116, [some (.inr (some a0)), some (.inl x1), some (.inl x2), some (.inl x3), some (.inl x4), some (.inl y0)], [.inl y0], M)) sm_a206_114 rfl rfl rfl ?_
          refine ru_go (t := (117, [some (.inr (some a0)), some (.inl x1), some (.inl x2), some (.inl x3), some (.inl x4), some (.inl y0)], [.inl (-1), .inl y0], M)) sm_a206_116 rfl rfl (st_iconst (by decide)) ?_
          refine ru_icmp (pc := 117) (p := 124) (p2 := 120) sm_a206_117 (by decide) rfl ⟨fun hc_27 => ?_, fun hc_27 => ?_⟩
          · have h := h.1 hc_27
            refine ru_go (t := (125, [some (.inr (some a0)), some (.inl x1), some (.inl x2), some (.inl x3), some (.inl x4), some (.inl y0)], [.inr (some a0)], M)) sm_a206_124 rfl rfl rfl ?_
            obtain ⟨h_28, h⟩ := h
            refine ru_go (t := (128, [some (.inr (some a0)), some (.inl x1), some (.inl x2), some (.inl x3), some (.inl x4), some (.inl y0)], [.inr (sm_R M a0 67)], M)) sm_a206_125 rfl rfl (st_getR h_28 rfl rfl) ?_
            refine ru_go (t := (130, [some (.inr (some a0)), some (.inl x1), some (.inl x2), some (.inl x3), some (.inl x4), some (.inl y0)], [.inl y0, .inr (sm_R M a0 67)], M)) sm_a206_128 rfl rfl rfl ?_
            obtain ⟨b_29, hb_30, h⟩ := h
            rw [hb_30]
            obtain ⟨h_31, h⟩ := h
            obtain ⟨h_32, h⟩ := h
            refine ru_go (t := (131, [some (.inr (some a0)), some (.inl x1), some (.inl x2), some (.inl x3), some (.inl x4), some (.inl y0)], [.inl (sm_I M b_29 (y0).toNatClampNeg)], M)) sm_a206_130 rfl rfl (st_zald h_31 h_32) ?_
            refine ru_if (pc := 131) (p := 138) (p2 := 134) sm_a206_131 (by decide) rfl ⟨fun hc_33 => ?_, fun hc_33 => ?_⟩
            · have h := h.1 hc_33
              refine ru_go (t := (139, [some (.inr (some a0)), some (.inl x1), some (.inl x2), some (.inl x3), some (.inl x4), some (.inl y0)], [.inl 2], M)) sm_a206_138 rfl rfl (st_iconst (by decide)) ?_
              exact ru_ret sm_a206_139 rfl h
            · have h := h.2 hc_33
              refine ru_go (t := (135, [some (.inr (some a0)), some (.inl x1), some (.inl x2), some (.inl x3), some (.inl x4), some (.inl y0)], [.inl 1], M)) sm_a206_134 rfl rfl (st_iconst (by decide)) ?_
              refine ru_go (t := (139, [some (.inr (some a0)), some (.inl x1), some (.inl x2), some (.inl x3), some (.inl x4), some (.inl y0)], [.inl 1], M)) sm_a206_135 rfl rfl (st_goto (pc := 135) (by decide)) ?_
              exact ru_ret sm_a206_139 rfl h
          · have h := h.2 hc_27
            refine ru_go (t := (121, [some (.inr (some a0)), some (.inl x1), some (.inl x2), some (.inl x3), some (.inl x4), some (.inl y0)], [.inl 0], M)) sm_a206_120 rfl rfl (st_iconst (by decide)) ?_
            refine ru_go (t := (139, [some (.inr (some a0)), some (.inl x1), some (.inl x2), some (.inl x3), some (.inl x4), some (.inl y0)], [.inl 0], M)) sm_a206_121 rfl rfl (st_goto (pc := 121) (by decide)) ?_
            exact ru_ret sm_a206_139 rfl h

/-! WireBusModel.packet:(II)I -/
theorem sm_a207_0 : sm_at 207 0 = some (.iload_n 1, 1, (0, 0, 0, 0)) := by decide +kernel
theorem sm_a207_1 : sm_at 207 1 = some (.ifCond .lt 26, 3, (0, 0, 0, 0)) := by decide +kernel
theorem sm_a207_4 : sm_at 207 4 = some (.iload_n 1, 1, (0, 0, 0, 0)) := by decide +kernel
theorem sm_a207_5 : sm_at 207 5 = some (.aload_n 0, 1, (0, 0, 0, 0)) := by decide +kernel
theorem sm_a207_6 : sm_at 207 6 = some (.getfield 256, 3, (12, 32, 0, 1215)) := by decide +kernel
theorem sm_a207_9 : sm_at 207 9 = some (.if_icmp .ge 18, 3, (0, 0, 0, 0)) := by decide +kernel
theorem sm_a207_12 : sm_at 207 12 = some (.iload_n 1, 1, (0, 0, 0, 0)) := by decide +kernel
theorem sm_a207_13 : sm_at 207 13 = some (.aload_n 0, 1, (0, 0, 0, 0)) := by decide +kernel
theorem sm_a207_14 : sm_at 207 14 = some (.getfield 256, 3, (12, 32, 0, 1215)) := by decide +kernel
theorem sm_a207_17 : sm_at 207 17 = some (.bipush 60, 2, (0, 0, 0, 0)) := by decide +kernel
theorem sm_a207_19 : sm_at 207 19 = some (.isub, 1, (0, 0, 0, 0)) := by decide +kernel
theorem sm_a207_20 : sm_at 207 20 = some (.if_icmp .lt 7, 3, (0, 0, 0, 0)) := by decide +kernel
theorem sm_a207_23 : sm_at 207 23 = some (.iload_n 2, 1, (0, 0, 0, 0)) := by decide +kernel
theorem sm_a207_24 : sm_at 207 24 = some (.ifCond .ge 5, 3, (0, 0, 0, 0)) := by decide +kernel
theorem sm_a207_27 : sm_at 207 27 = some (.iconst (-1), 1, (0, 0, 0, 0)) := by decide +kernel
theorem sm_a207_28 : sm_at 207 28 = some (.ireturn, 1, (0, 0, 0, 0)) := by decide +kernel
theorem sm_a207_29 : sm_at 207 29 = some (.iload_n 1, 1, (0, 0, 0, 0)) := by decide +kernel
theorem sm_a207_30 : sm_at 207 30 = some (.bipush 60, 2, (0, 0, 0, 0)) := by decide +kernel
theorem sm_a207_32 : sm_at 207 32 = some (.irem, 1, (0, 0, 0, 0)) := by decide +kernel
theorem sm_a207_33 : sm_at 207 33 = some (.istore_n 3, 1, (0, 0, 0, 0)) := by decide +kernel
theorem sm_a207_34 : sm_at 207 34 = some (.iload_n 2, 1, (0, 0, 0, 0)) := by decide +kernel
theorem sm_a207_35 : sm_at 207 35 = some (.ifCond .ne 10, 3, (0, 0, 0, 0)) := by decide +kernel
theorem sm_a207_38 : sm_at 207 38 = some (.aload_n 0, 1, (0, 0, 0, 0)) := by decide +kernel
theorem sm_a207_39 : sm_at 207 39 = some (.getfield 110, 3, (12, 37, 0, 1220)) := by decide +kernel
theorem sm_a207_42 : sm_at 207 42 = some (.iload_n 3, 1, (0, 0, 0, 0)) := by decide +kernel
theorem sm_a207_43 : sm_at 207 43 = some (.iaload, 1, (0, 0, 0, 0)) := by decide +kernel
theorem sm_a207_44 : sm_at 207 44 = some (.ireturn, 1, (0, 0, 0, 0)) := by decide +kernel
theorem sm_a207_45 : sm_at 207 45 = some (.iload_n 2, 1, (0, 0, 0, 0)) := by decide +kernel
theorem sm_a207_46 : sm_at 207 46 = some (.iconst 1, 1, (0, 0, 0, 0)) := by decide +kernel
theorem sm_a207_47 : sm_at 207 47 = some (.if_icmp .ne 10, 3, (0, 0, 0, 0)) := by decide +kernel
theorem sm_a207_50 : sm_at 207 50 = some (.aload_n 0, 1, (0, 0, 0, 0)) := by decide +kernel
theorem sm_a207_51 : sm_at 207 51 = some (.getfield 113, 3, (12, 38, 0, 1221)) := by decide +kernel
theorem sm_a207_54 : sm_at 207 54 = some (.iload_n 3, 1, (0, 0, 0, 0)) := by decide +kernel
theorem sm_a207_55 : sm_at 207 55 = some (.iaload, 1, (0, 0, 0, 0)) := by decide +kernel
theorem sm_a207_56 : sm_at 207 56 = some (.ireturn, 1, (0, 0, 0, 0)) := by decide +kernel
theorem sm_a207_57 : sm_at 207 57 = some (.iload_n 2, 1, (0, 0, 0, 0)) := by decide +kernel
theorem sm_a207_58 : sm_at 207 58 = some (.iconst 3, 1, (0, 0, 0, 0)) := by decide +kernel
theorem sm_a207_59 : sm_at 207 59 = some (.if_icmp .ne 10, 3, (0, 0, 0, 0)) := by decide +kernel
theorem sm_a207_62 : sm_at 207 62 = some (.aload_n 0, 1, (0, 0, 0, 0)) := by decide +kernel
theorem sm_a207_63 : sm_at 207 63 = some (.getfield 128, 3, (12, 43, 0, 1226)) := by decide +kernel
theorem sm_a207_66 : sm_at 207 66 = some (.iload_n 3, 1, (0, 0, 0, 0)) := by decide +kernel
theorem sm_a207_67 : sm_at 207 67 = some (.iaload, 1, (0, 0, 0, 0)) := by decide +kernel
theorem sm_a207_68 : sm_at 207 68 = some (.ireturn, 1, (0, 0, 0, 0)) := by decide +kernel
theorem sm_a207_69 : sm_at 207 69 = some (.aload_n 0, 1, (0, 0, 0, 0)) := by decide +kernel
theorem sm_a207_70 : sm_at 207 70 = some (.iload_n 3, 1, (0, 0, 0, 0)) := by decide +kernel
theorem sm_a207_71 : sm_at 207 71 = some (.invokevirtual 262, 3, (10, 158, 12, 1531)) := by decide +kernel
theorem sm_a207_74 : sm_at 207 74 = some (.iload_n 2, 1, (0, 0, 0, 0)) := by decide +kernel
theorem sm_a207_75 : sm_at 207 75 = some (.iconst 2, 1, (0, 0, 0, 0)) := by decide +kernel
theorem sm_a207_76 : sm_at 207 76 = some (.if_icmp .ne 8, 3, (0, 0, 0, 0)) := by decide +kernel
theorem sm_a207_79 : sm_at 207 79 = some (.aload_n 0, 1, (0, 0, 0, 0)) := by decide +kernel
theorem sm_a207_80 : sm_at 207 80 = some (.getfield 253, 3, (12, 46, 0, 1229)) := by decide +kernel
theorem sm_a207_83 : sm_at 207 83 = some (.ireturn, 1, (0, 0, 0, 0)) := by decide +kernel
theorem sm_a207_84 : sm_at 207 84 = some (.iload_n 2, 1, (0, 0, 0, 0)) := by decide +kernel
theorem sm_a207_85 : sm_at 207 85 = some (.iconst 4, 1, (0, 0, 0, 0)) := by decide +kernel
theorem sm_a207_86 : sm_at 207 86 = some (.isub, 1, (0, 0, 0, 0)) := by decide +kernel
theorem sm_a207_87 : sm_at 207 87 = some (.aload_n 0, 1, (0, 0, 0, 0)) := by decide +kernel
theorem sm_a207_88 : sm_at 207 88 = some (.getfield 253, 3, (12, 46, 0, 1229)) := by decide +kernel
theorem sm_a207_91 : sm_at 207 91 = some (.if_icmp .lt 7, 3, (0, 0, 0, 0)) := by decide +kernel
theorem sm_a207_94 : sm_at 207 94 = some (.iconst (-1), 1, (0, 0, 0, 0)) := by decide +kernel
theorem sm_a207_95 : sm_at 207 95 = some (.goto 42, 3, (0, 0, 0, 0)) := by decide +kernel
theorem sm_a207_98 : sm_at 207 98 = some (.aload_n 0, 1, (0, 0, 0, 0)) := by decide +kernel
theorem sm_a207_99 : sm_at 207 99 = some (.getfield 128, 3, (12, 43, 0, 1226)) := by decide +kernel
theorem sm_a207_102 : sm_at 207 102 = some (.iload_n 3, 1, (0, 0, 0, 0)) := by decide +kernel
theorem sm_a207_103 : sm_at 207 103 = some (.iaload, 1, (0, 0, 0, 0)) := by decide +kernel
theorem sm_a207_104 : sm_at 207 104 = some (.iconst 2, 1, (0, 0, 0, 0)) := by decide +kernel
theorem sm_a207_105 : sm_at 207 105 = some (.if_icmp .ne 24, 3, (0, 0, 0, 0)) := by decide +kernel
theorem sm_a207_108 : sm_at 207 108 = some (.aload_n 0, 1, (0, 0, 0, 0)) := by decide +kernel
theorem sm_a207_109 : sm_at 207 109 = some (.getfield 131, 3, (12, 44, 0, 1227)) := by decide +kernel
theorem sm_a207_112 : sm_at 207 112 = some (.iload_n 3, 1, (0, 0, 0, 0)) := by decide +kernel
theorem sm_a207_113 : sm_at 207 113 = some (.iaload, 1, (0, 0, 0, 0)) := by decide +kernel
theorem sm_a207_114 : sm_at 207 114 = some (.iload_n 2, 1, (0, 0, 0, 0)) := by decide +kernel
theorem sm_a207_115 : sm_at 207 115 = some (.iconst 4, 1, (0, 0, 0, 0)) := by decide +kernel
theorem sm_a207_116 : sm_at 207 116 = some (.isub, 1, (0, 0, 0, 0)) := by decide +kernel
theorem sm_a207_117 : sm_at 207 117 = some (.if_icmp .ne 12, 3, (0, 0, 0, 0)) := by decide +kernel
theorem sm_a207_120 : sm_at 207 120 = some (.aload_n 0, 1, (0, 0, 0, 0)) := by decide +kernel
theorem sm_a207_121 : sm_at 207 121 = some (.getfield 134, 3, (12, 45, 0, 1228)) := by decide +kernel
theorem sm_a207_124 : sm_at 207 124 = some (.iload_n 3, 1, (0, 0, 0, 0)) := by decide +kernel
theorem sm_a207_125 : sm_at 207 125 = some (.iaload, 1, (0, 0, 0, 0)) := by decide +kernel
theorem sm_a207_126 : sm_at 207 126 = some (.goto 11, 3, (0, 0, 0, 0)) := by decide +kernel
theorem sm_a207_129 : sm_at 207 129 = some (.aload_n 0, 1, (0, 0, 0, 0)) := by decide +kernel
theorem sm_a207_130 : sm_at 207 130 = some (.getfield 137, 3, (12, 47, 0, 1230)) := by decide +kernel
theorem sm_a207_133 : sm_at 207 133 = some (.iload_n 2, 1, (0, 0, 0, 0)) := by decide +kernel
theorem sm_a207_134 : sm_at 207 134 = some (.iconst 4, 1, (0, 0, 0, 0)) := by decide +kernel
theorem sm_a207_135 : sm_at 207 135 = some (.isub, 1, (0, 0, 0, 0)) := by decide +kernel
theorem sm_a207_136 : sm_at 207 136 = some (.iaload, 1, (0, 0, 0, 0)) := by decide +kernel
theorem sm_a207_137 : sm_at 207 137 = some (.ireturn, 1, (0, 0, 0, 0)) := by decide +kernel
theorem bb_207_0 {d : Nat} {M : sm_M} {Q : Option sm_V → sm_M → Prop} {a0 : Nat} {x1 : Int32} {x2 : Int32} {z3 : Option sm_V}
    (h : ((x1 < 0 → Q (some (.inl (-1))) M) ∧ (¬ (x1 < 0) → sm_K M a0 = 39 ∧ (((sm_I M a0 32) ≤ x1 → Q (some (.inl (-1))) M) ∧ (¬ ((sm_I M a0 32) ≤ x1) → ((x1 < ((sm_I M a0 32) - 60) → Q (some (.inl (-1))) M) ∧ (¬ (x1 < ((sm_I M a0 32) - 60)) → ((0 ≤ x2 → ((¬ x2 = 0 → ((¬ x2 = 1 → ((¬ x2 = 3 → sm_Run d 158 0 (sm_ent 158 [.inr (some a0), .inl (x1 - x1 / 60 * 60)]) [] M (fun v M1 => sm_Run (d + 1) 207 74 [some (.inr (some a0)), some (.inl x1), some (.inl x2), some (.inl (x1 - x1 / 60 * 60))] (v.toList ++ []) M1 Q)) ∧ (¬ (¬ x2 = 3) → ∃ b_9, sm_R M a0 43 = some b_9 ∧ sm_iA M b_9 ∧ sm_in_ M b_9 (x1 - x1 / 60 * 60) ∧ Q (some (.inl (sm_I M b_9 (x1 - x1 / 60 * 60).toNatClampNeg))) M))) ∧ (¬ (¬ x2 = 1) → ∃ b_13, sm_R M a0 38 = some b_13 ∧ sm_iA M b_13 ∧ sm_in_ M b_13 (x1 - x1 / 60 * 60) ∧ Q (some (.inl (sm_I M b_13 (x1 - x1 / 60 * 60).toNatClampNeg))) M))) ∧ (¬ (¬ x2 = 0) → ∃ b_17, sm_R M a0 37 = some b_17 ∧ sm_iA M b_17 ∧ sm_in_ M b_17 (x1 - x1 / 60 * 60) ∧ Q (some (.inl (sm_I M b_17 (x1 - x1 / 60 * 60).toNatClampNeg))) M))) ∧ (¬ (0 ≤ x2) → Q (some (.inl (-1))) M))))))))) :
    sm_Run (d + 1) 207 0 [some (.inr (some a0)), some (.inl x1), some (.inl x2), z3] [] M Q := by
  refine ru_go (t := (1, [some (.inr (some a0)), some (.inl x1), some (.inl x2), z3], [.inl x1], M)) sm_a207_0 rfl rfl rfl ?_
  refine ru_if (pc := 1) (p := 27) (p2 := 4) sm_a207_1 (by decide) rfl ⟨fun hc_1 => ?_, fun hc_1 => ?_⟩
  · have h := h.1 hc_1
    refine ru_go (t := (28, [some (.inr (some a0)), some (.inl x1), some (.inl x2), z3], [.inl (-1)], M)) sm_a207_27 rfl rfl (st_iconst (by decide)) ?_
    exact ru_ret sm_a207_28 rfl h
  · have h := h.2 hc_1
    refine ru_go (t := (5, [some (.inr (some a0)), some (.inl x1), some (.inl x2), z3], [.inl x1], M)) sm_a207_4 rfl rfl rfl ?_
    refine ru_go (t := (6, [some (.inr (some a0)), some (.inl x1), some (.inl x2), z3], [.inr (some a0), .inl x1], M)) sm_a207_5 rfl rfl rfl ?_
    obtain ⟨h_2, h⟩ := h
    refine ru_go (t := (9, [some (.inr (some a0)), some (.inl x1), some (.inl x2), z3], [.inl (sm_I M a0 32), .inl x1], M)) sm_a207_6 rfl rfl (st_getI h_2 rfl) ?_
    refine ru_icmp (pc := 9) (p := 27) (p2 := 12) sm_a207_9 (by decide) rfl ⟨fun hc_3 => ?_, fun hc_3 => ?_⟩
    · have h := h.1 hc_3
      refine ru_go (t := (28, [some (.inr (some a0)), some (.inl x1), some (.inl x2), z3], [.inl (-1)], M)) sm_a207_27 rfl rfl (st_iconst (by decide)) ?_
      exact ru_ret sm_a207_28 rfl h
    · have h := h.2 hc_3
      refine ru_go (t := (13, [some (.inr (some a0)), some (.inl x1), some (.inl x2), z3], [.inl x1], M)) sm_a207_12 rfl rfl rfl ?_
      refine ru_go (t := (14, [some (.inr (some a0)), some (.inl x1), some (.inl x2), z3], [.inr (some a0), .inl x1], M)) sm_a207_13 rfl rfl rfl ?_
      refine ru_go (t := (17, [some (.inr (some a0)), some (.inl x1), some (.inl x2), z3], [.inl (sm_I M a0 32), .inl x1], M)) sm_a207_14 rfl rfl (st_getI h_2 rfl) ?_
      refine ru_go (t := (19, [some (.inr (some a0)), some (.inl x1), some (.inl x2), z3], [.inl 60, .inl (sm_I M a0 32), .inl x1], M)) sm_a207_17 rfl rfl (st_bipush (by decide)) ?_
      refine ru_go (t := (20, [some (.inr (some a0)), some (.inl x1), some (.inl x2), z3], [.inl ((sm_I M a0 32) - 60), .inl x1], M)) sm_a207_19 rfl rfl rfl ?_
      refine ru_icmp (pc := 20) (p := 27) (p2 := 23) sm_a207_20 (by decide) rfl ⟨fun hc_4 => ?_, fun hc_4 => ?_⟩
      · have h := h.1 hc_4
        refine ru_go (t := (28, [some (.inr (some a0)), some (.inl x1), some (.inl x2), z3], [.inl (-1)], M)) sm_a207_27 rfl rfl (st_iconst (by decide)) ?_
        exact ru_ret sm_a207_28 rfl h
      · have h := h.2 hc_4
        refine ru_go (t := (24, [some (.inr (some a0)), some (.inl x1), some (.inl x2), z3], [.inl x2], M)) sm_a207_23 rfl rfl rfl ?_
        refine ru_if (pc := 24) (p := 29) (p2 := 27) sm_a207_24 (by decide) rfl ⟨fun hc_5 => ?_, fun hc_5 => ?_⟩
        · have h := h.1 hc_5
          refine ru_go (t := (30, [some (.inr (some a0)), some (.inl x1), some (.inl x2), z3], [.inl x1], M)) sm_a207_29 rfl rfl rfl ?_
          refine ru_go (t := (32, [some (.inr (some a0)), some (.inl x1), some (.inl x2), z3], [.inl 60, .inl x1], M)) sm_a207_30 rfl rfl (st_bipush (by decide)) ?_
          refine ru_go (t := (33, [some (.inr (some a0)), some (.inl x1), some (.inl x2), z3], [.inl (x1 - x1 / 60 * 60)], M)) sm_a207_32 rfl rfl (st_rem (by decide)) ?_
          refine ru_go (t := (34, [some (.inr (some a0)), some (.inl x1), some (.inl x2), some (.inl (x1 - x1 / 60 * 60))], [], M)) sm_a207_33 rfl rfl rfl ?_
          refine ru_go (t := (35, [some (.inr (some a0)), some (.inl x1), some (.inl x2), some (.inl (x1 - x1 / 60 * 60))], [.inl x2], M)) sm_a207_34 rfl rfl rfl ?_
          refine ru_if (pc := 35) (p := 45) (p2 := 38) sm_a207_35 (by decide) rfl ⟨fun hc_6 => ?_, fun hc_6 => ?_⟩
          · have h := h.1 hc_6
            refine ru_go (t := (46, [some (.inr (some a0)), some (.inl x1), some (.inl x2), some (.inl (x1 - x1 / 60 * 60))], [.inl x2], M)) sm_a207_45 rfl rfl rfl ?_
            refine ru_go (t := (47, [some (.inr (some a0)), some (.inl x1), some (.inl x2), some (.inl (x1 - x1 / 60 * 60))], [.inl 1, .inl x2], M)) sm_a207_46 rfl rfl (st_iconst (by decide)) ?_
            refine ru_icmp (pc := 47) (p := 57) (p2 := 50) sm_a207_47 (by decide) rfl ⟨fun hc_7 => ?_, fun hc_7 => ?_⟩
            · have h := h.1 hc_7
              refine ru_go (t := (58, [some (.inr (some a0)), some (.inl x1), some (.inl x2), some (.inl (x1 - x1 / 60 * 60))], [.inl x2], M)) sm_a207_57 rfl rfl rfl ?_
              refine ru_go (t := (59, [some (.inr (some a0)), some (.inl x1), some (.inl x2), some (.inl (x1 - x1 / 60 * 60))], [.inl 3, .inl x2], M)) sm_a207_58 rfl rfl (st_iconst (by decide)) ?_
              refine ru_icmp (pc := 59) (p := 69) (p2 := 62) sm_a207_59 (by decide) rfl ⟨fun hc_8 => ?_, fun hc_8 => ?_⟩
              · have h := h.1 hc_8
                refine ru_go (t := (70, [some (.inr (some a0)), some (.inl x1), some (.inl x2), some (.inl (x1 - x1 / 60 * 60))], [.inr (some a0)], M)) sm_a207_69 rfl rfl rfl ?_
                refine ru_go (t := (71, [some (.inr (some a0)), some (.inl x1), some (.inl x2), some (.inl (x1 - x1 / 60 * 60))], [.inl (x1 - x1 / 60 * 60), .inr (some a0)], M)) sm_a207_70 rfl rfl rfl ?_
                exact ru_call (p := 74) sm_a207_71 rfl (sc_virt (Or.inl rfl) rfl rfl h_2 (Nat.le_of_ble_eq_true rfl)) rfl h
              · have h := h.2 hc_8
                refine ru_go (t := (63, [some (.inr (some a0)), some (.inl x1), some (.inl x2), some (.inl (x1 - x1 / 60 * 60))], [.inr (some a0)], M)) sm_a207_62 rfl rfl rfl ?_
                refine ru_go (t := (66, [some (.inr (some a0)), some (.inl x1), some (.inl x2), some (.inl (x1 - x1 / 60 * 60))], [.inr (sm_R M a0 43)], M)) sm_a207_63 rfl rfl (st_getR h_2 rfl rfl) ?_
                refine ru_go (t := (67, [some (.inr (some a0)), some (.inl x1), some (.inl x2), some (.inl (x1 - x1 / 60 * 60))], [.inl (x1 - x1 / 60 * 60), .inr (sm_R M a0 43)], M)) sm_a207_66 rfl rfl rfl ?_
                obtain ⟨b_9, hb_10, h⟩ := h
                rw [hb_10]
                obtain ⟨h_11, h⟩ := h
                obtain ⟨h_12, h⟩ := h
                refine ru_go (t := (68, [some (.inr (some a0)), some (.inl x1), some (.inl x2), some (.inl (x1 - x1 / 60 * 60))], [.inl (sm_I M b_9 (x1 - x1 / 60 * 60).toNatClampNeg)], M)) sm_a207_67 rfl rfl (st_iald h_11 h_12) ?_
                exact ru_ret sm_a207_68 rfl h
            · have h := h.2 hc_7
              refine ru_go (t := (51, [some (.inr (some a0)), some (.inl x1), some (.inl x2), some (.inl (x1 - x1 / 60 * 60))], [.inr (some a0)], M)) sm_a207_50 rfl rfl rfl ?_
              refine ru_go (t := (54, [some (.inr (some a0)), some (.inl x1), some (.inl x2), some (.inl (x1 - x1 / 60 * 60))], [.inr (sm_R M a0 38)], M)) sm_a207_51 rfl rfl (st_getR h_2 rfl rfl) ?_
              refine ru_go (t := (55, [some (.inr (some a0)), some (.inl x1), some (.inl x2), some (.inl (x1 - x1 / 60 * 60))], [.inl (x1 - x1 / 60 * 60), .inr (sm_R M a0 38)], M)) sm_a207_54 rfl rfl rfl ?_
              obtain ⟨b_13, hb_14, h⟩ := h
              rw [hb_14]
              obtain ⟨h_15, h⟩ := h
              obtain ⟨h_16, h⟩ := h
              refine ru_go (t := (56, [some (.inr (some a0)), some (.inl x1), some (.inl x2), some (.inl (x1 - x1 / 60 * 60))], [.inl (sm_I M b_13 (x1 - x1 / 60 * 60).toNatClampNeg)], M)) sm_a207_55 rfl rfl (st_iald h_15 h_16) ?_
              exact ru_ret sm_a207_56 rfl h
          · have h := h.2 hc_6
            refine ru_go (t := (39, [some (.inr (some a0)), some (.inl x1), some (.inl x2), some (.inl (x1 - x1 / 60 * 60))], [.inr (some a0)], M)) sm_a207_38 rfl rfl rfl ?_
            refine ru_go (t := (42, [some (.inr (some a0)), some (.inl x1), some (.inl x2), some (.inl (x1 - x1 / 60 * 60))], [.inr (sm_R M a0 37)], M)) sm_a207_39 rfl rfl (st_getR h_2 rfl rfl) ?_
            refine ru_go (t := (43, [some (.inr (some a0)), some (.inl x1), some (.inl x2), some (.inl (x1 - x1 / 60 * 60))], [.inl (x1 - x1 / 60 * 60), .inr (sm_R M a0 37)], M)) sm_a207_42 rfl rfl rfl ?_
            obtain ⟨b_17, hb_18, h⟩ := h
            rw [hb_18]
            obtain ⟨h_19, h⟩ := h
            obtain ⟨h_20, h⟩ := h
            refine ru_go (t := (44, [some (.inr (some a0)), some (.inl x1), some (.inl x2), some (.inl (x1 - x1 / 60 * 60))], [.inl (sm_I M b_17 (x1 - x1 / 60 * 60).toNatClampNeg)], M)) sm_a207_43 rfl rfl (st_iald h_19 h_20) ?_
            exact ru_ret sm_a207_44 rfl h
        · have h := h.2 hc_5
          refine ru_go (t := (28, [some (.inr (some a0)), some (.inl x1), some (.inl x2), z3], [.inl (-1)], M)) sm_a207_27 rfl rfl (st_iconst (by decide)) ?_
          exact ru_ret sm_a207_28 rfl h
theorem bb_207_74 {d : Nat} {M : sm_M} {Q : Option sm_V → sm_M → Prop} {a0 : Nat} {x1 : Int32} {x2 : Int32} {x3 : Int32}
    (h : ((¬ x2 = 2 → sm_K M a0 = 39 ∧ (((x2 - 4) < (sm_I M a0 46) → ∃ b_4, sm_R M a0 43 = some b_4 ∧ sm_iA M b_4 ∧ sm_in_ M b_4 x3 ∧ ((¬ (sm_I M b_4 (x3).toNatClampNeg) = 2 → ∃ b_9, sm_R M a0 47 = some b_9 ∧ sm_iA M b_9 ∧ sm_in_ M b_9 (x2 - 4) ∧ Q (some (.inl (sm_I M b_9 (x2 - 4).toNatClampNeg))) M) ∧ (¬ (¬ (sm_I M b_4 (x3).toNatClampNeg) = 2) → ∃ b_13, sm_R M a0 44 = some b_13 ∧ sm_iA M b_13 ∧ sm_in_ M b_13 x3 ∧ ((¬ (sm_I M b_13 (x3).toNatClampNeg) = (x2 - 4) → ∃ b_18, sm_R M a0 47 = some b_18 ∧ sm_iA M b_18 ∧ sm_in_ M b_18 (x2 - 4) ∧ Q (some (.inl (sm_I M b_18 (x2 - 4).toNatClampNeg))) M) ∧ (¬ (¬ (sm_I M b_13 (x3).toNatClampNeg) = (x2 - 4)) → ∃ b_22, sm_R M a0 45 = some b_22 ∧ sm_iA M b_22 ∧ sm_in_ M b_22 x3 ∧ Q (some (.inl (sm_I M b_22 (x3).toNatClampNeg))) M))))) ∧ (¬ ((x2 - 4) < (sm_I M a0 46)) → Q (some (.inl (-1))) M))) ∧ (¬ (¬ x2 = 2) → sm_K M a0 = 39 ∧ Q (some (.inl (sm_I M a0 46))) M))) :
    sm_Run (d + 1) 207 74 [some (.inr (some a0)), some (.inl x1), some (.inl x2), some (.inl x3)] [] M Q := by
  refine ru_go (t := (75, [some (.inr (some a0)), some (.inl x1), some (.inl x2), some (.inl x3)], [.inl x2], M)) sm_a207_74 rfl rfl rfl ?_
  refine ru_go (t := (76, [some (.inr (some a0)), some (.inl x1), some (.inl x2), some (.inl x3)], [.inl 2, .inl x2], M)) sm_a207_75 rfl rfl (st_iconst (by decide)) ?_
  refine ru_icmp (pc := 76) (p := 84) (p2 := 79) sm_a207_76 (by decide) rfl ⟨fun hc_1 => ?_, fun hc_1 => ?_⟩
  · have h := h.1 hc_1
    refine ru_go (t := (85, [some (.inr (some a0)), some (.inl x1), some (.inl x2), some (.inl x3)], [.inl x2], M)) sm_a207_84 rfl rfl rfl ?_
    refine ru_go (t := (86, [some (.inr (some a0)), some (.inl x1), some (.inl x2), some (.inl x3)], [.inl 4, .inl x2], M)) sm_a207_85 rfl rfl (st_iconst (by decide)) ?_
    refine ru_go (t := (87, [some (.inr (some a0)), some (.inl x1), some (.inl x2), some (.inl x3)], [.inl (x2 - 4)], M)) sm_a207_86 rfl rfl rfl ?_
    refine ru_go (t := (88, [some (.inr (some a0)), some (.inl x1), some (.inl x2), some (.inl x3)], [.inr (some a0), .inl (x2 - 4)], M)) sm_a207_87 rfl rfl rfl ?_
    obtain ⟨h_2, h⟩ := h
    refine ru_go (t := (91, [some (.inr (some a0)), some (.inl x1), some (.inl x2), some (.inl x3)], [.inl (sm_I M a0 46), .inl (x2 - 4)], M)) sm_a207_88 rfl rfl (st_getI h_2 rfl) ?_
    refine ru_icmp (pc := 91) (p := 98) (p2 := 94) sm_a207_91 (by decide) rfl ⟨fun hc_3 => ?_, fun hc_3 => ?_⟩
    · have h := h.1 hc_3
      refine ru_go (t := (99, [some (.inr (some a0)), some (.inl x1), some (.inl x2), some (.inl x3)], [.inr (some a0)], M)) sm_a207_98 rfl rfl rfl ?_
      refine ru_go (t := (102, [some (.inr (some a0)), some (.inl x1), some (.inl x2), some (.inl x3)], [.inr (sm_R M a0 43)], M)) sm_a207_99 rfl rfl (st_getR h_2 rfl rfl) ?_
      refine ru_go (t := (103, [some (.inr (some a0)), some (.inl x1), some (.inl x2), some (.inl x3)], [.inl x3, .inr (sm_R M a0 43)], M)) sm_a207_102 rfl rfl rfl ?_
      obtain ⟨b_4, hb_5, h⟩ := h
      rw [hb_5]
      obtain ⟨h_6, h⟩ := h
      obtain ⟨h_7, h⟩ := h
      refine ru_go (t := (104, [some (.inr (some a0)), some (.inl x1), some (.inl x2), some (.inl x3)], [.inl (sm_I M b_4 (x3).toNatClampNeg)], M)) sm_a207_103 rfl rfl (st_iald h_6 h_7) ?_
      refine ru_go (t := (105, [some (.inr (some a0)), some (.inl x1), some (.inl x2), some (.inl x3)], [.inl 2, .inl (sm_I M b_4 (x3).toNatClampNeg)], M)) sm_a207_104 rfl rfl (st_iconst (by decide)) ?_
      refine ru_icmp (pc := 105) (p := 129) (p2 := 108) sm_a207_105 (by decide) rfl ⟨fun hc_8 => ?_, fun hc_8 => ?_⟩
      · have h := h.1 hc_8
        refine ru_go (t := (130, [some (.inr (some a0)), some (.inl x1), some (.inl x2), some (.inl x3)], [.inr (some a0)], M)) sm_a207_129 rfl rfl rfl ?_
        refine ru_go (t := (133, [some (.inr (some a0)), some (.inl x1), some (.inl x2), some (.inl x3)], [.inr (sm_R M a0 47)], M)) sm_a207_130 rfl rfl (st_getR h_2 rfl rfl) ?_
        refine ru_go (t := (134, [some (.inr (some a0)), some (.inl x1), some (.inl x2), some (.inl x3)], [.inl x2, .inr (sm_R M a0 47)], M)) sm_a207_133 rfl rfl rfl ?_
        refine ru_go (t := (135, [some (.inr (some a0)), some (.inl x1), some (.inl x2), some (.inl x3)], [.inl 4, .inl x2, .inr (sm_R M a0 47)], M)) sm_a207_134 rfl rfl (st_iconst (by decide)) ?_
        refine ru_go (t := (136, [some (.inr (some a0)), some (.inl x1), some (.inl x2), some (.inl x3)], [.inl (x2 - 4), .inr (sm_R M a0 47)], M)) sm_a207_135 rfl rfl rfl ?_
        obtain ⟨b_9, hb_10, h⟩ := h
        rw [hb_10]
        obtain ⟨h_11, h⟩ := h
        obtain ⟨h_12, h⟩ := h
        refine ru_go (t := (137, [some (.inr (some a0)), some (.inl x1), some (.inl x2), some (.inl x3)], [.inl (sm_I M b_9 (x2 - 4).toNatClampNeg)], M)) sm_a207_136 rfl rfl (st_iald h_11 h_12) ?_
        exact ru_ret sm_a207_137 rfl h
      · have h := h.2 hc_8
        refine ru_go (t := (109, [some (.inr (some a0)), some (.inl x1), some (.inl x2), some (.inl x3)], [.inr (some a0)], M)) sm_a207_108 rfl rfl rfl ?_
        refine ru_go (t := (112, [some (.inr (some a0)), some (.inl x1), some (.inl x2), some (.inl x3)], [.inr (sm_R M a0 44)], M)) sm_a207_109 rfl rfl (st_getR h_2 rfl rfl) ?_
        refine ru_go (t := (113, [some (.inr (some a0)), some (.inl x1), some (.inl x2), some (.inl x3)], [.inl x3, .inr (sm_R M a0 44)], M)) sm_a207_112 rfl rfl rfl ?_
        obtain ⟨b_13, hb_14, h⟩ := h
        rw [hb_14]
        obtain ⟨h_15, h⟩ := h
        obtain ⟨h_16, h⟩ := h
        refine ru_go (t := (114, [some (.inr (some a0)), some (.inl x1), some (.inl x2), some (.inl x3)], [.inl (sm_I M b_13 (x3).toNatClampNeg)], M)) sm_a207_113 rfl rfl (st_iald h_15 h_16) ?_
        refine ru_go (t := (115, [some (.inr (some a0)), some (.inl x1), some (.inl x2), some (.inl x3)], [.inl x2, .inl (sm_I M b_13 (x3).toNatClampNeg)], M)) sm_a207_114 rfl rfl rfl ?_
        refine ru_go (t := (116, [some (.inr (some a0)), some (.inl x1), some (.inl x2), some (.inl x3)], [.inl 4, .inl x2, .inl (sm_I M b_13 (x3).toNatClampNeg)], M)) sm_a207_115 rfl rfl (st_iconst (by decide)) ?_
        refine ru_go (t := (117, [some (.inr (some a0)), some (.inl x1), some (.inl x2), some (.inl x3)], [.inl (x2 - 4), .inl (sm_I M b_13 (x3).toNatClampNeg)], M)) sm_a207_116 rfl rfl rfl ?_
        refine ru_icmp (pc := 117) (p := 129) (p2 := 120) sm_a207_117 (by decide) rfl ⟨fun hc_17 => ?_, fun hc_17 => ?_⟩
        · have h := h.1 hc_17
          refine ru_go (t := (130, [some (.inr (some a0)), some (.inl x1), some (.inl x2), some (.inl x3)], [.inr (some a0)], M)) sm_a207_129 rfl rfl rfl ?_
          refine ru_go (t := (133, [some (.inr (some a0)), some (.inl x1), some (.inl x2), some (.inl x3)], [.inr (sm_R M a0 47)], M)) sm_a207_130 rfl rfl (st_getR h_2 rfl rfl) ?_
          refine ru_go (t := (134, [some (.inr (some a0)), some (.inl x1), some (.inl x2), some (.inl x3)], [.inl x2, .inr (sm_R M a0 47)], M)) sm_a207_133 rfl rfl rfl ?_
          refine ru_go (t := (135, [some (.inr (some a0)), some (.inl x1), some (.inl x2), some (.inl x3)], [.inl 4, .inl x2, .inr (sm_R M a0 47)], M)) sm_a207_134 rfl rfl (st_iconst (by decide)) ?_
          refine ru_go (t := (136, [some (.inr (some a0)), some (.inl x1), some (.inl x2), some (.inl x3)], [.inl (x2 - 4), .inr (sm_R M a0 47)], M)) sm_a207_135 rfl rfl rfl ?_
          obtain ⟨b_18, hb_19, h⟩ := h
          rw [hb_19]
          obtain ⟨h_20, h⟩ := h
          obtain ⟨h_21, h⟩ := h
          refine ru_go (t := (137, [some (.inr (some a0)), some (.inl x1), some (.inl x2), some (.inl x3)], [.inl (sm_I M b_18 (x2 - 4).toNatClampNeg)], M)) sm_a207_136 rfl rfl (st_iald h_20 h_21) ?_
          exact ru_ret sm_a207_137 rfl h
        · have h := h.2 hc_17
          refine ru_go (t := (121, [some (.inr (some a0)), some (.inl x1), some (.inl x2), some (.inl x3)], [.inr (some a0)], M)) sm_a207_120 rfl rfl rfl ?_
          refine ru_go (t := (124, [some (.inr (some a0)), some (.inl x1), some (.inl x2), some (.inl x3)], [.inr (sm_R M a0 45)], M)) sm_a207_121 rfl rfl (st_getR h_2 rfl rfl) ?_
          refine ru_go (t := (125, [some (.inr (some a0)), some (.inl x1), some (.inl x2), some (.inl x3)], [.inl x3, .inr (sm_R M a0 45)], M)) sm_a207_124 rfl rfl rfl ?_
          obtain ⟨b_22, hb_23, h⟩ := h
          rw [hb_23]
          obtain ⟨h_24, h⟩ := h
          obtain ⟨h_25, h⟩ := h
          refine ru_go (t := (126, [some (.inr (some a0)), some (.inl x1), some (.inl x2), some (.inl x3)], [.inl (sm_I M b_22 (x3).toNatClampNeg)], M)) sm_a207_125 rfl rfl (st_iald h_24 h_25) ?_
          refine ru_go (t := (137, [some (.inr (some a0)), some (.inl x1), some (.inl x2), some (.inl x3)], [.inl (sm_I M b_22 (x3).toNatClampNeg)], M)) sm_a207_126 rfl rfl (st_goto (pc := 126) (by decide)) ?_
          exact ru_ret sm_a207_137 rfl h
    · have h := h.2 hc_3
      refine ru_go (t := (95, [some (.inr (some a0)), some (.inl x1), some (.inl x2), some (.inl x3)], [.inl (-1)], M)) sm_a207_94 rfl rfl (st_iconst (by decide)) ?_
      refine ru_go (t := (137, [some (.inr (some a0)), some (.inl x1), some (.inl x2), some (.inl x3)], [.inl (-1)], M)) sm_a207_95 rfl rfl (st_goto (pc := 95) (by decide)) ?_
      exact ru_ret sm_a207_137 rfl h
  · have h := h.2 hc_1
    refine ru_go (t := (80, [some (.inr (some a0)), some (.inl x1), some (.inl x2), some (.inl x3)], [.inr (some a0)], M)) sm_a207_79 rfl rfl rfl ?_
    obtain ⟨h_26, h⟩ := h
    refine ru_go (t := (83, [some (.inr (some a0)), some (.inl x1), some (.inl x2), some (.inl x3)], [.inl (sm_I M a0 46)], M)) sm_a207_80 rfl rfl (st_getI h_26 rfl) ?_
    exact ru_ret sm_a207_83 rfl h
