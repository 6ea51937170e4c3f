/-! WireBusModel.answers:(III)V -/
theorem sm_a160_0 : sm_at 160 0 = some (.aload_n 0, 1, (0, 0, 0, 0)) := by decide +kernel
theorem sm_a160_1 : sm_at 160 1 = some (.iload_n 1, 1, (0, 0, 0, 0)) := by decide +kernel
theorem sm_a160_2 : sm_at 160 2 = some (.putfield 269, 3, (12, 51, 0, 1234)) := by decide +kernel
theorem sm_a160_5 : sm_at 160 5 = some (.aload_n 0, 1, (0, 0, 0, 0)) := by decide +kernel
theorem sm_a160_6 : sm_at 160 6 = some (.iload_n 2, 1, (0, 0, 0, 0)) := by decide +kernel
theorem sm_a160_7 : sm_at 160 7 = some (.putfield 272, 3, (12, 54, 0, 1237)) := by decide +kernel
theorem sm_a160_10 : sm_at 160 10 = some (.aload_n 0, 1, (0, 0, 0, 0)) := by decide +kernel
theorem sm_a160_11 : sm_at 160 11 = some (.iload_n 3, 1, (0, 0, 0, 0)) := by decide +kernel
theorem sm_a160_12 : sm_at 160 12 = some (.putfield 275, 3, (12, 53, 0, 1236)) := by decide +kernel
theorem sm_a160_15 : sm_at 160 15 = some (.return_, 1, (0, 0, 0, 0)) := by decide +kernel
theorem bb_160_0 {d : Nat} {M : sm_M} {Q : Option sm_V → sm_M → Prop} {a0 : Nat} {x1 : Int32} {x2 : Int32} {x3 : Int32}
    (h : sm_K M a0 = 39 ∧ Q none (sm_putI (sm_putI (sm_putI M a0 51 x1) a0 54 x2) a0 53 x3)) :
    sm_Run d 160 0 [some (.inr (some a0)), some (.inl x1), some (.inl x2), some (.inl x3)] [] M Q := by
  refine ru_go (t := (1, [some (.inr (some a0)), some (.inl x1), some (.inl x2), some (.inl x3)], [.inr (some a0)], M)) sm_a160_0 rfl rfl rfl ?_
  refine ru_go (t := (2, [some (.inr (some a0)), some (.inl x1), some (.inl x2), some (.inl x3)], [.inl x1, .inr (some a0)], M)) sm_a160_1 rfl rfl rfl ?_
  obtain ⟨h_1, h⟩ := h
  refine ru_go (t := (5, [some (.inr (some a0)), some (.inl x1), some (.inl x2), some (.inl x3)], [], sm_putI M a0 51 x1)) sm_a160_2 rfl rfl (st_putI h_1 rfl) ?_
  refine ru_go (t := (6, [some (.inr (some a0)), some (.inl x1), some (.inl x2), some (.inl x3)], [.inr (some a0)], sm_putI M a0 51 x1)) sm_a160_5 rfl rfl rfl ?_
  refine ru_go (t := (7, [some (.inr (some a0)), some (.inl x1), some (.inl x2), some (.inl x3)], [.inl x2, .inr (some a0)], sm_putI M a0 51 x1)) sm_a160_6 rfl rfl rfl ?_
  refine ru_go (t := (10, [some (.inr (some a0)), some (.inl x1), some (.inl x2), some (.inl x3)], [], sm_putI (sm_putI M a0 51 x1) a0 54 x2)) sm_a160_7 rfl rfl (st_putI h_1 rfl) ?_
  refine ru_go (t := (11, [some (.inr (some a0)), some (.inl x1), some (.inl x2), some (.inl x3)], [.inr (some a0)], sm_putI (sm_putI M a0 51 x1) a0 54 x2)) sm_a160_10 rfl rfl rfl ?_
  refine ru_go (t := (12, [some (.inr (some a0)), some (.inl x1), some (.inl x2), some (.inl x3)], [.inl x3, .inr (some a0)], sm_putI (sm_putI M a0 51 x1) a0 54 x2)) sm_a160_11 rfl rfl rfl ?_
  refine ru_go (t := (15, [some (.inr (some a0)), some (.inl x1), some (.inl x2), some (.inl x3)], [], sm_putI (sm_putI (sm_putI M a0 51 x1) a0 54 x2) a0 53 x3)) sm_a160_12 rfl rfl (st_putI h_1 rfl) ?_
  exact ru_ret sm_a160_15 (sm_rvv rfl) h

/-! WireBusModel.comes:(I)V -/
theorem sm_a161_0 : sm_at 161 0 = some (.aload_n 0, 1, (0, 0, 0, 0)) := by decide +kernel
theorem sm_a161_1 : sm_at 161 1 = some (.getfield 113, 3, (12, 38, 0, 1221)) := by decide +kernel
theorem sm_a161_4 : sm_at 161 4 = some (.aload_n 0, 1, (0, 0, 0, 0)) := by decide +kernel
theorem sm_a161_5 : sm_at 161 5 = some (.getfield 266, 3, (12, 50, 0, 1233)) := by decide +kernel
theorem sm_a161_8 : sm_at 161 8 = some (.iaload, 1, (0, 0, 0, 0)) := by decide +kernel
theorem sm_a161_9 : sm_at 161 9 = some (.istore_n 2, 1, (0, 0, 0, 0)) := by decide +kernel
theorem sm_a161_10 : sm_at 161 10 = some (.aload_n 0, 1, (0, 0, 0, 0)) := by decide +kernel
theorem sm_a161_11 : sm_at 161 11 = some (.iconst (-1), 1, (0, 0, 0, 0)) := by decide +kernel
theorem sm_a161_12 : sm_at 161 12 = some (.putfield 269, 3, (12, 51, 0, 1234)) := by decide +kernel
theorem sm_a161_15 : sm_at 161 15 = some (.iconst 0, 1, (0, 0, 0, 0)) := by decide +kernel
theorem sm_a161_16 : sm_at 161 16 = some (.istore_n 3, 1, (0, 0, 0, 0)) := by decide +kernel
theorem sm_a161_17 : sm_at 161 17 = some (.iload_n 3, 1, (0, 0, 0, 0)) := by decide +kernel
theorem sm_a161_18 : sm_at 161 18 = some (.bipush 6, 2, (0, 0, 0, 0)) := by decide +kernel
theorem sm_a161_20 : sm_at 161 20 = some (.if_icmp .ge 263, 3, (0, 0, 0, 0)) := by decide +kernel
theorem sm_a161_23 : sm_at 161 23 = some (.iload_n 3, 1, (0, 0, 0, 0)) := by decide +kernel
theorem sm_a161_24 : sm_at 161 24 = some (.iload_n 1, 1, (0, 0, 0, 0)) := by decide +kernel
theorem sm_a161_25 : sm_at 161 25 = some (.if_icmp .eq 252, 3, (0, 0, 0, 0)) := by decide +kernel
theorem sm_a161_28 : sm_at 161 28 = some (.aload_n 0, 1, (0, 0, 0, 0)) := by decide +kernel
theorem sm_a161_29 : sm_at 161 29 = some (.getfield 16, 3, (12, 4, 0, 1187)) := by decide +kernel
theorem sm_a161_32 : sm_at 161 32 = some (.iload_n 3, 1, (0, 0, 0, 0)) := by decide +kernel
theorem sm_a161_33 : sm_at 161 33 = some (.iaload, 1, (0, 0, 0, 0)) := by decide +kernel
theorem sm_a161_34 : sm_at 161 34 = some (.ifCond .eq 243, 3, (0, 0, 0, 0)) := by decide +kernel
theorem sm_a161_37 : sm_at 161 37 = some (.aload_n 0, 1, (0, 0, 0, 0)) := by decide +kernel
theorem sm_a161_38 : sm_at 161 38 = some (.getfield 62, 3, (12, 19, 0, 1202)) := by decide +kernel
theorem sm_a161_41 : sm_at 161 41 = some (.iload_n 3, 1, (0, 0, 0, 0)) := by decide +kernel
theorem sm_a161_42 : sm_at 161 42 = some (.iaload, 1, (0, 0, 0, 0)) := by decide +kernel
theorem sm_a161_43 : sm_at 161 43 = some (.istore 4, 2, (0, 0, 0, 0)) := by decide +kernel
theorem sm_a161_45 : sm_at 161 45 = some (.aload_n 0, 1, (0, 0, 0, 0)) := by decide +kernel
theorem sm_a161_46 : sm_at 161 46 = some (.getfield 65, 3, (12, 20, 0, 1203)) := by decide +kernel
theorem sm_a161_49 : sm_at 161 49 = some (.iload_n 3, 1, (0, 0, 0, 0)) := by decide +kernel
theorem sm_a161_50 : sm_at 161 50 = some (.iaload, 1, (0, 0, 0, 0)) := by decide +kernel
theorem sm_a161_51 : sm_at 161 51 = some (.istore 5, 2, (0, 0, 0, 0)) := by decide +kernel
theorem sm_a161_53 : sm_at 161 53 = some (.aload_n 0, 1, (0, 0, 0, 0)) := by decide +kernel
theorem sm_a161_54 : sm_at 161 54 = some (.getfield 62, 3, (12, 19, 0, 1202)) := by decide +kernel
theorem sm_a161_57 : sm_at 161 57 = some (.iload_n 3, 1, (0, 0, 0, 0)) := by decide +kernel
theorem sm_a161_58 : sm_at 161 58 = some (.iconst 0, 1, (0, 0, 0, 0)) := by decide +kernel
theorem sm_a161_59 : sm_at 161 59 = some (.iastore, 1, (1, 0, 0, 0)) := by decide +kernel
theorem sm_a161_60 : sm_at 161 60 = some (.iload_n 2, 1, (0, 0, 0, 0)) := by decide +kernel
theorem sm_a161_61 : sm_at 161 61 = some (.iconst 1, 1, (0, 0, 0, 0)) := by decide +kernel
theorem sm_a161_62 : sm_at 161 62 = some (.if_icmp .eq 15, 3, (0, 0, 0, 0)) := by decide +kernel
theorem sm_a161_65 : sm_at 161 65 = some (.iload_n 2, 1, (0, 0, 0, 0)) := by decide +kernel
theorem sm_a161_66 : sm_at 161 66 = some (.bipush 9, 2, (0, 0, 0, 0)) := by decide +kernel
theorem sm_a161_68 : sm_at 161 68 = some (.if_icmp .eq 9, 3, (0, 0, 0, 0)) := by decide +kernel
theorem sm_a161_71 : sm_at 161 71 = some (.iload_n 2, 1, (0, 0, 0, 0)) := by decide +kernel
theorem sm_a161_72 : sm_at 161 72 = some (.bipush 13, 2, (0, 0, 0, 0)) := by decide +kernel
theorem sm_a161_74 : sm_at 161 74 = some (.if_icmp .ne 7, 3, (0, 0, 0, 0)) := by decide +kernel
theorem sm_a161_77 : sm_at 161 77 = some (.iconst 1, 1, (0, 0, 0, 0)) := by decide +kernel
theorem sm_a161_78 : sm_at 161 78 = some (.goto 4, 3, (0, 0, 0, 0)) := by decide +kernel
theorem sm_a161_81 : sm_at 161 81 = some (.iconst 0, 1, (0, 0, 0, 0)) := by decide +kernel
theorem sm_a161_82 : sm_at 161 82 = some (.istore 6, 2, (0, 0, 0, 0)) := by decide +kernel
theorem sm_a161_84 : sm_at 161 84 = some (.iload 6, 2, (0, 0, 0, 0)) := by decide +kernel
theorem sm_a161_86 : sm_at 161 86 = some (.ifCond .eq 79, 3, (0, 0, 0, 0)) := by decide +kernel
theorem sm_a161_89 : sm_at 161 89 = some (.aload_n 0, 1, (0, 0, 0, 0)) := by decide +kernel
theorem sm_a161_90 : sm_at 161 90 = some (.getfield 116, 3, (12, 39, 0, 1222)) := by decide +kernel
theorem sm_a161_93 : sm_at 161 93 = some (.aload_n 0, 1, (0, 0, 0, 0)) := by decide +kernel
theorem sm_a161_94 : sm_at 161 94 = some (.getfield 266, 3, (12, 50, 0, 1233)) := by decide +kernel
theorem sm_a161_97 : sm_at 161 97 = some (.iaload, 1, (0, 0, 0, 0)) := by decide +kernel
theorem sm_a161_98 : sm_at 161 98 = some (.aload_n 0, 1, (0, 0, 0, 0)) := by decide +kernel
theorem sm_a161_99 : sm_at 161 99 = some (.getfield 19, 3, (12, 5, 0, 1188)) := by decide +kernel
theorem sm_a161_102 : sm_at 161 102 = some (.iload_n 3, 1, (0, 0, 0, 0)) := by decide +kernel
theorem sm_a161_103 : sm_at 161 103 = some (.iaload, 1, (0, 0, 0, 0)) := by decide +kernel
theorem sm_a161_104 : sm_at 161 104 = some (.if_icmp .ne 61, 3, (0, 0, 0, 0)) := by decide +kernel
theorem sm_a161_107 : sm_at 161 107 = some (.iload_n 2, 1, (0, 0, 0, 0)) := by decide +kernel
theorem sm_a161_108 : sm_at 161 108 = some (.bipush 9, 2, (0, 0, 0, 0)) := by decide +kernel
theorem sm_a161_110 : sm_at 161 110 = some (.if_icmp .ne 20, 3, (0, 0, 0, 0)) := by decide +kernel
theorem sm_a161_113 : sm_at 161 113 = some (.aload_n 0, 1, (0, 0, 0, 0)) := by decide +kernel
theorem sm_a161_114 : sm_at 161 114 = some (.iload_n 3, 1, (0, 0, 0, 0)) := by decide +kernel
theorem sm_a161_115 : sm_at 161 115 = some (.aload_n 0, 1, (0, 0, 0, 0)) := by decide +kernel
theorem sm_a161_116 : sm_at 161 116 = some (.getfield 119, 3, (12, 40, 0, 1223)) := by decide +kernel
theorem sm_a161_119 : sm_at 161 119 = some (.aload_n 0, 1, (0, 0, 0, 0)) := by decide +kernel
theorem sm_a161_120 : sm_at 161 120 = some (.getfield 266, 3, (12, 50, 0, 1233)) := by decide +kernel
theorem sm_a161_123 : sm_at 161 123 = some (.iaload, 1, (0, 0, 0, 0)) := by decide +kernel
theorem sm_a161_124 : sm_at 161 124 = some (.invokevirtual 278, 3, (10, 162, 12, 1548)) := by decide +kernel
theorem sm_a161_127 : sm_at 161 127 = some (.goto 150, 3, (0, 0, 0, 0)) := by decide +kernel
theorem sm_a161_130 : sm_at 161 130 = some (.aload_n 0, 1, (0, 0, 0, 0)) := by decide +kernel
theorem sm_a161_131 : sm_at 161 131 = some (.getfield 62, 3, (12, 19, 0, 1202)) := by decide +kernel
theorem sm_a161_134 : sm_at 161 134 = some (.iload_n 3, 1, (0, 0, 0, 0)) := by decide +kernel
theorem sm_a161_135 : sm_at 161 135 = some (.iload_n 2, 1, (0, 0, 0, 0)) := by decide +kernel
theorem sm_a161_136 : sm_at 161 136 = some (.bipush 13, 2, (0, 0, 0, 0)) := by decide +kernel
theorem sm_a161_138 : sm_at 161 138 = some (.if_icmp .ne 7, 3, (0, 0, 0, 0)) := by decide +kernel
theorem sm_a161_141 : sm_at 161 141 = some (.iconst 1, 1, (0, 0, 0, 0)) := by decide +kernel
theorem sm_a161_142 : sm_at 161 142 = some (.goto 4, 3, (0, 0, 0, 0)) := by decide +kernel
theorem sm_a161_145 : sm_at 161 145 = some (.iconst 2, 1, (0, 0, 0, 0)) := by decide +kernel
theorem sm_a161_146 : sm_at 161 146 = some (.iastore, 1, (1, 0, 0, 0)) := by decide +kernel
theorem sm_a161_147 : sm_at 161 147 = some (.aload_n 0, 1, (0, 0, 0, 0)) := by decide +kernel
theorem sm_a161_148 : sm_at 161 148 = some (.getfield 65, 3, (12, 20, 0, 1203)) := by decide +kernel
theorem sm_a161_151 : sm_at 161 151 = some (.iload_n 3, 1, (0, 0, 0, 0)) := by decide +kernel
theorem sm_a161_152 : sm_at 161 152 = some (.aload_n 0, 1, (0, 0, 0, 0)) := by decide +kernel
theorem sm_a161_153 : sm_at 161 153 = some (.getfield 119, 3, (12, 40, 0, 1223)) := by decide +kernel
theorem sm_a161_156 : sm_at 161 156 = some (.aload_n 0, 1, (0, 0, 0, 0)) := by decide +kernel
theorem sm_a161_157 : sm_at 161 157 = some (.getfield 266, 3, (12, 50, 0, 1233)) := by decide +kernel
theorem sm_a161_160 : sm_at 161 160 = some (.iaload, 1, (0, 0, 0, 0)) := by decide +kernel
theorem sm_a161_161 : sm_at 161 161 = some (.iastore, 1, (1, 0, 0, 0)) := by decide +kernel
theorem sm_a161_162 : sm_at 161 162 = some (.goto 115, 3, (0, 0, 0, 0)) := by decide +kernel
theorem sm_a161_165 : sm_at 161 165 = some (.iload_n 2, 1, (0, 0, 0, 0)) := by decide +kernel
theorem sm_a161_166 : sm_at 161 166 = some (.iconst 3, 1, (0, 0, 0, 0)) := by decide +kernel
theorem sm_a161_167 : sm_at 161 167 = some (.if_icmp .eq 9, 3, (0, 0, 0, 0)) := by decide +kernel
theorem sm_a161_170 : sm_at 161 170 = some (.iload_n 2, 1, (0, 0, 0, 0)) := by decide +kernel
theorem sm_a161_171 : sm_at 161 171 = some (.bipush 11, 2, (0, 0, 0, 0)) := by decide +kernel
theorem sm_a161_173 : sm_at 161 173 = some (.if_icmp .ne 48, 3, (0, 0, 0, 0)) := by decide +kernel
theorem sm_a161_176 : sm_at 161 176 = some (.iload 4, 2, (0, 0, 0, 0)) := by decide +kernel
theorem sm_a161_178 : sm_at 161 178 = some (.iconst 1, 1, (0, 0, 0, 0)) := by decide +kernel
theorem sm_a161_179 : sm_at 161 179 = some (.if_icmp .ne 42, 3, (0, 0, 0, 0)) := by decide +kernel
theorem sm_a161_182 : sm_at 161 182 = some (.iload_n 2, 1, (0, 0, 0, 0)) := by decide +kernel
theorem sm_a161_183 : sm_at 161 183 = some (.iconst 3, 1, (0, 0, 0, 0)) := by decide +kernel
theorem sm_a161_184 : sm_at 161 184 = some (.if_icmp .ne 93, 3, (0, 0, 0, 0)) := by decide +kernel
theorem sm_a161_187 : sm_at 161 187 = some (.aload_n 0, 1, (0, 0, 0, 0)) := by decide +kernel
theorem sm_a161_188 : sm_at 161 188 = some (.getfield 122, 3, (12, 41, 0, 1224)) := by decide +kernel
theorem sm_a161_191 : sm_at 161 191 = some (.aload_n 0, 1, (0, 0, 0, 0)) := by decide +kernel
theorem sm_a161_192 : sm_at 161 192 = some (.getfield 266, 3, (12, 50, 0, 1233)) := by decide +kernel
theorem sm_a161_195 : sm_at 161 195 = some (.iaload, 1, (0, 0, 0, 0)) := by decide +kernel
theorem sm_a161_196 : sm_at 161 196 = some (.bipush 8, 2, (0, 0, 0, 0)) := by decide +kernel
theorem sm_a161_198 : sm_at 161 198 = some (.if_icmp .ne 79, 3, (0, 0, 0, 0)) := by decide +kernel
theorem sm_a161_201 : sm_at 161 201 = some (.iload 5, 2, (0, 0, 0, 0)) := by decide +kernel
theorem sm_a161_203 : sm_at 161 203 = some (.ifCond .ne 74, 3, (0, 0, 0, 0)) := by decide +kernel
theorem sm_a161_206 : sm_at 161 206 = some (.aload_n 0, 1, (0, 0, 0, 0)) := by decide +kernel
theorem sm_a161_207 : sm_at 161 207 = some (.iload_n 3, 1, (0, 0, 0, 0)) := by decide +kernel
theorem sm_a161_208 : sm_at 161 208 = some (.invokevirtual 281, 3, (10, 170, 12, 1560)) := by decide +kernel
theorem sm_a161_211 : sm_at 161 211 = some (.aload_n 0, 1, (0, 0, 0, 0)) := by decide +kernel
theorem sm_a161_212 : sm_at 161 212 = some (.iload_n 3, 1, (0, 0, 0, 0)) := by decide +kernel
theorem sm_a161_213 : sm_at 161 213 = some (.iconst 2, 1, (0, 0, 0, 0)) := by decide +kernel
theorem sm_a161_214 : sm_at 161 214 = some (.iconst 0, 1, (0, 0, 0, 0)) := by decide +kernel
theorem sm_a161_215 : sm_at 161 215 = some (.invokevirtual 284, 3, (10, 160, 12, 1556)) := by decide +kernel
theorem sm_a161_218 : sm_at 161 218 = some (.goto 59, 3, (0, 0, 0, 0)) := by decide +kernel
theorem sm_a161_221 : sm_at 161 221 = some (.iload_n 2, 1, (0, 0, 0, 0)) := by decide +kernel
theorem sm_a161_222 : sm_at 161 222 = some (.iconst 3, 1, (0, 0, 0, 0)) := by decide +kernel
theorem sm_a161_223 : sm_at 161 223 = some (.if_icmp .eq 9, 3, (0, 0, 0, 0)) := by decide +kernel
theorem sm_a161_226 : sm_at 161 226 = some (.iload_n 2, 1, (0, 0, 0, 0)) := by decide +kernel
theorem sm_a161_227 : sm_at 161 227 = some (.bipush 11, 2, (0, 0, 0, 0)) := by decide +kernel
theorem sm_a161_229 : sm_at 161 229 = some (.if_icmp .ne 30, 3, (0, 0, 0, 0)) := by decide +kernel
theorem sm_a161_232 : sm_at 161 232 = some (.iload 4, 2, (0, 0, 0, 0)) := by decide +kernel
theorem sm_a161_234 : sm_at 161 234 = some (.iconst 2, 1, (0, 0, 0, 0)) := by decide +kernel
theorem sm_a161_235 : sm_at 161 235 = some (.if_icmp .ne 24, 3, (0, 0, 0, 0)) := by decide +kernel
theorem sm_a161_238 : sm_at 161 238 = some (.aload_n 0, 1, (0, 0, 0, 0)) := by decide +kernel
theorem sm_a161_239 : sm_at 161 239 = some (.iload_n 3, 1, (0, 0, 0, 0)) := by decide +kernel
theorem sm_a161_240 : sm_at 161 240 = some (.iload 5, 2, (0, 0, 0, 0)) := by decide +kernel
theorem sm_a161_242 : sm_at 161 242 = some (.iload_n 2, 1, (0, 0, 0, 0)) := by decide +kernel
theorem sm_a161_243 : sm_at 161 243 = some (.bipush 11, 2, (0, 0, 0, 0)) := by decide +kernel
theorem sm_a161_245 : sm_at 161 245 = some (.if_icmp .ne 7, 3, (0, 0, 0, 0)) := by decide +kernel
theorem sm_a161_248 : sm_at 161 248 = some (.iconst 1, 1, (0, 0, 0, 0)) := by decide +kernel
theorem sm_a161_249 : sm_at 161 249 = some (.goto 4, 3, (0, 0, 0, 0)) := by decide +kernel
theorem sm_a161_252 : sm_at 161 252 = some (.iconst 0, 1, (0, 0, 0, 0)) := by decide +kernel
theorem sm_a161_253 : sm_at 161 253 = some (.invokevirtual 287, 3, (10, 165, 12, 1592)) := by decide +kernel
theorem sm_a161_256 : sm_at 161 256 = some (.goto 21, 3, (0, 0, 0, 0)) := by decide +kernel
theorem sm_a161_259 : sm_at 161 259 = some (.iload_n 2, 1, (0, 0, 0, 0)) := by decide +kernel
theorem sm_a161_260 : sm_at 161 260 = some (.iconst 2, 1, (0, 0, 0, 0)) := by decide +kernel
theorem sm_a161_261 : sm_at 161 261 = some (.if_icmp .ne 16, 3, (0, 0, 0, 0)) := by decide +kernel
theorem sm_a161_264 : sm_at 161 264 = some (.iload 4, 2, (0, 0, 0, 0)) := by decide +kernel
theorem sm_a161_266 : sm_at 161 266 = some (.iconst 3, 1, (0, 0, 0, 0)) := by decide +kernel
theorem sm_a161_267 : sm_at 161 267 = some (.if_icmp .ne 10, 3, (0, 0, 0, 0)) := by decide +kernel
theorem sm_a161_270 : sm_at 161 270 = some (.aload_n 0, 1, (0, 0, 0, 0)) := by decide +kernel
theorem sm_a161_271 : sm_at 161 271 = some (.iload_n 3, 1, (0, 0, 0, 0)) := by decide +kernel
theorem sm_a161_272 : sm_at 161 272 = some (.iload 5, 2, (0, 0, 0, 0)) := by decide +kernel
theorem sm_a161_274 : sm_at 161 274 = some (.invokevirtual 290, 3, (10, 164, 12, 1604)) := by decide +kernel
theorem sm_a161_277 : sm_at 161 277 = some (.iinc 3 1, 3, (0, 0, 0, 0)) := by decide +kernel
theorem sm_a161_280 : sm_at 161 280 = some (.goto (-263), 3, (0, 0, 0, 0)) := by decide +kernel
theorem sm_a161_283 : sm_at 161 283 = some (.return_, 1, (0, 0, 0, 0)) := by decide +kernel
theorem bb_161_0 {d : Nat} {M : sm_M} {Q : Option sm_V → sm_M → Prop} {a0 : Nat} {x1 : Int32} {z2 : Option sm_V} {z3 : Option sm_V} {z4 : Option sm_V} {z5 : Option sm_V} {z6 : Option sm_V}
    (h : sm_K M a0 = 39 ∧ ∃ b_2, sm_R M a0 38 = some b_2 ∧ sm_iA M b_2 ∧ sm_in_ M b_2 (sm_I M a0 50) ∧ sm_Run (d + 1) 161 17 [some (.inr (some a0)), some (.inl x1), some (.inl (sm_I M b_2 (sm_I M a0 50).toNatClampNeg)), some (.inl 0), z4, z5, z6] [] (sm_putI M a0 51 (-1)) Q) :
    sm_Run (d + 1) 161 0 [some (.inr (some a0)), some (.inl x1), z2, z3, z4, z5, z6] [] M Q := by
  refine ru_go (t := (1, [some (.inr (some a0)), some (.inl x1), z2, z3, z4, z5, z6], [.inr (some a0)], M)) sm_a161_0 rfl rfl rfl ?_
  obtain ⟨h_1, h⟩ := h
  refine ru_go (t := (4, [some (.inr (some a0)), some (.inl x1), z2, z3, z4, z5, z6], [.inr (sm_R M a0 38)], M)) sm_a161_1 rfl rfl (st_getR h_1 rfl rfl) ?_
  refine ru_go (t := (5, [some (.inr (some a0)), some (.inl x1), z2, z3, z4, z5, z6], [.inr (some a0), .inr (sm_R M a0 38)], M)) sm_a161_4 rfl rfl rfl ?_
  refine ru_go (t := (8, [some (.inr (some a0)), some (.inl x1), z2, z3, z4, z5, z6], [.inl (sm_I M a0 50), .inr (sm_R M a0 38)], M)) sm_a161_5 rfl rfl (st_getI h_1 rfl) ?_
  obtain ⟨b_2, hb_3, h⟩ := h
  rw [hb_3]
  obtain ⟨h_4, h⟩ := h
  obtain ⟨h_5, h⟩ := h
  refine ru_go (t := (9, [some (.inr (some a0)), some (.inl x1), z2, z3, z4, z5, z6], [.inl (sm_I M b_2 (sm_I M a0 50).toNatClampNeg)], M)) sm_a161_8 rfl rfl (st_iald h_4 h_5) ?_
  refine ru_go (t := (10, [some (.inr (some a0)), some (.inl x1), some (.inl (sm_I M b_2 (sm_I M a0 50).toNatClampNeg)), z3, z4, z5, z6], [], M)) sm_a161_9 rfl rfl rfl ?_
  refine ru_go (t := (11, [some (.inr (some a0)), some (.inl x1), some (.inl (sm_I M b_2 (sm_I M a0 50).toNatClampNeg)), z3, z4, z5, z6], [.inr (some a0)], M)) sm_a161_10 rfl rfl rfl ?_
  refine ru_go (t := (12, [some (.inr (some a0)), some (.inl x1), some (.inl (sm_I M b_2 (sm_I M a0 50).toNatClampNeg)), z3, z4, z5, z6], [.inl (-1), .inr (some a0)], M)) sm_a161_11 rfl rfl (st_iconst (by decide)) ?_
  refine ru_go (t := (15, [some (.inr (some a0)), some (.inl x1), some (.inl (sm_I M b_2 (sm_I M a0 50).toNatClampNeg)), z3, z4, z5, z6], [], sm_putI M a0 51 (-1))) sm_a161_12 rfl rfl (st_putI h_1 rfl) ?_
  refine ru_go (t := (16, [some (.inr (some a0)), some (.inl x1), some (.inl (sm_I M b_2 (sm_I M a0 50).toNatClampNeg)), z3, z4, z5, z6], [.inl 0], sm_putI M a0 51 (-1))) sm_a161_15 rfl rfl (st_iconst (by decide)) ?_
  refine ru_go (t := (17, [some (.inr (some a0)), some (.inl x1), some (.inl (sm_I M b_2 (sm_I M a0 50).toNatClampNeg)), some (.inl 0), z4, z5, z6], [], sm_putI M a0 51 (-1))) sm_a161_16 rfl rfl rfl ?_
  exact h
theorem bb_161_17 {d : Nat} {M : sm_M} {Q : Option sm_V → sm_M → Prop} {a0 : Nat} {x1 : Int32} {x2 : Int32} {x3 : Int32} {z4 : Option sm_V} {z5 : Option sm_V} {z6 : Option sm_V}
    (h : ((6 ≤ x3 → Q none M) ∧ (¬ (6 ≤ x3) → ((x3 = x1 → sm_Run (d + 1) 161 17 [some (.inr (some a0)), some (.inl x1), some (.inl x2), some (.inl (x3 + 1)), z4, z5, z6] [] M Q) ∧ (¬ (x3 = x1) → sm_K M a0 = 39 ∧ ∃ b_4, sm_R M a0 4 = some b_4 ∧ sm_iA M b_4 ∧ sm_in_ M b_4 x3 ∧ (((sm_I M b_4 (x3).toNatClampNeg) = 0 → sm_Run (d + 1) 161 17 [some (.inr (some a0)), some (.inl x1), some (.inl x2), some (.inl (x3 + 1)), z4, z5, z6] [] M Q) ∧ (¬ ((sm_I M b_4 (x3).toNatClampNeg) = 0) → ∃ b_9, sm_R M a0 19 = some b_9 ∧ sm_iA M b_9 ∧ sm_in_ M b_9 x3 ∧ ∃ b_13, sm_R M a0 20 = some b_13 ∧ sm_iA M b_13 ∧ sm_in_ M b_13 x3 ∧ ∃ b_17, sm_R M a0 19 = some b_17 ∧ sm_wA 1 M b_17 ∧ sm_in_ M b_17 x3 ∧ ((x2 = 1 → sm_Run (d + 1) 161 77 [some (.inr (some a0)), some (.inl x1), some (.inl x2), some (.inl x3), some (.inl (sm_I M b_9 (x3).toNatClampNeg)), some (.inl (sm_I M b_13 (x3).toNatClampNeg)), z6] [] (sm_putI M b_17 (x3).toNatClampNeg 0) Q) ∧ (¬ (x2 = 1) → ((x2 = 9 → sm_Run (d + 1) 161 77 [some (.inr (some a0)), some (.inl x1), some (.inl x2), some (.inl x3), some (.inl (sm_I M b_9 (x3).toNatClampNeg)), some (.inl (sm_I M b_13 (x3).toNatClampNeg)), z6] [] (sm_putI M b_17 (x3).toNatClampNeg 0) Q) ∧ (¬ (x2 = 9) → ((¬ x2 = 13 → sm_Run (d + 1) 161 165 [some (.inr (some a0)), some (.inl x1), some (.inl x2), some (.inl x3), some (.inl (sm_I M b_9 (x3).toNatClampNeg)), some (.inl (sm_I M b_13 (x3).toNatClampNeg)), some (.inl 0)] [] (sm_putI M b_17 (x3).toNatClampNeg 0) Q) ∧ (¬ (¬ x2 = 13) → sm_Run (d + 1) 161 77 [some (.inr (some a0)), some (.inl x1), some (.inl x2), some (.inl x3), some (.inl (sm_I M b_9 (x3).toNatClampNeg)), some (.inl (sm_I M b_13 (x3).toNatClampNeg)), z6] [] (sm_putI M b_17 (x3).toNatClampNeg 0) Q))))))))))))) :
    sm_Run (d + 1) 161 17 [some (.inr (some a0)), some (.inl x1), some (.inl x2), some (.inl x3), z4, z5, z6] [] M Q := by
  refine ru_go (t := (18, [some (.inr (some a0)), some (.inl x1), some (.inl x2), some (.inl x3), z4, z5, z6], [.inl x3], M)) sm_a161_17 rfl rfl rfl ?_
  refine ru_go (t := (20, [some (.inr (some a0)), some (.inl x1), some (.inl x2), some (.inl x3), z4, z5, z6], [.inl 6, .inl x3], M)) sm_a161_18 rfl rfl (st_bipush (by decide)) ?_
  refine ru_icmp (pc := 20) (p := 283) (p2 := 23) sm_a161_20 (by decide) rfl ⟨fun hc_1 => ?_, fun hc_1 => ?_⟩
  · have h := h.1 hc_1
    exact ru_ret sm_a161_283 (sm_rvv rfl) h
  · have h := h.2 hc_1
    refine ru_go (t := (24, [some (.inr (some a0)), some (.inl x1), some (.inl x2), some (.inl x3), z4, z5, z6], [.inl x3], M)) sm_a161_23 rfl rfl rfl ?_
    refine ru_go (t := (25, [some (.inr (some a0)), some (.inl x1), some (.inl x2), some (.inl x3), z4, z5, z6], [.inl x1, .inl x3], M)) sm_a161_24 rfl rfl rfl ?_
    refine ru_icmp (pc := 25) (p := 277) (p2 := 28) sm_a161_25 (by decide) rfl ⟨fun hc_2 => ?_, fun hc_2 => ?_⟩
    · have h := h.1 hc_2
      refine ru_go (t := (280, [some (.inr (some a0)), some (.inl x1), some (.inl x2), some (.inl (x3 + 1)), z4, z5, z6], [], M)) sm_a161_277 rfl rfl (st_iinc rfl (by decide)) ?_
      refine ru_go (t := (17, [some (.inr (some a0)), some (.inl x1), some (.inl x2), some (.inl (x3 + 1)), z4, z5, z6], [], M)) sm_a161_280 rfl rfl (st_goto (pc := 280) (by decide)) ?_
      exact h
    · have h := h.2 hc_2
      refine ru_go (t := (29, [some (.inr (some a0)), some (.inl x1), some (.inl x2), some (.inl x3), z4, z5, z6], [.inr (some a0)], M)) sm_a161_28 rfl rfl rfl ?_
      obtain ⟨h_3, h⟩ := h
      refine ru_go (t := (32, [some (.inr (some a0)), some (.inl x1), some (.inl x2), some (.inl x3), z4, z5, z6], [.inr (sm_R M a0 4)], M)) sm_a161_29 rfl rfl (st_getR h_3 rfl rfl) ?_
      refine ru_go (t := (33, [some (.inr (some a0)), some (.inl x1), some (.inl x2), some (.inl x3), z4, z5, z6], [.inl x3, .inr (sm_R M a0 4)], M)) sm_a161_32 rfl rfl rfl ?_
      obtain ⟨b_4, hb_5, h⟩ := h
      rw [hb_5]
      obtain ⟨h_6, h⟩ := h
      obtain ⟨h_7, h⟩ := h
      refine ru_go (t := (34, [some (.inr (some a0)), some (.inl x1), some (.inl x2), some (.inl x3), z4, z5, z6], [.inl (sm_I M b_4 (x3).toNatClampNeg)], M)) sm_a161_33 rfl rfl (st_iald h_6 h_7) ?_
      refine ru_if (pc := 34) (p := 277) (p2 := 37) sm_a161_34 (by decide) rfl ⟨fun hc_8 => ?_, fun hc_8 => ?_⟩
      · have h := h.1 hc_8
        refine ru_go (t := (280, [some (.inr (some a0)), some (.inl x1), some (.inl x2), some (.inl (x3 + 1)), z4, z5, z6], [], M)) sm_a161_277 rfl rfl (st_iinc rfl (by decide)) ?_
        refine ru_go (t := (17, [some (.inr (some a0)), some (.inl x1), some (.inl x2), some (.inl (x3 + 1)), z4, z5, z6], [], M)) sm_a161_280 rfl rfl (st_goto (pc := 280) (by decide)) ?_
        exact h
      · have h := h.2 hc_8
        refine ru_go (t := (38, [some (.inr (some a0)), some (.inl x1), some (.inl x2), some (.inl x3), z4, z5, z6], [.inr (some a0)], M)) sm_a161_37 rfl rfl rfl ?_
        refine ru_go (t := (41, [some (.inr (some a0)), some (.inl x1), some (.inl x2), some (.inl x3), z4, z5, z6], [.inr (sm_R M a0 19)], M)) sm_a161_38 rfl rfl (st_getR h_3 rfl rfl) ?_
        refine ru_go (t := (42, [some (.inr (some a0)), some (.inl x1), some (.inl x2), some (.inl x3), z4, z5, z6], [.inl x3, .inr (sm_R M a0 19)], M)) sm_a161_41 rfl rfl rfl ?_
        obtain ⟨b_9, hb_10, h⟩ := h
        rw [hb_10]
        obtain ⟨h_11, h⟩ := h
        obtain ⟨h_12, h⟩ := h
        refine ru_go (t := (43, [some (.inr (some a0)), some (.inl x1), some (.inl x2), some (.inl x3), z4, z5, z6], [.inl (sm_I M b_9 (x3).toNatClampNeg)], M)) sm_a161_42 rfl rfl (st_iald h_11 h_12) ?_
        refine ru_go (t := (45, [some (.inr (some a0)), some (.inl x1), some (.inl x2), some (.inl x3), some (.inl (sm_I M b_9 (x3).toNatClampNeg)), z5, z6], [], M)) sm_a161_43 rfl rfl rfl ?_
        refine ru_go (t := (46, [some (.inr (some a0)), some (.inl x1), some (.inl x2), some (.inl x3), some (.inl (sm_I M b_9 (x3).toNatClampNeg)), z5, z6], [.inr (some a0)], M)) sm_a161_45 rfl rfl rfl ?_
        refine ru_go (t := (49, [some (.inr (some a0)), some (.inl x1), some (.inl x2), some (.inl x3), some (.inl (sm_I M b_9 (x3).toNatClampNeg)), z5, z6], [.inr (sm_R M a0 20)], M)) sm_a161_46 rfl rfl (st_getR h_3 rfl rfl) ?_
        refine ru_go (t := (50, [some (.inr (some a0)), some (.inl x1), some (.inl x2), some (.inl x3), some (.inl (sm_I M b_9 (x3).toNatClampNeg)), z5, z6], [.inl x3, .inr (sm_R M a0 20)], M)) sm_a161_49 rfl rfl rfl ?_
        obtain ⟨b_13, hb_14, h⟩ := h
        rw [hb_14]
        obtain ⟨h_15, h⟩ := h
        obtain ⟨h_16, h⟩ := h
        refine ru_go (t := (51, [some (.inr (some a0)), some (.inl x1), some (.inl x2), some (.inl x3), some (.inl (sm_I M b_9 (x3).toNatClampNeg)), z5, z6], [.inl (sm_I M b_13 (x3).toNatClampNeg)], M)) sm_a161_50 rfl rfl (st_iald h_15 h_16) ?_
        refine ru_go (t := (53, [some (.inr (some a0)), some (.inl x1), some (.inl x2), some (.inl x3), some (.inl (sm_I M b_9 (x3).toNatClampNeg)), some (.inl (sm_I M b_13 (x3).toNatClampNeg)), z6], [], M)) sm_a161_51 rfl rfl rfl ?_
        refine ru_go (t := (54, [some (.inr (some a0)), some (.inl x1), some (.inl x2), some (.inl x3), some (.inl (sm_I M b_9 (x3).toNatClampNeg)), some (.inl (sm_I M b_13 (x3).toNatClampNeg)), z6], [.inr (some a0)], M)) sm_a161_53 rfl rfl rfl ?_
        refine ru_go (t := (57, [some (.inr (some a0)), some (.inl x1), some (.inl x2), some (.inl x3), some (.inl (sm_I M b_9 (x3).toNatClampNeg)), some (.inl (sm_I M b_13 (x3).toNatClampNeg)), z6], [.inr (sm_R M a0 19)], M)) sm_a161_54 rfl rfl (st_getR h_3 rfl rfl) ?_
        refine ru_go (t := (58, [some (.inr (some a0)), some (.inl x1), some (.inl x2), some (.inl x3), some (.inl (sm_I M b_9 (x3).toNatClampNeg)), some (.inl (sm_I M b_13 (x3).toNatClampNeg)), z6], [.inl x3, .inr (sm_R M a0 19)], M)) sm_a161_57 rfl rfl rfl ?_
        refine ru_go (t := (59, [some (.inr (some a0)), some (.inl x1), some (.inl x2), some (.inl x3), some (.inl (sm_I M b_9 (x3).toNatClampNeg)), some (.inl (sm_I M b_13 (x3).toNatClampNeg)), z6], [.inl 0, .inl x3, .inr (sm_R M a0 19)], M)) sm_a161_58 rfl rfl (st_iconst (by decide)) ?_
        obtain ⟨b_17, hb_18, h⟩ := h
        rw [hb_18]
        obtain ⟨h_19, h⟩ := h
        obtain ⟨h_20, h⟩ := h
        refine ru_go (t := (60, [some (.inr (some a0)), some (.inl x1), some (.inl x2), some (.inl x3), some (.inl (sm_I M b_9 (x3).toNatClampNeg)), some (.inl (sm_I M b_13 (x3).toNatClampNeg)), z6], [], sm_putI M b_17 (x3).toNatClampNeg 0)) sm_a161_59 rfl rfl (st_iast h_19 h_20) ?_
        refine ru_go (t := (61, [some (.inr (some a0)), some (.inl x1), some (.inl x2), some (.inl x3), some (.inl (sm_I M b_9 (x3).toNatClampNeg)), some (.inl (sm_I M b_13 (x3).toNatClampNeg)), z6], [.inl x2], sm_putI M b_17 (x3).toNatClampNeg 0)) sm_a161_60 rfl rfl rfl ?_
        refine ru_go (t := (62, [some (.inr (some a0)), some (.inl x1), some (.inl x2), some (.inl x3), some (.inl (sm_I M b_9 (x3).toNatClampNeg)), some (.inl (sm_I M b_13 (x3).toNatClampNeg)), z6], [.inl 1, .inl x2], sm_putI M b_17 (x3).toNatClampNeg 0)) sm_a161_61 rfl rfl (st_iconst (by decide)) ?_
        refine ru_icmp (pc := 62) (p := 77) (p2 := 65) sm_a161_62 (by decide) rfl ⟨fun hc_21 => ?_, fun hc_21 => ?_⟩
        · have h := h.1 hc_21
          exact h
        · have h := h.2 hc_21
          refine ru_go (t := (66, [some (.inr (some a0)), some (.inl x1), some (.inl x2), some (.inl x3), some (.inl (sm_I M b_9 (x3).toNatClampNeg)), some (.inl (sm_I M b_13 (x3).toNatClampNeg)), z6], [.inl x2], sm_putI M b_17 (x3).toNatClampNeg 0)) sm_a161_65 rfl rfl rfl ?_
          refine ru_go (t := (68, [some (.inr (some a0)), some (.inl x1), some (.inl x2), some (.inl x3), some (.inl (sm_I M b_9 (x3).toNatClampNeg)), some (.inl (sm_I M b_13 (x3).toNatClampNeg)), z6], [.inl 9, .inl x2], sm_putI M b_17 (x3).toNatClampNeg 0)) sm_a161_66 rfl rfl (st_bipush (by decide)) ?_
          refine ru_icmp (pc := 68) (p := 77) (p2 := 71) sm_a161_68 (by decide) rfl ⟨fun hc_22 => ?_, fun hc_22 => ?_⟩
          · have h := h.1 hc_22
            exact h
          · have h := h.2 hc_22
            refine ru_go (t := (72, [some (.inr (some a0)), some (.inl x1), some (.inl x2), some (.inl x3), some (.inl (sm_I M b_9 (x3).toNatClampNeg)), some (.inl (sm_I M b_13 (x3).toNatClampNeg)), z6], [.inl x2], sm_putI M b_17 (x3).toNatClampNeg 0)) sm_a161_71 rfl rfl rfl ?_
            refine ru_go (t := (74, [some (.inr (some a0)), some (.inl x1), some (.inl x2), some (.inl x3), some (.inl (sm_I M b_9 (x3).toNatClampNeg)), some (.inl (sm_I M b_13 (x3).toNatClampNeg)), z6], [.inl 13, .inl x2], sm_putI M b_17 (x3).toNatClampNeg 0)) sm_a161_72 rfl rfl (st_bipush (by decide)) ?_
            refine ru_icmp (pc := 74) (p := 81) (p2 := 77) sm_a161_74 (by decide) rfl ⟨fun hc_23 => ?_, fun hc_23 => ?_⟩
            · have h := h.1 hc_23
              refine ru_go (t := (82, [some (.inr (some a0)), some (.inl x1), some (.inl x2), some (.inl x3), some (.inl (sm_I M b_9 (x3).toNatClampNeg)), some (.inl (sm_I M b_13 (x3).toNatClampNeg)), z6], [.inl 0], sm_putI M b_17 (x3).toNatClampNeg 0)) sm_a161_81 rfl rfl (st_iconst (by decide)) ?_
              refine ru_go (t := (84, [some (.inr (some a0)), some (.inl x1), some (.inl x2), some (.inl x3), some (.inl (sm_I M b_9 (x3).toNatClampNeg)), some (.inl (sm_I M b_13 (x3).toNatClampNeg)), some (.inl 0)], [], sm_putI M b_17 (x3).toNatClampNeg 0)) sm_a161_82 rfl rfl rfl ?_
              refine ru_go (t := (86, [some (.inr (some a0)), some (.inl x1), some (.inl x2), some (.inl x3), some (.inl (sm_I M b_9 (x3).toNatClampNeg)), some (.inl (sm_I M b_13 (x3).toNatClampNeg)), some (.inl 0)], [.inl 0], sm_putI M b_17 (x3).toNatClampNeg 0)) sm_a161_84 rfl rfl rfl ?_
              refine ru_if (pc := 86) (p := 165) (p2 := 89) sm_a161_86 (by decide) rfl ⟨fun _ => ?_, fun hc => absurd (show sm_cP .eq 0 0 from (by show (0 : Int32) = 0; decide)) hc⟩
              exact h
            · have h := h.2 hc_23
              exact h
theorem bb_161_77 {d : Nat} {M : sm_M} {Q : Option sm_V → sm_M → Prop} {a0 : Nat} {x1 : Int32} {x2 : Int32} {x3 : Int32} {x4 : Int32} {x5 : Int32} {z6 : Option sm_V}
    (h : sm_K M a0 = 39 ∧ ∃ b_2, sm_R M a0 39 = some b_2 ∧ sm_iA M b_2 ∧ sm_in_ M b_2 (sm_I M a0 50) ∧ ∃ b_6, sm_R M a0 5 = some b_6 ∧ sm_iA M b_6 ∧ sm_in_ M b_6 x3 ∧ ((¬ (sm_I M b_2 (sm_I M a0 50).toNatClampNeg) = (sm_I M b_6 (x3).toNatClampNeg) → sm_Run (d + 1) 161 165 [some (.inr (some a0)), some (.inl x1), some (.inl x2), some (.inl x3), some (.inl x4), some (.inl x5), some (.inl 1)] [] M Q) ∧ (¬ (¬ (sm_I M b_2 (sm_I M a0 50).toNatClampNeg) = (sm_I M b_6 (x3).toNatClampNeg)) → ((¬ x2 = 9 → ((¬ x2 = 13 → ∃ b_13, sm_R M a0 19 = some b_13 ∧ sm_wA 1 M b_13 ∧ sm_in_ M b_13 x3 ∧ ∃ b_17, sm_R (sm_putI M b_13 (x3).toNatClampNeg 2) a0 40 = some b_17 ∧ sm_iA M b_17 ∧ sm_in_ M b_17 (sm_I (sm_putI M b_13 (x3).toNatClampNeg 2) a0 50) ∧ ∃ b_21, sm_R (sm_putI M b_13 (x3).toNatClampNeg 2) a0 20 = some b_21 ∧ sm_wA 1 M b_21 ∧ sm_in_ M b_21 x3 ∧ sm_Run (d + 1) 161 17 [some (.inr (some a0)), some (.inl x1), some (.inl x2), some (.inl (x3 + 1)), some (.inl x4), some (.inl x5), some (.inl 1)] [] (sm_putI (sm_putI M b_13 (x3).toNatClampNeg 2) b_21 (x3).toNatClampNeg (sm_I (sm_putI M b_13 (x3).toNatClampNeg 2) b_17 (sm_I (sm_putI M b_13 (x3).toNatClampNeg 2) a0 50).toNatClampNeg)) Q) ∧ (¬ (¬ x2 = 13) → ∃ b_25, sm_R M a0 19 = some b_25 ∧ sm_wA 1 M b_25 ∧ sm_in_ M b_25 x3 ∧ ∃ b_29, sm_R (sm_putI M b_25 (x3).toNatClampNeg 1) a0 40 = some b_29 ∧ sm_iA M b_29 ∧ sm_in_ M b_29 (sm_I (sm_putI M b_25 (x3).toNatClampNeg 1) a0 50) ∧ ∃ b_33, sm_R (sm_putI M b_25 (x3).toNatClampNeg 1) a0 20 = some b_33 ∧ sm_wA 1 M b_33 ∧ sm_in_ M b_33 x3 ∧ sm_Run (d + 1) 161 17 [some (.inr (some a0)), some (.inl x1), some (.inl x2), some (.inl (x3 + 1)), some (.inl x4), some (.inl x5), some (.inl 1)] [] (sm_putI (sm_putI M b_25 (x3).toNatClampNeg 1) b_33 (x3).toNatClampNeg (sm_I (sm_putI M b_25 (x3).toNatClampNeg 1) b_29 (sm_I (sm_putI M b_25 (x3).toNatClampNeg 1) a0 50).toNatClampNeg)) Q))) ∧ (¬ (¬ x2 = 9) → ∃ b_37, sm_R M a0 40 = some b_37 ∧ sm_iA M b_37 ∧ sm_in_ M b_37 (sm_I M a0 50) ∧ sm_Run d 162 0 (sm_ent 162 [.inr (some a0), .inl x3, .inl (sm_I M b_37 (sm_I M a0 50).toNatClampNeg)]) [] M (fun v M1 => sm_Run (d + 1) 161 127 [some (.inr (some a0)), some (.inl x1), some (.inl x2), some (.inl x3), some (.inl x4), some (.inl x5), some (.inl 1)] (v.toList ++ []) M1 Q)))))) :
    sm_Run (d + 1) 161 77 [some (.inr (some a0)), some (.inl x1), some (.inl x2), some (.inl x3), some (.inl x4), some (.inl x5), z6] [] M Q := by
  refine ru_go (t := (78, [some (.inr (some a0)), some (.inl x1), some (.inl x2), some (.inl x3), some (.inl x4), some (.inl x5), z6], [.inl 1], M)) sm_a161_77 rfl rfl (st_iconst (by decide)) ?_
  refine ru_go (t := (82, [some (.inr (some a0)), some (.inl x1), some (.inl x2), some (.inl x3), some (.inl x4), some (.inl x5), z6], [.inl 1], M)) sm_a161_78 rfl rfl (st_goto (pc := 78) (by decide)) ?_
  refine ru_go (t := (84, [some (.inr (some a0)), some (.inl x1), some (.inl x2), some (.inl x3), some (.inl x4), some (.inl x5), some (.inl 1)], [], M)) sm_a161_82 rfl rfl rfl ?_
  refine ru_go (t := (86, [some (.inr (some a0)), some (.inl x1), some (.inl x2), some (.inl x3), some (.inl x4), some (.inl x5), some (.inl 1)], [.inl 1], M)) sm_a161_84 rfl rfl rfl ?_
  refine ru_if (pc := 86) (p := 165) (p2 := 89) sm_a161_86 (by decide) rfl ⟨fun hc => absurd (show (1 : Int32) = 0 from hc) (by decide), fun _ => ?_⟩
  refine ru_go (t := (90, [some (.inr (some a0)), some (.inl x1), some (.inl x2), some (.inl x3), some (.inl x4), some (.inl x5), some (.inl 1)], [.inr (some a0)], M)) sm_a161_89 rfl rfl rfl ?_
  obtain ⟨h_1, h⟩ := h
  refine ru_go (t := (93, [some (.inr (some a0)), some (.inl x1), some (.inl x2), some (.inl x3), some (.inl x4), some (.inl x5), some (.inl 1)], [.inr (sm_R M a0 39)], M)) sm_a161_90 rfl rfl (st_getR h_1 rfl rfl) ?_
  refine ru_go (t := (94, [some (.inr (some a0)), some (.inl x1), some (.inl x2), some (.inl x3), some (.inl x4), some (.inl x5), some (.inl 1)], [.inr (some a0), .inr (sm_R M a0 39)], M)) sm_a161_93 rfl rfl rfl ?_
  refine ru_go (t := (97, [some (.inr (some a0)), some (.inl x1), some (.inl x2), some (.inl x3), some (.inl x4), some (.inl x5), some (.inl 1)], [.inl (sm_I M a0 50), .inr (sm_R M a0 39)], M)) sm_a161_94 rfl rfl (st_getI h_1 rfl) ?_
  obtain ⟨b_2, hb_3, h⟩ := h
  rw [hb_3]
  obtain ⟨h_4, h⟩ := h
  obtain ⟨h_5, h⟩ := h
  refine ru_go (t := (98, [some (.inr (some a0)), some (.inl x1), some (.inl x2), some (.inl x3), some (.inl x4), some (.inl x5), some (.inl 1)], [.inl (sm_I M b_2 (sm_I M a0 50).toNatClampNeg)], M)) sm_a161_97 rfl rfl (st_iald h_4 h_5) ?_
  refine ru_go (t := (99, [some (.inr (some a0)), some (.inl x1), some (.inl x2), some (.inl x3), some (.inl x4), some (.inl x5), some (.inl 1)], [.inr (some a0), .inl (sm_I M b_2 (sm_I M a0 50).toNatClampNeg)], M)) sm_a161_98 rfl rfl rfl ?_
  refine ru_go (t := (102, [some (.inr (some a0)), some (.inl x1), some (.inl x2), some (.inl x3), some (.inl x4), some (.inl x5), some (.inl 1)], [.inr (sm_R M a0 5), .inl (sm_I M b_2 (sm_I M a0 50).toNatClampNeg)], M)) sm_a161_99 rfl rfl (st_getR h_1 rfl rfl) ?_
  refine ru_go (t := (103, [some (.inr (some a0)), some (.inl x1), some (.inl x2), some (.inl x3), some (.inl x4), some (.inl x5), some (.inl 1)], [.inl x3, .inr (sm_R M a0 5), .inl (sm_I M b_2 (sm_I M a0 50).toNatClampNeg)], M)) sm_a161_102 rfl rfl rfl ?_
  obtain ⟨b_6, hb_7, h⟩ := h
  rw [hb_7]
  obtain ⟨h_8, h⟩ := h
  obtain ⟨h_9, h⟩ := h
  refine ru_go (t := (104, [some (.inr (some a0)), some (.inl x1), some (.inl x2), some (.inl x3), some (.inl x4), some (.inl x5), some (.inl 1)], [.inl (sm_I M b_6 (x3).toNatClampNeg), .inl (sm_I M b_2 (sm_I M a0 50).toNatClampNeg)], M)) sm_a161_103 rfl rfl (st_iald h_8 h_9) ?_
  refine ru_icmp (pc := 104) (p := 165) (p2 := 107) sm_a161_104 (by decide) rfl ⟨fun hc_10 => ?_, fun hc_10 => ?_⟩
  · have h := h.1 hc_10
    exact h
  · have h := h.2 hc_10
    refine ru_go (t := (108, [some (.inr (some a0)), some (.inl x1), some (.inl x2), some (.inl x3), some (.inl x4), some (.inl x5), some (.inl 1)], [.inl x2], M)) sm_a161_107 rfl rfl rfl ?_
    refine ru_go (t := (110, [some (.inr (some a0)), some (.inl x1), some (.inl x2), some (.inl x3), some (.inl x4), some (.inl x5), some (.inl 1)], [.inl 9, .inl x2], M)) sm_a161_108 rfl rfl (st_bipush (by decide)) ?_
    refine ru_icmp (pc := 110) (p := 130) (p2 := 113) sm_a161_110 (by decide) rfl ⟨fun hc_11 => ?_, fun hc_11 => ?_⟩
    · have h := h.1 hc_11
      refine ru_go (t := (131, [some (.inr (some a0)), some (.inl x1), some (.inl x2), some (.inl x3), some (.inl x4), some (.inl x5), some (.inl 1)], [.inr (some a0)], M)) sm_a161_130 rfl rfl rfl ?_
      refine ru_go (t := (134, [some (.inr (some a0)), some (.inl x1), some (.inl x2), some (.inl x3), some (.inl x4), some (.inl x5), some (.inl 1)], [.inr (sm_R M a0 19)], M)) sm_a161_131 rfl rfl (st_getR h_1 rfl rfl) ?_
      refine ru_go (t := (135, [some (.inr (some a0)), some (.inl x1), some (.inl x2), some (.inl x3), some (.inl x4), some (.inl x5), some (.inl 1)], [.inl x3, .inr (sm_R M a0 19)], M)) sm_a161_134 rfl rfl rfl ?_
      refine ru_go (t := (136, [some (.inr (some a0)), some (.inl x1), some (.inl x2), some (.inl x3), some (.inl x4), some (.inl x5), some (.inl 1)], [.inl x2, .inl x3, .inr (sm_R M a0 19)], M)) sm_a161_135 rfl rfl rfl ?_
      refine ru_go (t := (138, [some (.inr (some a0)), some (.inl x1), some (.inl x2), some (.inl x3), some (.inl x4), some (.inl x5), some (.inl 1)], [.inl 13, .inl x2, .inl x3, .inr (sm_R M a0 19)], M)) sm_a161_136 rfl rfl (st_bipush (by decide)) ?_
      refine ru_icmp (pc := 138) (p := 145) (p2 := 141) sm_a161_138 (by decide) rfl ⟨fun hc_12 => ?_, fun hc_12 => ?_⟩
      · have h := h.1 hc_12
        refine ru_go (t := (146, [some (.inr (some a0)), some (.inl x1), some (.inl x2), some (.inl x3), some (.inl x4), some (.inl x5), some (.inl 1)], [.inl 2, .inl x3, .inr (sm_R M a0 19)], M)) sm_a161_145 rfl rfl (st_iconst (by decide)) ?_
        obtain ⟨b_13, hb_14, h⟩ := h
        rw [hb_14]
        obtain ⟨h_15, h⟩ := h
        obtain ⟨h_16, h⟩ := h
        refine ru_go (t := (147, [some (.inr (some a0)), some (.inl x1), some (.inl x2), some (.inl x3), some (.inl x4), some (.inl x5), some (.inl 1)], [], sm_putI M b_13 (x3).toNatClampNeg 2)) sm_a161_146 rfl rfl (st_iast h_15 h_16) ?_
        refine ru_go (t := (148, [some (.inr (some a0)), some (.inl x1), some (.inl x2), some (.inl x3), some (.inl x4), some (.inl x5), some (.inl 1)], [.inr (some a0)], sm_putI M b_13 (x3).toNatClampNeg 2)) sm_a161_147 rfl rfl rfl ?_
        refine ru_go (t := (151, [some (.inr (some a0)), some (.inl x1), some (.inl x2), some (.inl x3), some (.inl x4), some (.inl x5), some (.inl 1)], [.inr (sm_R (sm_putI M b_13 (x3).toNatClampNeg 2) a0 20)], sm_putI M b_13 (x3).toNatClampNeg 2)) sm_a161_148 rfl rfl (st_getR h_1 rfl rfl) ?_
        refine ru_go (t := (152, [some (.inr (some a0)), some (.inl x1), some (.inl x2), some (.inl x3), some (.inl x4), some (.inl x5), some (.inl 1)], [.inl x3, .inr (sm_R (sm_putI M b_13 (x3).toNatClampNeg 2) a0 20)], sm_putI M b_13 (x3).toNatClampNeg 2)) sm_a161_151 rfl rfl rfl ?_
        refine ru_go (t := (153, [some (.inr (some a0)), some (.inl x1), some (.inl x2), some (.inl x3), some (.inl x4), some (.inl x5), some (.inl 1)], [.inr (some a0), .inl x3, .inr (sm_R (sm_putI M b_13 (x3).toNatClampNeg 2) a0 20)], sm_putI M b_13 (x3).toNatClampNeg 2)) sm_a161_152 rfl rfl rfl ?_
        refine ru_go (t := (156, [some (.inr (some a0)), some (.inl x1), some (.inl x2), some (.inl x3), some (.inl x4), some (.inl x5), some (.inl 1)], [.inr (sm_R (sm_putI M b_13 (x3).toNatClampNeg 2) a0 40), .inl x3, .inr (sm_R (sm_putI M b_13 (x3).toNatClampNeg 2) a0 20)], sm_putI M b_13 (x3).toNatClampNeg 2)) sm_a161_153 rfl rfl (st_getR h_1 rfl rfl) ?_
        refine ru_go (t := (157, [some (.inr (some a0)), some (.inl x1), some (.inl x2), some (.inl x3), some (.inl x4), some (.inl x5), some (.inl 1)], [.inr (some a0), .inr (sm_R (sm_putI M b_13 (x3).toNatClampNeg 2) a0 40), .inl x3, .inr (sm_R (sm_putI M b_13 (x3).toNatClampNeg 2) a0 20)], sm_putI M b_13 (x3).toNatClampNeg 2)) sm_a161_156 rfl rfl rfl ?_
        refine ru_go (t := (160, [some (.inr (some a0)), some (.inl x1), some (.inl x2), some (.inl x3), some (.inl x4), some (.inl x5), some (.inl 1)], [.inl (sm_I (sm_putI M b_13 (x3).toNatClampNeg 2) a0 50), .inr (sm_R (sm_putI M b_13 (x3).toNatClampNeg 2) a0 40), .inl x3, .inr (sm_R (sm_putI M b_13 (x3).toNatClampNeg 2) a0 20)], sm_putI M b_13 (x3).toNatClampNeg 2)) sm_a161_157 rfl rfl (st_getI h_1 rfl) ?_
        obtain ⟨b_17, hb_18, h⟩ := h
        rw [hb_18]
        obtain ⟨h_19, h⟩ := h
        obtain ⟨h_20, h⟩ := h
        refine ru_go (t := (161, [some (.inr (some a0)), some (.inl x1), some (.inl x2), some (.inl x3), some (.inl x4), some (.inl x5), some (.inl 1)], [.inl (sm_I (sm_putI M b_13 (x3).toNatClampNeg 2) b_17 (sm_I (sm_putI M b_13 (x3).toNatClampNeg 2) a0 50).toNatClampNeg), .inl x3, .inr (sm_R (sm_putI M b_13 (x3).toNatClampNeg 2) a0 20)], sm_putI M b_13 (x3).toNatClampNeg 2)) sm_a161_160 rfl rfl (st_iald h_19 h_20) ?_
        obtain ⟨b_21, hb_22, h⟩ := h
        rw [hb_22]
        obtain ⟨h_23, h⟩ := h
        obtain ⟨h_24, h⟩ := h
        refine ru_go (t := (162, [some (.inr (some a0)), some (.inl x1), some (.inl x2), some (.inl x3), some (.inl x4), some (.inl x5), some (.inl 1)], [], sm_putI (sm_putI M b_13 (x3).toNatClampNeg 2) b_21 (x3).toNatClampNeg (sm_I (sm_putI M b_13 (x3).toNatClampNeg 2) b_17 (sm_I (sm_putI M b_13 (x3).toNatClampNeg 2) a0 50).toNatClampNeg))) sm_a161_161 rfl rfl (st_iast h_23 h_24) ?_
        refine ru_go (t := (277, [some (.inr (some a0)), some (.inl x1), some (.inl x2), some (.inl x3), some (.inl x4), some (.inl x5), some (.inl 1)], [], sm_putI (sm_putI M b_13 (x3).toNatClampNeg 2) b_21 (x3).toNatClampNeg (sm_I (sm_putI M b_13 (x3).toNatClampNeg 2) b_17 (sm_I (sm_putI M b_13 (x3).toNatClampNeg 2) a0 50).toNatClampNeg))) sm_a161_162 rfl rfl (st_goto (pc := 162) (by decide)) ?_
        refine ru_go (t := (280, [some (.inr (some a0)), some (.inl x1), some (.inl x2), some (.inl (x3 + 1)), some (.inl x4), some (.inl x5), some (.inl 1)], [], sm_putI (sm_putI M b_13 (x3).toNatClampNeg 2) b_21 (x3).toNatClampNeg (sm_I (sm_putI M b_13 (x3).toNatClampNeg 2) b_17 (sm_I (sm_putI M b_13 (x3).toNatClampNeg 2) a0 50).toNatClampNeg))) sm_a161_277 rfl rfl (st_iinc rfl (by decide)) ?_
        refine ru_go (t := (17, [some (.inr (some a0)), some (.inl x1), some (.inl x2), some (.inl (x3 + 1)), some (.inl x4), some (.inl x5), some (.inl 1)], [], sm_putI (sm_putI M b_13 (x3).toNatClampNeg 2) b_21 (x3).toNatClampNeg (sm_I (sm_putI M b_13 (x3).toNatClampNeg 2) b_17 (sm_I (sm_putI M b_13 (x3).toNatClampNeg 2) a0 50).toNatClampNeg))) sm_a161_280 rfl rfl (st_goto (pc := 280) (by decide)) ?_
        exact h
      · have h := h.2 hc_12
        refine ru_go (t := (142, [some (.inr (some a0)), some (.inl x1), some (.inl x2), some (.inl x3), some (.inl x4), some (.inl x5), some (.inl 1)], [.inl 1, .inl x3, .inr (sm_R M a0 19)], M)) sm_a161_141 rfl rfl (st_iconst (by decide)) ?_
        refine ru_go (t := (146, [some (.inr (some a0)), some (.inl x1), some (.inl x2), some (.inl x3), some (.inl x4), some (.inl x5), some (.inl 1)], [.inl 1, .inl x3, .inr (sm_R M a0 19)], M)) sm_a161_142 rfl rfl (st_goto (pc := 142) (by decide)) ?_
        obtain ⟨b_25, hb_26, h⟩ := h
        rw [hb_26]
        obtain ⟨h_27, h⟩ := h
        obtain ⟨h_28, h⟩ := h
        refine ru_go (t := (147, [some (.inr (some a0)), some (.inl x1), some (.inl x2), some (.inl x3), some (.inl x4), some (.inl x5), some (.inl 1)], [], sm_putI M b_25 (x3).toNatClampNeg 1)) sm_a161_146 rfl rfl (st_iast h_27 h_28) ?_
        refine ru_go (t := (148, [some (.inr (some a0)), some (.inl x1), some (.inl x2), some (.inl x3), some (.inl x4), some (.inl x5), some (.inl 1)], [.inr (some a0)], sm_putI M b_25 (x3).toNatClampNeg 1)) sm_a161_147 rfl rfl rfl ?_
        refine ru_go (t := (151, [some (.inr (some a0)), some (.inl x1), some (.inl x2), some (.inl x3), some (.inl x4), some (.inl x5), some (.inl 1)], [.inr (sm_R (sm_putI M b_25 (x3).toNatClampNeg 1) a0 20)], sm_putI M b_25 (x3).toNatClampNeg 1)) sm_a161_148 rfl rfl (st_getR h_1 rfl rfl) ?_
        refine ru_go (t := (152, [some (.inr (some a0)), some (.inl x1), some (.inl x2), some (.inl x3), some (.inl x4), some (.inl x5), some (.inl 1)], [.inl x3, .inr (sm_R (sm_putI M b_25 (x3).toNatClampNeg 1) a0 20)], sm_putI M b_25 (x3).toNatClampNeg 1)) sm_a161_151 rfl rfl rfl ?_
        refine ru_go (t := (153, [some (.inr (some a0)), some (.inl x1), some (.inl x2), some (.inl x3), some (.inl x4), some (.inl x5), some (.inl 1)], [.inr (some a0), .inl x3, .inr (sm_R (sm_putI M b_25 (x3).toNatClampNeg 1) a0 20)], sm_putI M b_25 (x3).toNatClampNeg 1)) sm_a161_152 rfl rfl rfl ?_
        refine ru_go (t := (156, [some (.inr (some a0)), some (.inl x1), some (.inl x2), some (.inl x3), some (.inl x4), some (.inl x5), some (.inl 1)], [.inr (sm_R (sm_putI M b_25 (x3).toNatClampNeg 1) a0 40), .inl x3, .inr (sm_R (sm_putI M b_25 (x3).toNatClampNeg 1) a0 20)], sm_putI M b_25 (x3).toNatClampNeg 1)) sm_a161_153 rfl rfl (st_getR h_1 rfl rfl) ?_
        refine ru_go (t := (157, [some (.inr (some a0)), some (.inl x1), some (.inl x2), some (.inl x3), some (.inl x4), some (.inl x5), some (.inl 1)], [.inr (some a0), .inr (sm_R (sm_putI M b_25 (x3).toNatClampNeg 1) a0 40), .inl x3, .inr (sm_R (sm_putI M b_25 (x3).toNatClampNeg 1) a0 20)], sm_putI M b_25 (x3).toNatClampNeg 1)) sm_a161_156 rfl rfl rfl ?_
        refine ru_go (t := (160, [some (.inr (some a0)), some (.inl x1), some (.inl x2), some (.inl x3), some (.inl x4), some (.inl x5), some (.inl 1)], [.inl (sm_I (sm_putI M b_25 (x3).toNatClampNeg 1) a0 50), .inr (sm_R (sm_putI M b_25 (x3).toNatClampNeg 1) a0 40), .inl x3, .inr (sm_R (sm_putI M b_25 (x3).toNatClampNeg 1) a0 20)], sm_putI M b_25 (x3).toNatClampNeg 1)) sm_a161_157 rfl rfl (st_getI h_1 rfl) ?_
        obtain ⟨b_29, hb_30, h⟩ := h
        rw [hb_30]
        obtain ⟨h_31, h⟩ := h
        obtain ⟨h_32, h⟩ := h
        refine ru_go (t := (161, [some (.inr (some a0)), some (.inl x1), some (.inl x2), some (.inl x3), some (.inl x4), some (.inl x5), some (.inl 1)], [.inl (sm_I (sm_putI M b_25 (x3).toNatClampNeg 1) b_29 (sm_I (sm_putI M b_25 (x3).toNatClampNeg 1) a0 50).toNatClampNeg), .inl x3, .inr (sm_R (sm_putI M b_25 (x3).toNatClampNeg 1) a0 20)], sm_putI M b_25 (x3).toNatClampNeg 1)) sm_a161_160 rfl rfl (st_iald h_31 h_32) ?_
        obtain ⟨b_33, hb_34, h⟩ := h
        rw [hb_34]
        obtain ⟨h_35, h⟩ := h
        obtain ⟨h_36, h⟩ := h
        refine ru_go (t := (162, [some (.inr (some a0)), some (.inl x1), some (.inl x2), some (.inl x3), some (.inl x4), some (.inl x5), some (.inl 1)], [], sm_putI (sm_putI M b_25 (x3).toNatClampNeg 1) b_33 (x3).toNatClampNeg (sm_I (sm_putI M b_25 (x3).toNatClampNeg 1) b_29 (sm_I (sm_putI M b_25 (x3).toNatClampNeg 1) a0 50).toNatClampNeg))) sm_a161_161 rfl rfl (st_iast h_35 h_36) ?_
        refine ru_go (t := (277, [some (.inr (some a0)), some (.inl x1), some (.inl x2), some (.inl x3), some (.inl x4), some (.inl x5), some (.inl 1)], [], sm_putI (sm_putI M b_25 (x3).toNatClampNeg 1) b_33 (x3).toNatClampNeg (sm_I (sm_putI M b_25 (x3).toNatClampNeg 1) b_29 (sm_I (sm_putI M b_25 (x3).toNatClampNeg 1) a0 50).toNatClampNeg))) sm_a161_162 rfl rfl (st_goto (pc := 162) (by decide)) ?_
        refine ru_go (t := (280, [some (.inr (some a0)), some (.inl x1), some (.inl x2), some (.inl (x3 + 1)), some (.inl x4), some (.inl x5), some (.inl 1)], [], sm_putI (sm_putI M b_25 (x3).toNatClampNeg 1) b_33 (x3).toNatClampNeg (sm_I (sm_putI M b_25 (x3).toNatClampNeg 1) b_29 (sm_I (sm_putI M b_25 (x3).toNatClampNeg 1) a0 50).toNatClampNeg))) sm_a161_277 rfl rfl (st_iinc rfl (by decide)) ?_
        refine ru_go (t := (17, [some (.inr (some a0)), some (.inl x1), some (.inl x2), some (.inl (x3 + 1)), some (.inl x4), some (.inl x5), some (.inl 1)], [], sm_putI (sm_putI M b_25 (x3).toNatClampNeg 1) b_33 (x3).toNatClampNeg (sm_I (sm_putI M b_25 (x3).toNatClampNeg 1) b_29 (sm_I (sm_putI M b_25 (x3).toNatClampNeg 1) a0 50).toNatClampNeg))) sm_a161_280 rfl rfl (st_goto (pc := 280) (by decide)) ?_
        exact h
    · have h := h.2 hc_11
      refine ru_go (t := (114, [some (.inr (some a0)), some (.inl x1), some (.inl x2), some (.inl x3), some (.inl x4), some (.inl x5), some (.inl 1)], [.inr (some a0)], M)) sm_a161_113 rfl rfl rfl ?_
      refine ru_go (t := (115, [some (.inr (some a0)), some (.inl x1), some (.inl x2), some (.inl x3), some (.inl x4), some (.inl x5), some (.inl 1)], [.inl x3, .inr (some a0)], M)) sm_a161_114 rfl rfl rfl ?_
      refine ru_go (t := (116, [some (.inr (some a0)), some (.inl x1), some (.inl x2), some (.inl x3), some (.inl x4), some (.inl x5), some (.inl 1)], [.inr (some a0), .inl x3, .inr (some a0)], M)) sm_a161_115 rfl rfl rfl ?_
      refine ru_go (t := (119, [some (.inr (some a0)), some (.inl x1), some (.inl x2), some (.inl x3), some (.inl x4), some (.inl x5), some (.inl 1)], [.inr (sm_R M a0 40), .inl x3, .inr (some a0)], M)) sm_a161_116 rfl rfl (st_getR h_1 rfl rfl) ?_
      refine ru_go (t := (120, [some (.inr (some a0)), some (.inl x1), some (.inl x2), some (.inl x3), some (.inl x4), some (.inl x5), some (.inl 1)], [.inr (some a0), .inr (sm_R M a0 40), .inl x3, .inr (some a0)], M)) sm_a161_119 rfl rfl rfl ?_
      refine ru_go (t := (123, [some (.inr (some a0)), some (.inl x1), some (.inl x2), some (.inl x3), some (.inl x4), some (.inl x5), some (.inl 1)], [.inl (sm_I M a0 50), .inr (sm_R M a0 40), .inl x3, .inr (some a0)], M)) sm_a161_120 rfl rfl (st_getI h_1 rfl) ?_
      obtain ⟨b_37, hb_38, h⟩ := h
      rw [hb_38]
      obtain ⟨h_39, h⟩ := h
      obtain ⟨h_40, h⟩ := h
      refine ru_go (t := (124, [some (.inr (some a0)), some (.inl x1), some (.inl x2), some (.inl x3), some (.inl x4), some (.inl x5), some (.inl 1)], [.inl (sm_I M b_37 (sm_I M a0 50).toNatClampNeg), .inl x3, .inr (some a0)], M)) sm_a161_123 rfl rfl (st_iald h_39 h_40) ?_
      exact ru_call (p := 127) sm_a161_124 rfl (sc_virt (Or.inl rfl) rfl rfl h_1 (Nat.le_of_ble_eq_true rfl)) rfl h
theorem bb_161_127 {d : Nat} {M : sm_M} {Q : Option sm_V → sm_M → Prop} {a0 : Nat} {x1 : Int32} {x2 : Int32} {x3 : Int32} {x4 : Int32} {x5 : Int32} {x6 : Int32}
    (h : sm_Run (d + 1) 161 17 [some (.inr (some a0)), some (.inl x1), some (.inl x2), some (.inl (x3 + 1)), some (.inl x4), some (.inl x5), some (.inl x6)] [] M Q) :
    sm_Run (d + 1) 161 127 [some (.inr (some a0)), some (.inl x1), some (.inl x2), some (.inl x3), some (.inl x4), some (.inl x5), some (.inl x6)] [] M Q := by
  refine ru_go (t := (277, [some (.inr (some a0)), some (.inl x1), some (.inl x2), some (.inl x3), some (.inl x4), some (.inl x5), some (.inl x6)], [], M)) sm_a161_127 rfl rfl (st_goto (pc := 127) (by decide)) ?_
  refine ru_go (t := (280, [some (.inr (some a0)), some (.inl x1), some (.inl x2), some (.inl (x3 + 1)), some (.inl x4), some (.inl x5), some (.inl x6)], [], M)) sm_a161_277 rfl rfl (st_iinc rfl (by decide)) ?_
  refine ru_go (t := (17, [some (.inr (some a0)), some (.inl x1), some (.inl x2), some (.inl (x3 + 1)), some (.inl x4), some (.inl x5), some (.inl x6)], [], M)) sm_a161_280 rfl rfl (st_goto (pc := 280) (by decide)) ?_
  exact h
theorem bb_161_165 {d : Nat} {M : sm_M} {Q : Option sm_V → sm_M → Prop} {a0 : Nat} {x1 : Int32} {x2 : Int32} {x3 : Int32} {x4 : Int32} {x5 : Int32} {x6 : Int32}
    (h : ((x2 = 3 → sm_Run (d + 1) 161 176 [some (.inr (some a0)), some (.inl x1), some (.inl x2), some (.inl x3), some (.inl x4), some (.inl x5), some (.inl x6)] [] M Q) ∧ (¬ (x2 = 3) → ((¬ x2 = 11 → sm_Run (d + 1) 161 221 [some (.inr (some a0)), some (.inl x1), some (.inl x2), some (.inl x3), some (.inl x4), some (.inl x5), some (.inl x6)] [] M Q) ∧ (¬ (¬ x2 = 11) → sm_Run (d + 1) 161 176 [some (.inr (some a0)), some (.inl x1), some (.inl x2), some (.inl x3), some (.inl x4), some (.inl x5), some (.inl x6)] [] M Q))))) :
    sm_Run (d + 1) 161 165 [some (.inr (some a0)), some (.inl x1), some (.inl x2), some (.inl x3), some (.inl x4), some (.inl x5), some (.inl x6)] [] M Q := by
  refine ru_go (t := (166, [some (.inr (some a0)), some (.inl x1), some (.inl x2), some (.inl x3), some (.inl x4), some (.inl x5), some (.inl x6)], [.inl x2], M)) sm_a161_165 rfl rfl rfl ?_
  refine ru_go (t := (167, [some (.inr (some a0)), some (.inl x1), some (.inl x2), some (.inl x3), some (.inl x4), some (.inl x5), some (.inl x6)], [.inl 3, .inl x2], M)) sm_a161_166 rfl rfl (st_iconst (by decide)) ?_
  refine ru_icmp (pc := 167) (p := 176) (p2 := 170) sm_a161_167 (by decide) rfl ⟨fun hc_1 => ?_, fun hc_1 => ?_⟩
  · have h := h.1 hc_1
    exact h
  · have h := h.2 hc_1
    refine ru_go (t := (171, [some (.inr (some a0)), some (.inl x1), some (.inl x2), some (.inl x3), some (.inl x4), some (.inl x5), some (.inl x6)], [.inl x2], M)) sm_a161_170 rfl rfl rfl ?_
    refine ru_go (t := (173, [some (.inr (some a0)), some (.inl x1), some (.inl x2), some (.inl x3), some (.inl x4), some (.inl x5), some (.inl x6)], [.inl 11, .inl x2], M)) sm_a161_171 rfl rfl (st_bipush (by decide)) ?_
    refine ru_icmp (pc := 173) (p := 221) (p2 := 176) sm_a161_173 (by decide) rfl ⟨fun hc_2 => ?_, fun hc_2 => ?_⟩
    · have h := h.1 hc_2
      exact h
    · have h := h.2 hc_2
      exact h
theorem bb_161_176 {d : Nat} {M : sm_M} {Q : Option sm_V → sm_M → Prop} {a0 : Nat} {x1 : Int32} {x2 : Int32} {x3 : Int32} {x4 : Int32} {x5 : Int32} {x6 : Int32}
    (h : ((¬ x4 = 1 → sm_Run (d + 1) 161 221 [some (.inr (some a0)), some (.inl x1), some (.inl x2), some (.inl x3), some (.inl x4), some (.inl x5), some (.inl x6)] [] M Q) ∧ (¬ (¬ x4 = 1) → ((¬ x2 = 3 → sm_Run (d + 1) 161 17 [some (.inr (some a0)), some (.inl x1), some (.inl x2), some (.inl (x3 + 1)), some (.inl x4), some (.inl x5), some (.inl x6)] [] M Q) ∧ (¬ (¬ x2 = 3) → sm_K M a0 = 39 ∧ ∃ b_4, sm_R M a0 41 = some b_4 ∧ sm_iA M b_4 ∧ sm_in_ M b_4 (sm_I M a0 50) ∧ ((¬ (sm_I M b_4 (sm_I M a0 50).toNatClampNeg) = 8 → sm_Run (d + 1) 161 17 [some (.inr (some a0)), some (.inl x1), some (.inl x2), some (.inl (x3 + 1)), some (.inl x4), some (.inl x5), some (.inl x6)] [] M Q) ∧ (¬ (¬ (sm_I M b_4 (sm_I M a0 50).toNatClampNeg) = 8) → ((¬ x5 = 0 → sm_Run (d + 1) 161 17 [some (.inr (some a0)), some (.inl x1), some (.inl x2), some (.inl (x3 + 1)), some (.inl x4), some (.inl x5), some (.inl x6)] [] M Q) ∧ (¬ (¬ x5 = 0) → sm_Run d 170 0 (sm_ent 170 [.inr (some a0), .inl x3]) [] M (fun v M1 => sm_Run (d + 1) 161 211 [some (.inr (some a0)), some (.inl x1), some (.inl x2), some (.inl x3), some (.inl x4), some (.inl x5), some (.inl x6)] (v.toList ++ []) M1 Q)))))))))) :
    sm_Run (d + 1) 161 176 [some (.inr (some a0)), some (.inl x1), some (.inl x2), some (.inl x3), some (.inl x4), some (.inl x5), some (.inl x6)] [] M Q := by
  refine ru_go (t := (178, [some (.inr (some a0)), some (.inl x1), some (.inl x2), some (.inl x3), some (.inl x4), some (.inl x5), some (.inl x6)], [.inl x4], M)) sm_a161_176 rfl rfl rfl ?_
  refine ru_go (t := (179, [some (.inr (some a0)), some (.inl x1), some (.inl x2), some (.inl x3), some (.inl x4), some (.inl x5), some (.inl x6)], [.inl 1, .inl x4], M)) sm_a161_178 rfl rfl (st_iconst (by decide)) ?_
  refine ru_icmp (pc := 179) (p := 221) (p2 := 182) sm_a161_179 (by decide) rfl ⟨fun hc_1 => ?_, fun hc_1 => ?_⟩
  · have h := h.1 hc_1
    exact h
  · have h := h.2 hc_1
    refine ru_go (t := (183, [some (.inr (some a0)), some (.inl x1), some (.inl x2), some (.inl x3), some (.inl x4), some (.inl x5), some (.inl x6)], [.inl x2], M)) sm_a161_182 rfl rfl rfl ?_
    refine ru_go (t := (184, [some (.inr (some a0)), some (.inl x1), some (.inl x2), some (.inl x3), some (.inl x4), some (.inl x5), some (.inl x6)], [.inl 3, .inl x2], M)) sm_a161_183 rfl rfl (st_iconst (by decide)) ?_
    refine ru_icmp (pc := 184) (p := 277) (p2 := 187) sm_a161_184 (by decide) rfl ⟨fun hc_2 => ?_, fun hc_2 => ?_⟩
    · have h := h.1 hc_2
      refine ru_go (t := (280, [some (.inr (some a0)), some (.inl x1), some (.inl x2), some (.inl (x3 + 1)), some (.inl x4), some (.inl x5), some (.inl x6)], [], M)) sm_a161_277 rfl rfl (st_iinc rfl (by decide)) ?_
      refine ru_go (t := (17, [some (.inr (some a0)), some (.inl x1), some (.inl x2), some (.inl (x3 + 1)), some (.inl x4), some (.inl x5), some (.inl x6)], [], M)) sm_a161_280 rfl rfl (st_goto (pc := 280) (by decide)) ?_
      exact h
    · have h := h.2 hc_2
      refine ru_go (t := (188, [some (.inr (some a0)), some (.inl x1), some (.inl x2), some (.inl x3), some (.inl x4), some (.inl x5), some (.inl x6)], [.inr (some a0)], M)) sm_a161_187 rfl rfl rfl ?_
      obtain ⟨h_3, h⟩ := h
      refine ru_go (t := (191, [some (.inr (some a0)), some (.inl x1), some (.inl x2), some (.inl x3), some (.inl x4), some (.inl x5), some (.inl x6)], [.inr (sm_R M a0 41)], M)) sm_a161_188 rfl rfl (st_getR h_3 rfl rfl) ?_
      refine ru_go (t := (192, [some (.inr (some a0)), some (.inl x1), some (.inl x2), some (.inl x3), some (.inl x4), some (.inl x5), some (.inl x6)], [.inr (some a0), .inr (sm_R M a0 41)], M)) sm_a161_191 rfl rfl rfl ?_
      refine ru_go (t := (195, [some (.inr (some a0)), some (.inl x1), some (.inl x2), some (.inl x3), some (.inl x4), some (.inl x5), some (.inl x6)], [.inl (sm_I M a0 50), .inr (sm_R M a0 41)], M)) sm_a161_192 rfl rfl (st_getI h_3 rfl) ?_
      obtain ⟨b_4, hb_5, h⟩ := h
      rw [hb_5]
      obtain ⟨h_6, h⟩ := h
      obtain ⟨h_7, h⟩ := h
      refine ru_go (t := (196, [some (.inr (some a0)), some (.inl x1), some (.inl x2), some (.inl x3), some (.inl x4), some (.inl x5), some (.inl x6)], [.inl (sm_I M b_4 (sm_I M a0 50).toNatClampNeg)], M)) sm_a161_195 rfl rfl (st_iald h_6 h_7) ?_
      refine ru_go (t := (198, [some (.inr (some a0)), some (.inl x1), some (.inl x2), some (.inl x3), some (.inl x4), some (.inl x5), some (.inl x6)], [.inl 8, .inl (sm_I M b_4 (sm_I M a0 50).toNatClampNeg)], M)) sm_a161_196 rfl rfl (st_bipush (by decide)) ?_
      refine ru_icmp (pc := 198) (p := 277) (p2 := 201) sm_a161_198 (by decide) rfl ⟨fun hc_8 => ?_, fun hc_8 => ?_⟩
      · have h := h.1 hc_8
        refine ru_go (t := (280, [some (.inr (some a0)), some (.inl x1), some (.inl x2), some (.inl (x3 + 1)), some (.inl x4), some (.inl x5), some (.inl x6)], [], M)) sm_a161_277 rfl rfl (st_iinc rfl (by decide)) ?_
        refine ru_go (t := (17, [some (.inr (some a0)), some (.inl x1), some (.inl x2), some (.inl (x3 + 1)), some (.inl x4), some (.inl x5), some (.inl x6)], [], M)) sm_a161_280 rfl rfl (st_goto (pc := 280) (by decide)) ?_
        exact h
      · have h := h.2 hc_8
        refine ru_go (t := (203, [some (.inr (some a0)), some (.inl x1), some (.inl x2), some (.inl x3), some (.inl x4), some (.inl x5), some (.inl x6)], [.inl x5], M)) sm_a161_201 rfl rfl rfl ?_
        refine ru_if (pc := 203) (p := 277) (p2 := 206) sm_a161_203 (by decide) rfl ⟨fun hc_9 => ?_, fun hc_9 => ?_⟩
        · have h := h.1 hc_9
          refine ru_go (t := (280, [some (.inr (some a0)), some (.inl x1), some (.inl x2), some (.inl (x3 + 1)), some (.inl x4), some (.inl x5), some (.inl x6)], [], M)) sm_a161_277 rfl rfl (st_iinc rfl (by decide)) ?_
          refine ru_go (t := (17, [some (.inr (some a0)), some (.inl x1), some (.inl x2), some (.inl (x3 + 1)), some (.inl x4), some (.inl x5), some (.inl x6)], [], M)) sm_a161_280 rfl rfl (st_goto (pc := 280) (by decide)) ?_
          exact h
        · have h := h.2 hc_9
          refine ru_go (t := (207, [some (.inr (some a0)), some (.inl x1), some (.inl x2), some (.inl x3), some (.inl x4), some (.inl x5), some (.inl x6)], [.inr (some a0)], M)) sm_a161_206 rfl rfl rfl ?_
          refine ru_go (t := (208, [some (.inr (some a0)), some (.inl x1), some (.inl x2), some (.inl x3), some (.inl x4), some (.inl x5), some (.inl x6)], [.inl x3, .inr (some a0)], M)) sm_a161_207 rfl rfl rfl ?_
          exact ru_call (p := 211) sm_a161_208 rfl (sc_virt (Or.inl rfl) rfl rfl h_3 (Nat.le_of_ble_eq_true rfl)) rfl h
theorem bb_161_211 {d : Nat} {M : sm_M} {Q : Option sm_V → sm_M → Prop} {a0 : Nat} {x1 : Int32} {x2 : Int32} {x3 : Int32} {x4 : Int32} {x5 : Int32} {x6 : Int32}
    (h : sm_K M a0 = 39 ∧ sm_Run d 160 0 (sm_ent 160 [.inr (some a0), .inl x3, .inl 2, .inl 0]) [] M (fun v M1 => sm_Run (d + 1) 161 218 [some (.inr (some a0)), some (.inl x1), some (.inl x2), some (.inl x3), some (.inl x4), some (.inl x5), some (.inl x6)] (v.toList ++ []) M1 Q)) :
    sm_Run (d + 1) 161 211 [some (.inr (some a0)), some (.inl x1), some (.inl x2), some (.inl x3), some (.inl x4), some (.inl x5), some (.inl x6)] [] M Q := by
  refine ru_go (t := (212, [some (.inr (some a0)), some (.inl x1), some (.inl x2), some (.inl x3), some (.inl x4), some (.inl x5), some (.inl x6)], [.inr (some a0)], M)) sm_a161_211 rfl rfl rfl ?_
  refine ru_go (t := (213, [some (.inr (some a0)), some (.inl x1), some (.inl x2), some (.inl x3), some (.inl x4), some (.inl x5), some (.inl x6)], [.inl x3, .inr (some a0)], M)) sm_a161_212 rfl rfl rfl ?_
  refine ru_go (t := (214, [some (.inr (some a0)), some (.inl x1), some (.inl x2), some (.inl x3), some (.inl x4), some (.inl x5), some (.inl x6)], [.inl 2, .inl x3, .inr (some a0)], M)) sm_a161_213 rfl rfl (st_iconst (by decide)) ?_
  refine ru_go (t := (215, [some (.inr (some a0)), some (.inl x1), some (.inl x2), some (.inl x3), some (.inl x4), some (.inl x5), some (.inl x6)], [.inl 0, .inl 2, .inl x3, .inr (some a0)], M)) sm_a161_214 rfl rfl (st_iconst (by decide)) ?_
  obtain ⟨h_1, h⟩ := h
  exact ru_call (p := 218) sm_a161_215 rfl (sc_virt (Or.inl rfl) rfl rfl h_1 (Nat.le_of_ble_eq_true rfl)) rfl h
theorem bb_161_218 {d : Nat} {M : sm_M} {Q : Option sm_V → sm_M → Prop} {a0 : Nat} {x1 : Int32} {x2 : Int32} {x3 : Int32} {x4 : Int32} {x5 : Int32} {x6 : Int32}
    (h : sm_Run (d + 1) 161 17 [some (.inr (some a0)), some (.inl x1), some (.inl x2), some (.inl (x3 + 1)), some (.inl x4), some (.inl x5), some (.inl x6)] [] M Q) :
    sm_Run (d + 1) 161 218 [some (.inr (some a0)), some (.inl x1), some (.inl x2), some (.inl x3), some (.inl x4), some (.inl x5), some (.inl x6)] [] M Q := by
  refine ru_go (t := (277, [some (.inr (some a0)), some (.inl x1), some (.inl x2), some (.inl x3), some (.inl x4), some (.inl x5), some (.inl x6)], [], M)) sm_a161_218 rfl rfl (st_goto (pc := 218) (by decide)) ?_
  refine ru_go (t := (280, [some (.inr (some a0)), some (.inl x1), some (.inl x2), some (.inl (x3 + 1)), some (.inl x4), some (.inl x5), some (.inl x6)], [], M)) sm_a161_277 rfl rfl (st_iinc rfl (by decide)) ?_
  refine ru_go (t := (17, [some (.inr (some a0)), some (.inl x1), some (.inl x2), some (.inl (x3 + 1)), some (.inl x4), some (.inl x5), some (.inl x6)], [], M)) sm_a161_280 rfl rfl (st_goto (pc := 280) (by decide)) ?_
  exact h
theorem bb_161_221 {d : Nat} {M : sm_M} {Q : Option sm_V → sm_M → Prop} {a0 : Nat} {x1 : Int32} {x2 : Int32} {x3 : Int32} {x4 : Int32} {x5 : Int32} {x6 : Int32}
    (h : ((x2 = 3 → sm_Run (d + 1) 161 232 [some (.inr (some a0)), some (.inl x1), some (.inl x2), some (.inl x3), some (.inl x4), some (.inl x5), some (.inl x6)] [] M Q) ∧ (¬ (x2 = 3) → ((¬ x2 = 11 → sm_Run (d + 1) 161 259 [some (.inr (some a0)), some (.inl x1), some (.inl x2), some (.inl x3), some (.inl x4), some (.inl x5), some (.inl x6)] [] M Q) ∧ (¬ (¬ x2 = 11) → sm_Run (d + 1) 161 232 [some (.inr (some a0)), some (.inl x1), some (.inl x2), some (.inl x3), some (.inl x4), some (.inl x5), some (.inl x6)] [] M Q))))) :
    sm_Run (d + 1) 161 221 [some (.inr (some a0)), some (.inl x1), some (.inl x2), some (.inl x3), some (.inl x4), some (.inl x5), some (.inl x6)] [] M Q := by
  refine ru_go (t := (222, [some (.inr (some a0)), some (.inl x1), some (.inl x2), some (.inl x3), some (.inl x4), some (.inl x5), some (.inl x6)], [.inl x2], M)) sm_a161_221 rfl rfl rfl ?_
  refine ru_go (t := (223, [some (.inr (some a0)), some (.inl x1), some (.inl x2), some (.inl x3), some (.inl x4), some (.inl x5), some (.inl x6)], [.inl 3, .inl x2], M)) sm_a161_222 rfl rfl (st_iconst (by decide)) ?_
  refine ru_icmp (pc := 223) (p := 232) (p2 := 226) sm_a161_223 (by decide) rfl ⟨fun hc_1 => ?_, fun hc_1 => ?_⟩
  · have h := h.1 hc_1
    exact h
  · have h := h.2 hc_1
    refine ru_go (t := (227, [some (.inr (some a0)), some (.inl x1), some (.inl x2), some (.inl x3), some (.inl x4), some (.inl x5), some (.inl x6)], [.inl x2], M)) sm_a161_226 rfl rfl rfl ?_
    refine ru_go (t := (229, [some (.inr (some a0)), some (.inl x1), some (.inl x2), some (.inl x3), some (.inl x4), some (.inl x5), some (.inl x6)], [.inl 11, .inl x2], M)) sm_a161_227 rfl rfl (st_bipush (by decide)) ?_
    refine ru_icmp (pc := 229) (p := 259) (p2 := 232) sm_a161_229 (by decide) rfl ⟨fun hc_2 => ?_, fun hc_2 => ?_⟩
    · have h := h.1 hc_2
      exact h
    · have h := h.2 hc_2
      exact h
theorem bb_161_232 {d : Nat} {M : sm_M} {Q : Option sm_V → sm_M → Prop} {a0 : Nat} {x1 : Int32} {x2 : Int32} {x3 : Int32} {x4 : Int32} {x5 : Int32} {x6 : Int32}
    (h : ((¬ x4 = 2 → sm_Run (d + 1) 161 259 [some (.inr (some a0)), some (.inl x1), some (.inl x2), some (.inl x3), some (.inl x4), some (.inl x5), some (.inl x6)] [] M Q) ∧ (¬ (¬ x4 = 2) → ((¬ x2 = 11 → sm_K M a0 = 39 ∧ sm_Run d 165 0 (sm_ent 165 [.inr (some a0), .inl x3, .inl x5, .inl 0]) [] M (fun v M1 => sm_Run (d + 1) 161 256 [some (.inr (some a0)), some (.inl x1), some (.inl x2), some (.inl x3), some (.inl x4), some (.inl x5), some (.inl x6)] (v.toList ++ []) M1 Q)) ∧ (¬ (¬ x2 = 11) → sm_K M a0 = 39 ∧ sm_Run d 165 0 (sm_ent 165 [.inr (some a0), .inl x3, .inl x5, .inl 1]) [] M (fun v M1 => sm_Run (d + 1) 161 256 [some (.inr (some a0)), some (.inl x1), some (.inl x2), some (.inl x3), some (.inl x4), some (.inl x5), some (.inl x6)] (v.toList ++ []) M1 Q)))))) :
    sm_Run (d + 1) 161 232 [some (.inr (some a0)), some (.inl x1), some (.inl x2), some (.inl x3), some (.inl x4), some (.inl x5), some (.inl x6)] [] M Q := by
  refine ru_go (t := (234, [some (.inr (some a0)), some (.inl x1), some (.inl x2), some (.inl x3), some (.inl x4), some (.inl x5), some (.inl x6)], [.inl x4], M)) sm_a161_232 rfl rfl rfl ?_
  refine ru_go (t := (235, [some (.inr (some a0)), some (.inl x1), some (.inl x2), some (.inl x3), some (.inl x4), some (.inl x5), some (.inl x6)], [.inl 2, .inl x4], M)) sm_a161_234 rfl rfl (st_iconst (by decide)) ?_
  refine ru_icmp (pc := 235) (p := 259) (p2 := 238) sm_a161_235 (by decide) rfl ⟨fun hc_1 => ?_, fun hc_1 => ?_⟩
  · have h := h.1 hc_1
    exact h
  · have h := h.2 hc_1
    refine ru_go (t := (239, [some (.inr (some a0)), some (.inl x1), some (.inl x2), some (.inl x3), some (.inl x4), some (.inl x5), some (.inl x6)], [.inr (some a0)], M)) sm_a161_238 rfl rfl rfl ?_
    refine ru_go (t := (240, [some (.inr (some a0)), some (.inl x1), some (.inl x2), some (.inl x3), some (.inl x4), some (.inl x5), some (.inl x6)], [.inl x3, .inr (some a0)], M)) sm_a161_239 rfl rfl rfl ?_
    refine ru_go (t := (242, [some (.inr (some a0)), some (.inl x1), some (.inl x2), some (.inl x3), some (.inl x4), some (.inl x5), some (.inl x6)], [.inl x5, .inl x3, .inr (some a0)], M)) sm_a161_240 rfl rfl rfl ?_
    refine ru_go (t := (243, [some (.inr (some a0)), some (.inl x1), some (.inl x2), some (.inl x3), some (.inl x4), some (.inl x5), some (.inl x6)], [.inl x2, .inl x5, .inl x3, .inr (some a0)], M)) sm_a161_242 rfl rfl rfl ?_
    refine ru_go (t := (245, [some (.inr (some a0)), some (.inl x1), some (.inl x2), some (.inl x3), some (.inl x4), some (.inl x5), some (.inl x6)], [.inl 11, .inl x2, .inl x5, .inl x3, .inr (some a0)], M)) sm_a161_243 rfl rfl (st_bipush (by decide)) ?_
    refine ru_icmp (pc := 245) (p := 252) (p2 := 248) sm_a161_245 (by decide) rfl ⟨fun hc_2 => ?_, fun hc_2 => ?_⟩
    · have h := h.1 hc_2
      refine ru_go (t := (253, [some (.inr (some a0)), some (.inl x1), some (.inl x2), some (.inl x3), some (.inl x4), some (.inl x5), some (.inl x6)], [.inl 0, .inl x5, .inl x3, .inr (some a0)], M)) sm_a161_252 rfl rfl (st_iconst (by decide)) ?_
      obtain ⟨h_3, h⟩ := h
      exact ru_call (p := 256) sm_a161_253 rfl (sc_virt (Or.inl rfl) rfl rfl h_3 (Nat.le_of_ble_eq_true rfl)) rfl h
    · have h := h.2 hc_2
      refine ru_go (t := (249, [some (.inr (some a0)), some (.inl x1), some (.inl x2), some (.inl x3), some (.inl x4), some (.inl x5), some (.inl x6)], [.inl 1, .inl x5, .inl x3, .inr (some a0)], M)) sm_a161_248 rfl rfl (st_iconst (by decide)) ?_
      refine ru_go (t := (253, [some (.inr (some a0)), some (.inl x1), some (.inl x2), some (.inl x3), some (.inl x4), some (.inl x5), some (.inl x6)], [.inl 1, .inl x5, .inl x3, .inr (some a0)], M)) sm_a161_249 rfl rfl (st_goto (pc := 249) (by decide)) ?_
      obtain ⟨h_4, h⟩ := h
      exact ru_call (p := 256) sm_a161_253 rfl (sc_virt (Or.inl rfl) rfl rfl h_4 (Nat.le_of_ble_eq_true rfl)) rfl h
theorem bb_161_256 {d : Nat} {M : sm_M} {Q : Option sm_V → sm_M → Prop} {a0 : Nat} {x1 : Int32} {x2 : Int32} {x3 : Int32} {x4 : Int32} {x5 : Int32} {x6 : Int32}
    (h : sm_Run (d + 1) 161 17 [some (.inr (some a0)), some (.inl x1), some (.inl x2), some (.inl (x3 + 1)), some (.inl x4), some (.inl x5), some (.inl x6)] [] M Q) :
    sm_Run (d + 1) 161 256 [some (.inr (some a0)), some (.inl x1), some (.inl x2), some (.inl x3), some (.inl x4), some (.inl x5), some (.inl x6)] [] M Q := by
  refine ru_go (t := (277, [some (.inr (some a0)), some (.inl x1), some (.inl x2), some (.inl x3), some (.inl x4), some (.inl x5), some (.inl x6)], [], M)) sm_a161_256 rfl rfl (st_goto (pc := 256) (by decide)) ?_
  refine ru_go (t := (280, [some (.inr (some a0)), some (.inl x1), some (.inl x2), some (.inl (x3 + 1)), some (.inl x4), some (.inl x5), some (.inl x6)], [], M)) sm_a161_277 rfl rfl (st_iinc rfl (by decide)) ?_
  refine ru_go (t := (17, [some (.inr (some a0)), some (.inl x1), some (.inl x2), some (.inl (x3 + 1)), some (.inl x4), some (.inl x5), some (.inl x6)], [], M)) sm_a161_280 rfl rfl (st_goto (pc := 280) (by decide)) ?_
  exact h
theorem bb_161_259 {d : Nat} {M : sm_M} {Q : Option sm_V → sm_M → Prop} {a0 : Nat} {x1 : Int32} {x2 : Int32} {x3 : Int32} {x4 : Int32} {x5 : Int32} {x6 : Int32}
    (h : ((¬ x2 = 2 → sm_Run (d + 1) 161 17 [some (.inr (some a0)), some (.inl x1), some (.inl x2), some (.inl (x3 + 1)), some (.inl x4), some (.inl x5), some (.inl x6)] [] M Q) ∧ (¬ (¬ x2 = 2) → ((¬ x4 = 3 → sm_Run (d + 1) 161 17 [some (.inr (some a0)), some (.inl x1), some (.inl x2), some (.inl (x3 + 1)), some (.inl x4), some (.inl x5), some (.inl x6)] [] M Q) ∧ (¬ (¬ x4 = 3) → sm_K M a0 = 39 ∧ sm_Run d 164 0 (sm_ent 164 [.inr (some a0), .inl x3, .inl x5]) [] M (fun v M1 => sm_Run (d + 1) 161 277 [some (.inr (some a0)), some (.inl x1), some (.inl x2), some (.inl x3), some (.inl x4), some (.inl x5), some (.inl x6)] (v.toList ++ []) M1 Q)))))) :
    sm_Run (d + 1) 161 259 [some (.inr (some a0)), some (.inl x1), some (.inl x2), some (.inl x3), some (.inl x4), some (.inl x5), some (.inl x6)] [] M Q := by
  refine ru_go (t := (260, [some (.inr (some a0)), some (.inl x1), some (.inl x2), some (.inl x3), some (.inl x4), some (.inl x5), some (.inl x6)], [.inl x2], M)) sm_a161_259 rfl rfl rfl ?_
  refine ru_go (t := (261, [some (.inr (some a0)), some (.inl x1), some (.inl x2), some (.inl x3), some (.inl x4), some (.inl x5), some (.inl x6)], [.inl 2, .inl x2], M)) sm_a161_260 rfl rfl (st_iconst (by decide)) ?_
  refine ru_icmp (pc := 261) (p := 277) (p2 := 264) sm_a161_261 (by decide) rfl ⟨fun hc_1 => ?_, fun hc_1 => ?_⟩
  · have h := h.1 hc_1
    refine ru_go (t := (280, [some (.inr (some a0)), some (.inl x1), some (.inl x2), some (.inl (x3 + 1)), some (.inl x4), some (.inl x5), some (.inl x6)], [], M)) sm_a161_277 rfl rfl (st_iinc rfl (by decide)) ?_
    refine ru_go (t := (17, [some (.inr (some a0)), some (.inl x1), some (.inl x2), some (.inl (x3 + 1)), some (.inl x4), some (.inl x5), some (.inl x6)], [], M)) sm_a161_280 rfl rfl (st_goto (pc := 280) (by decide)) ?_
    exact h
  · have h := h.2 hc_1
    refine ru_go (t := (266, [some (.inr (some a0)), some (.inl x1), some (.inl x2), some (.inl x3), some (.inl x4), some (.inl x5), some (.inl x6)], [.inl x4], M)) sm_a161_264 rfl rfl rfl ?_
    refine ru_go (t := (267, [some (.inr (some a0)), some (.inl x1), some (.inl x2), some (.inl x3), some (.inl x4), some (.inl x5), some (.inl x6)], [.inl 3, .inl x4], M)) sm_a161_266 rfl rfl (st_iconst (by decide)) ?_
    refine ru_icmp (pc := 267) (p := 277) (p2 := 270) sm_a161_267 (by decide) rfl ⟨fun hc_2 => ?_, fun hc_2 => ?_⟩
    · have h := h.1 hc_2
      refine ru_go (t := (280, [some (.inr (some a0)), some (.inl x1), some (.inl x2), some (.inl (x3 + 1)), some (.inl x4), some (.inl x5), some (.inl x6)], [], M)) sm_a161_277 rfl rfl (st_iinc rfl (by decide)) ?_
      refine ru_go (t := (17, [some (.inr (some a0)), some (.inl x1), some (.inl x2), some (.inl (x3 + 1)), some (.inl x4), some (.inl x5), some (.inl x6)], [], M)) sm_a161_280 rfl rfl (st_goto (pc := 280) (by decide)) ?_
      exact h
    · have h := h.2 hc_2
      refine ru_go (t := (271, [some (.inr (some a0)), some (.inl x1), some (.inl x2), some (.inl x3), some (.inl x4), some (.inl x5), some (.inl x6)], [.inr (some a0)], M)) sm_a161_270 rfl rfl rfl ?_
      refine ru_go (t := (272, [some (.inr (some a0)), some (.inl x1), some (.inl x2), some (.inl x3), some (.inl x4), some (.inl x5), some (.inl x6)], [.inl x3, .inr (some a0)], M)) sm_a161_271 rfl rfl rfl ?_
      refine ru_go (t := (274, [some (.inr (some a0)), some (.inl x1), some (.inl x2), some (.inl x3), some (.inl x4), some (.inl x5), some (.inl x6)], [.inl x5, .inl x3, .inr (some a0)], M)) sm_a161_272 rfl rfl rfl ?_
      obtain ⟨h_3, h⟩ := h
      exact ru_call (p := 277) sm_a161_274 rfl (sc_virt (Or.inl rfl) rfl rfl h_3 (Nat.le_of_ble_eq_true rfl)) rfl h
theorem bb_161_277 {d : Nat} {M : sm_M} {Q : Option sm_V → sm_M → Prop} {a0 : Nat} {x1 : Int32} {x2 : Int32} {x3 : Int32} {z4 : Option sm_V} {z5 : Option sm_V} {z6 : Option sm_V}
    (h : sm_Run (d + 1) 161 17 [some (.inr (some a0)), some (.inl x1), some (.inl x2), some (.inl (x3 + 1)), z4, z5, z6] [] M Q) :
    sm_Run (d + 1) 161 277 [some (.inr (some a0)), some (.inl x1), some (.inl x2), some (.inl x3), z4, z5, z6] [] M Q := by
  refine ru_go (t := (280, [some (.inr (some a0)), some (.inl x1), some (.inl x2), some (.inl (x3 + 1)), z4, z5, z6], [], M)) sm_a161_277 rfl rfl (st_iinc rfl (by decide)) ?_
  refine ru_go (t := (17, [some (.inr (some a0)), some (.inl x1), some (.inl x2), some (.inl (x3 + 1)), z4, z5, z6], [], M)) sm_a161_280 rfl rfl (st_goto (pc := 280) (by decide)) ?_
  exact h

/-! WireBusModel.asked:(II)V -/
theorem sm_a162_0 : sm_at 162 0 = some (.iload_n 2, 1, (0, 0, 0, 0)) := by decide +kernel
theorem sm_a162_1 : sm_at 162 1 = some (.ifCond .ne 9, 3, (0, 0, 0, 0)) := by decide +kernel
theorem sm_a162_4 : sm_at 162 4 = some (.aload_n 0, 1, (0, 0, 0, 0)) := by decide +kernel
theorem sm_a162_5 : sm_at 162 5 = some (.iload_n 1, 1, (0, 0, 0, 0)) := by decide +kernel
theorem sm_a162_6 : sm_at 162 6 = some (.invokevirtual 293, 3, (10, 163, 12, 1552)) := by decide +kernel
theorem sm_a162_9 : sm_at 162 9 = some (.return_, 1, (0, 0, 0, 0)) := by decide +kernel
theorem sm_a162_10 : sm_at 162 10 = some (.aload_n 0, 1, (0, 0, 0, 0)) := by decide +kernel
theorem sm_a162_11 : sm_at 162 11 = some (.iload_n 1, 1, (0, 0, 0, 0)) := by decide +kernel
theorem sm_a162_12 : sm_at 162 12 = some (.sipush 128, 3, (0, 0, 0, 0)) := by decide +kernel
theorem sm_a162_15 : sm_at 162 15 = some (.iload_n 2, 1, (0, 0, 0, 0)) := by decide +kernel
theorem sm_a162_16 : sm_at 162 16 = some (.iadd, 1, (0, 0, 0, 0)) := by decide +kernel
theorem sm_a162_17 : sm_at 162 17 = some (.invokevirtual 296, 3, (10, 155, 12, 1470)) := by decide +kernel
theorem sm_a162_20 : sm_at 162 20 = some (.istore_n 3, 1, (0, 0, 0, 0)) := by decide +kernel
theorem sm_a162_21 : sm_at 162 21 = some (.iload_n 3, 1, (0, 0, 0, 0)) := by decide +kernel
theorem sm_a162_22 : sm_at 162 22 = some (.iconst (-1), 1, (0, 0, 0, 0)) := by decide +kernel
theorem sm_a162_23 : sm_at 162 23 = some (.if_icmp .eq 13, 3, (0, 0, 0, 0)) := by decide +kernel
theorem sm_a162_26 : sm_at 162 26 = some (.aload_n 0, 1, (0, 0, 0, 0)) := by decide +kernel
theorem sm_a162_27 : sm_at 162 27 = some (.getfield 16, 3, (12, 4, 0, 1187)) := by decide +kernel
theorem sm_a162_30 : sm_at 162 30 = some (.iload_n 1, 1, (0, 0, 0, 0)) := by decide +kernel
theorem sm_a162_31 : sm_at 162 31 = some (.iaload, 1, (0, 0, 0, 0)) := by decide +kernel
theorem sm_a162_32 : sm_at 162 32 = some (.iconst 3, 1, (0, 0, 0, 0)) := by decide +kernel
theorem sm_a162_33 : sm_at 162 33 = some (.if_icmp .eq 4, 3, (0, 0, 0, 0)) := by decide +kernel
theorem sm_a162_36 : sm_at 162 36 = some (.return_, 1, (0, 0, 0, 0)) := by decide +kernel
theorem sm_a162_37 : sm_at 162 37 = some (.aload_n 0, 1, (0, 0, 0, 0)) := by decide +kernel
theorem sm_a162_38 : sm_at 162 38 = some (.getfield 46, 3, (12, 14, 0, 1197)) := by decide +kernel
theorem sm_a162_41 : sm_at 162 41 = some (.iload_n 3, 1, (0, 0, 0, 0)) := by decide +kernel
theorem sm_a162_42 : sm_at 162 42 = some (.baload, 1, (0, 0, 0, 0)) := by decide +kernel
theorem sm_a162_43 : sm_at 162 43 = some (.ifCond .eq 14, 3, (0, 0, 0, 0)) := by decide +kernel
theorem sm_a162_46 : sm_at 162 46 = some (.aload_n 0, 1, (0, 0, 0, 0)) := by decide +kernel
theorem sm_a162_47 : sm_at 162 47 = some (.iload_n 1, 1, (0, 0, 0, 0)) := by decide +kernel
theorem sm_a162_48 : sm_at 162 48 = some (.bipush 14, 2, (0, 0, 0, 0)) := by decide +kernel
theorem sm_a162_50 : sm_at 162 50 = some (.iconst 0, 1, (0, 0, 0, 0)) := by decide +kernel
theorem sm_a162_51 : sm_at 162 51 = some (.invokevirtual 284, 3, (10, 160, 12, 1556)) := by decide +kernel
theorem sm_a162_54 : sm_at 162 54 = some (.goto 164, 3, (0, 0, 0, 0)) := by decide +kernel
theorem sm_a162_57 : sm_at 162 57 = some (.aload_n 0, 1, (0, 0, 0, 0)) := by decide +kernel
theorem sm_a162_58 : sm_at 162 58 = some (.getfield 53, 3, (12, 16, 0, 1199)) := by decide +kernel
theorem sm_a162_61 : sm_at 162 61 = some (.iload_n 3, 1, (0, 0, 0, 0)) := by decide +kernel
theorem sm_a162_62 : sm_at 162 62 = some (.iaload, 1, (0, 0, 0, 0)) := by decide +kernel
theorem sm_a162_63 : sm_at 162 63 = some (.iconst (-1), 1, (0, 0, 0, 0)) := by decide +kernel
theorem sm_a162_64 : sm_at 162 64 = some (.if_icmp .ne 23, 3, (0, 0, 0, 0)) := by decide +kernel
theorem sm_a162_67 : sm_at 162 67 = some (.aload_n 0, 1, (0, 0, 0, 0)) := by decide +kernel
theorem sm_a162_68 : sm_at 162 68 = some (.getfield 50, 3, (12, 15, 0, 1198)) := by decide +kernel
theorem sm_a162_71 : sm_at 162 71 = some (.iload_n 3, 1, (0, 0, 0, 0)) := by decide +kernel
theorem sm_a162_72 : sm_at 162 72 = some (.iaload, 1, (0, 0, 0, 0)) := by decide +kernel
theorem sm_a162_73 : sm_at 162 73 = some (.ifCond .ne 14, 3, (0, 0, 0, 0)) := by decide +kernel
theorem sm_a162_76 : sm_at 162 76 = some (.aload_n 0, 1, (0, 0, 0, 0)) := by decide +kernel
theorem sm_a162_77 : sm_at 162 77 = some (.iload_n 1, 1, (0, 0, 0, 0)) := by decide +kernel
theorem sm_a162_78 : sm_at 162 78 = some (.bipush 10, 2, (0, 0, 0, 0)) := by decide +kernel
theorem sm_a162_80 : sm_at 162 80 = some (.iconst 0, 1, (0, 0, 0, 0)) := by decide +kernel
theorem sm_a162_81 : sm_at 162 81 = some (.invokevirtual 284, 3, (10, 160, 12, 1556)) := by decide +kernel
theorem sm_a162_84 : sm_at 162 84 = some (.goto 134, 3, (0, 0, 0, 0)) := by decide +kernel
theorem sm_a162_87 : sm_at 162 87 = some (.aload_n 0, 1, (0, 0, 0, 0)) := by decide +kernel
theorem sm_a162_88 : sm_at 162 88 = some (.getfield 53, 3, (12, 16, 0, 1199)) := by decide +kernel
theorem sm_a162_91 : sm_at 162 91 = some (.iload_n 3, 1, (0, 0, 0, 0)) := by decide +kernel
theorem sm_a162_92 : sm_at 162 92 = some (.iaload, 1, (0, 0, 0, 0)) := by decide +kernel
theorem sm_a162_93 : sm_at 162 93 = some (.iconst (-1), 1, (0, 0, 0, 0)) := by decide +kernel
theorem sm_a162_94 : sm_at 162 94 = some (.if_icmp .ne 39, 3, (0, 0, 0, 0)) := by decide +kernel
theorem sm_a162_97 : sm_at 162 97 = some (.aload_n 0, 1, (0, 0, 0, 0)) := by decide +kernel
theorem sm_a162_98 : sm_at 162 98 = some (.getfield 53, 3, (12, 16, 0, 1199)) := by decide +kernel
theorem sm_a162_101 : sm_at 162 101 = some (.iload_n 3, 1, (0, 0, 0, 0)) := by decide +kernel
theorem sm_a162_102 : sm_at 162 102 = some (.aload_n 0, 1, (0, 0, 0, 0)) := by decide +kernel
theorem sm_a162_103 : sm_at 162 103 = some (.getfield 50, 3, (12, 15, 0, 1198)) := by decide +kernel
theorem sm_a162_106 : sm_at 162 106 = some (.iload_n 3, 1, (0, 0, 0, 0)) := by decide +kernel
theorem sm_a162_107 : sm_at 162 107 = some (.iaload, 1, (0, 0, 0, 0)) := by decide +kernel
theorem sm_a162_108 : sm_at 162 108 = some (.aload_n 0, 1, (0, 0, 0, 0)) := by decide +kernel
theorem sm_a162_109 : sm_at 162 109 = some (.getfield 37, 3, (12, 11, 0, 1194)) := by decide +kernel
theorem sm_a162_112 : sm_at 162 112 = some (.iload_n 3, 1, (0, 0, 0, 0)) := by decide +kernel
theorem sm_a162_113 : sm_at 162 113 = some (.iaload, 1, (0, 0, 0, 0)) := by decide +kernel
theorem sm_a162_114 : sm_at 162 114 = some (.if_icmp .ge 12, 3, (0, 0, 0, 0)) := by decide +kernel
theorem sm_a162_117 : sm_at 162 117 = some (.aload_n 0, 1, (0, 0, 0, 0)) := by decide +kernel
theorem sm_a162_118 : sm_at 162 118 = some (.getfield 50, 3, (12, 15, 0, 1198)) := by decide +kernel
theorem sm_a162_121 : sm_at 162 121 = some (.iload_n 3, 1, (0, 0, 0, 0)) := by decide +kernel
theorem sm_a162_122 : sm_at 162 122 = some (.iaload, 1, (0, 0, 0, 0)) := by decide +kernel
theorem sm_a162_123 : sm_at 162 123 = some (.goto 9, 3, (0, 0, 0, 0)) := by decide +kernel
theorem sm_a162_126 : sm_at 162 126 = some (.aload_n 0, 1, (0, 0, 0, 0)) := by decide +kernel
theorem sm_a162_127 : sm_at 162 127 = some (.getfield 37, 3, (12, 11, 0, 1194)) := by decide +kernel
theorem sm_a162_130 : sm_at 162 130 = some (.iload_n 3, 1, (0, 0, 0, 0)) := by decide +kernel
theorem sm_a162_131 : sm_at 162 131 = some (.iaload, 1, (0, 0, 0, 0)) := by decide +kernel
theorem sm_a162_132 : sm_at 162 132 = some (.iastore, 1, (1, 0, 0, 0)) := by decide +kernel
theorem sm_a162_133 : sm_at 162 133 = some (.iconst 0, 1, (0, 0, 0, 0)) := by decide +kernel
theorem sm_a162_134 : sm_at 162 134 = some (.istore 4, 2, (0, 0, 0, 0)) := by decide +kernel
theorem sm_a162_136 : sm_at 162 136 = some (.iload 4, 2, (0, 0, 0, 0)) := by decide +kernel
theorem sm_a162_138 : sm_at 162 138 = some (.aload_n 0, 1, (0, 0, 0, 0)) := by decide +kernel
theorem sm_a162_139 : sm_at 162 139 = some (.getfield 53, 3, (12, 16, 0, 1199)) := by decide +kernel
theorem sm_a162_142 : sm_at 162 142 = some (.iload_n 3, 1, (0, 0, 0, 0)) := by decide +kernel
theorem sm_a162_143 : sm_at 162 143 = some (.iaload, 1, (0, 0, 0, 0)) := by decide +kernel
theorem sm_a162_144 : sm_at 162 144 = some (.if_icmp .ge 29, 3, (0, 0, 0, 0)) := by decide +kernel
theorem sm_a162_147 : sm_at 162 147 = some (.aload_n 0, 1, (0, 0, 0, 0)) := by decide +kernel
theorem sm_a162_148 : sm_at 162 148 = some (.getfield 143, 3, (12, 52, 0, 1235)) := by decide +kernel
theorem sm_a162_151 : sm_at 162 151 = some (.iload 4, 2, (0, 0, 0, 0)) := by decide +kernel
theorem sm_a162_153 : sm_at 162 153 = some (.aload_n 0, 1, (0, 0, 0, 0)) := by decide +kernel
theorem sm_a162_154 : sm_at 162 154 = some (.getfield 56, 3, (12, 17, 0, 1200)) := by decide +kernel
theorem sm_a162_157 : sm_at 162 157 = some (.sipush 256, 3, (0, 0, 0, 0)) := by decide +kernel
theorem sm_a162_160 : sm_at 162 160 = some (.iload_n 3, 1, (0, 0, 0, 0)) := by decide +kernel
theorem sm_a162_161 : sm_at 162 161 = some (.imul, 1, (0, 0, 0, 0)) := by decide +kernel
theorem sm_a162_162 : sm_at 162 162 = some (.iload 4, 2, (0, 0, 0, 0)) := by decide +kernel
theorem sm_a162_164 : sm_at 162 164 = some (.iadd, 1, (0, 0, 0, 0)) := by decide +kernel
theorem sm_a162_165 : sm_at 162 165 = some (.iaload, 1, (0, 0, 0, 0)) := by decide +kernel
theorem sm_a162_166 : sm_at 162 166 = some (.iastore, 1, (1, 0, 0, 0)) := by decide +kernel
theorem sm_a162_167 : sm_at 162 167 = some (.iinc 4 1, 3, (0, 0, 0, 0)) := by decide +kernel
theorem sm_a162_170 : sm_at 162 170 = some (.goto (-34), 3, (0, 0, 0, 0)) := by decide +kernel
theorem sm_a162_173 : sm_at 162 173 = some (.aload_n 0, 1, (0, 0, 0, 0)) := by decide +kernel
theorem sm_a162_174 : sm_at 162 174 = some (.iload_n 1, 1, (0, 0, 0, 0)) := by decide +kernel
theorem sm_a162_175 : sm_at 162 175 = some (.aload_n 0, 1, (0, 0, 0, 0)) := by decide +kernel
theorem sm_a162_176 : sm_at 162 176 = some (.getfield 43, 3, (12, 13, 0, 1196)) := by decide +kernel
theorem sm_a162_179 : sm_at 162 179 = some (.iload_n 3, 1, (0, 0, 0, 0)) := by decide +kernel
theorem sm_a162_180 : sm_at 162 180 = some (.iaload, 1, (0, 0, 0, 0)) := by decide +kernel
theorem sm_a162_181 : sm_at 162 181 = some (.iconst 1, 1, (0, 0, 0, 0)) := by decide +kernel
theorem sm_a162_182 : sm_at 162 182 = some (.if_icmp .ne 8, 3, (0, 0, 0, 0)) := by decide +kernel
theorem sm_a162_185 : sm_at 162 185 = some (.bipush 11, 2, (0, 0, 0, 0)) := by decide +kernel
theorem sm_a162_187 : sm_at 162 187 = some (.goto 4, 3, (0, 0, 0, 0)) := by decide +kernel
theorem sm_a162_190 : sm_at 162 190 = some (.iconst 3, 1, (0, 0, 0, 0)) := by decide +kernel
theorem sm_a162_191 : sm_at 162 191 = some (.aload_n 0, 1, (0, 0, 0, 0)) := by decide +kernel
theorem sm_a162_192 : sm_at 162 192 = some (.getfield 53, 3, (12, 16, 0, 1199)) := by decide +kernel
theorem sm_a162_195 : sm_at 162 195 = some (.iload_n 3, 1, (0, 0, 0, 0)) := by decide +kernel
theorem sm_a162_196 : sm_at 162 196 = some (.iaload, 1, (0, 0, 0, 0)) := by decide +kernel
theorem sm_a162_197 : sm_at 162 197 = some (.invokevirtual 284, 3, (10, 160, 12, 1556)) := by decide +kernel
theorem sm_a162_200 : sm_at 162 200 = some (.aload_n 0, 1, (0, 0, 0, 0)) := by decide +kernel
theorem sm_a162_201 : sm_at 162 201 = some (.getfield 62, 3, (12, 19, 0, 1202)) := by decide +kernel
theorem sm_a162_204 : sm_at 162 204 = some (.iload_n 1, 1, (0, 0, 0, 0)) := by decide +kernel
theorem sm_a162_205 : sm_at 162 205 = some (.iconst 3, 1, (0, 0, 0, 0)) := by decide +kernel
theorem sm_a162_206 : sm_at 162 206 = some (.iastore, 1, (1, 0, 0, 0)) := by decide +kernel
theorem sm_a162_207 : sm_at 162 207 = some (.aload_n 0, 1, (0, 0, 0, 0)) := by decide +kernel
theorem sm_a162_208 : sm_at 162 208 = some (.getfield 65, 3, (12, 20, 0, 1203)) := by decide +kernel
theorem sm_a162_211 : sm_at 162 211 = some (.iload_n 1, 1, (0, 0, 0, 0)) := by decide +kernel
theorem sm_a162_212 : sm_at 162 212 = some (.sipush 128, 3, (0, 0, 0, 0)) := by decide +kernel
theorem sm_a162_215 : sm_at 162 215 = some (.iload_n 2, 1, (0, 0, 0, 0)) := by decide +kernel
theorem sm_a162_216 : sm_at 162 216 = some (.iadd, 1, (0, 0, 0, 0)) := by decide +kernel
theorem sm_a162_217 : sm_at 162 217 = some (.iastore, 1, (1, 0, 0, 0)) := by decide +kernel
theorem sm_a162_218 : sm_at 162 218 = some (.return_, 1, (0, 0, 0, 0)) := by decide +kernel
theorem bb_162_0 {d : Nat} {M : sm_M} {Q : Option sm_V → sm_M → Prop} {a0 : Nat} {x1 : Int32} {x2 : Int32} {z3 : Option sm_V} {z4 : Option sm_V}
    (h : ((¬ x2 = 0 → sm_K M a0 = 39 ∧ sm_Run d 155 0 (sm_ent 155 [.inr (some a0), .inl x1, .inl (128 + x2)]) [] M (fun v M1 => sm_Run (d + 1) 162 20 [some (.inr (some a0)), some (.inl x1), some (.inl x2), z3, z4] (v.toList ++ []) M1 Q)) ∧ (¬ (¬ x2 = 0) → sm_K M a0 = 39 ∧ sm_Run d 163 0 (sm_ent 163 [.inr (some a0), .inl x1]) [] M (fun v M1 => sm_Run (d + 1) 162 9 [some (.inr (some a0)), some (.inl x1), some (.inl x2), z3, z4] (v.toList ++ []) M1 Q)))) :
    sm_Run (d + 1) 162 0 [some (.inr (some a0)), some (.inl x1), some (.inl x2), z3, z4] [] M Q := by
  refine ru_go (t := (1, [some (.inr (some a0)), some (.inl x1), some (.inl x2), z3, z4], [.inl x2], M)) sm_a162_0 rfl rfl rfl ?_
  refine ru_if (pc := 1) (p := 10) (p2 := 4) sm_a162_1 (by decide) rfl ⟨fun hc_1 => ?_, fun hc_1 => ?_⟩
  · have h := h.1 hc_1
    refine ru_go (t := (11, [some (.inr (some a0)), some (.inl x1), some (.inl x2), z3, z4], [.inr (some a0)], M)) sm_a162_10 rfl rfl rfl ?_
    refine ru_go (t := (12, [some (.inr (some a0)), some (.inl x1), some (.inl x2), z3, z4], [.inl x1, .inr (some a0)], M)) sm_a162_11 rfl rfl rfl ?_
    refine ru_go (t := (15, [some (.inr (some a0)), some (.inl x1), some (.inl x2), z3, z4], [.inl 128, .inl x1, .inr (some a0)], M)) sm_a162_12 rfl rfl (st_sipush (by decide)) ?_
    refine ru_go (t := (16, [some (.inr (some a0)), some (.inl x1), some (.inl x2), z3, z4], [.inl x2, .inl 128, .inl x1, .inr (some a0)], M)) sm_a162_15 rfl rfl rfl ?_
    refine ru_go (t := (17, [some (.inr (some a0)), some (.inl x1), some (.inl x2), z3, z4], [.inl (128 + x2), .inl x1, .inr (some a0)], M)) sm_a162_16 rfl rfl rfl ?_
    obtain ⟨h_2, h⟩ := h
    exact ru_call (p := 20) sm_a162_17 rfl (sc_virt (Or.inl rfl) rfl rfl h_2 (Nat.le_of_ble_eq_true rfl)) rfl h
  · have h := h.2 hc_1
    refine ru_go (t := (5, [some (.inr (some a0)), some (.inl x1), some (.inl x2), z3, z4], [.inr (some a0)], M)) sm_a162_4 rfl rfl rfl ?_
    refine ru_go (t := (6, [some (.inr (some a0)), some (.inl x1), some (.inl x2), z3, z4], [.inl x1, .inr (some a0)], M)) sm_a162_5 rfl rfl rfl ?_
    obtain ⟨h_3, h⟩ := h
    exact ru_call (p := 9) sm_a162_6 rfl (sc_virt (Or.inl rfl) rfl rfl h_3 (Nat.le_of_ble_eq_true rfl)) rfl h
theorem bb_162_9 {d : Nat} {M : sm_M} {Q : Option sm_V → sm_M → Prop} {a0 : Nat} {x1 : Int32} {x2 : Int32} {z3 : Option sm_V} {z4 : Option sm_V}
    (h : Q none M) :
    sm_Run (d + 1) 162 9 [some (.inr (some a0)), some (.inl x1), some (.inl x2), z3, z4] [] M Q := by
  exact ru_ret sm_a162_9 (sm_rvv rfl) h
theorem bb_162_20 {d : Nat} {M : sm_M} {Q : Option sm_V → sm_M → Prop} {a0 : Nat} {x1 : Int32} {x2 : Int32} {z3 : Option sm_V} {z4 : Option sm_V} {y0 : Int32}
    (h : ((y0 = (-1) → Q none M) ∧ (¬ (y0 = (-1)) → sm_K M a0 = 39 ∧ ∃ b_3, sm_R M a0 4 = some b_3 ∧ sm_iA M b_3 ∧ sm_in_ M b_3 x1 ∧ (((sm_I M b_3 (x1).toNatClampNeg) = 3 → ∃ b_8, sm_R M a0 14 = some b_8 ∧ sm_wZ 1 M b_8 ∧ sm_in_ M b_8 y0 ∧ (((sm_I M b_8 (y0).toNatClampNeg) = 0 → ∃ b_13, sm_R M a0 16 = some b_13 ∧ sm_iA M b_13 ∧ sm_in_ M b_13 y0 ∧ ((¬ (sm_I M b_13 (y0).toNatClampNeg) = (-1) → sm_Run (d + 1) 162 87 [some (.inr (some a0)), some (.inl x1), some (.inl x2), some (.inl y0), z4] [] M Q) ∧ (¬ (¬ (sm_I M b_13 (y0).toNatClampNeg) = (-1)) → ∃ b_18, sm_R M a0 15 = some b_18 ∧ sm_iA M b_18 ∧ sm_in_ M b_18 y0 ∧ ((¬ (sm_I M b_18 (y0).toNatClampNeg) = 0 → sm_Run (d + 1) 162 87 [some (.inr (some a0)), some (.inl x1), some (.inl x2), some (.inl y0), z4] [] M Q) ∧ (¬ (¬ (sm_I M b_18 (y0).toNatClampNeg) = 0) → sm_Run d 160 0 (sm_ent 160 [.inr (some a0), .inl x1, .inl 10, .inl 0]) [] M (fun v M1 => sm_Run (d + 1) 162 84 [some (.inr (some a0)), some (.inl x1), some (.inl x2), some (.inl y0), z4] (v.toList ++ []) M1 Q)))))) ∧ (¬ ((sm_I M b_8 (y0).toNatClampNeg) = 0) → sm_Run d 160 0 (sm_ent 160 [.inr (some a0), .inl x1, .inl 14, .inl 0]) [] M (fun v M1 => sm_Run (d + 1) 162 54 [some (.inr (some a0)), some (.inl x1), some (.inl x2), some (.inl y0), z4] (v.toList ++ []) M1 Q)))) ∧ (¬ ((sm_I M b_3 (x1).toNatClampNeg) = 3) → Q none M))))) :
    sm_Run (d + 1) 162 20 [some (.inr (some a0)), some (.inl x1), some (.inl x2), z3, z4] [.inl y0] M Q := by
  refine ru_go (t := (21, [some (.inr (some a0)), some (.inl x1), some (.inl x2), some (.inl y0), z4], [], M)) sm_a162_20 rfl rfl rfl ?_
  refine ru_go (t := (22, [some (.inr (some a0)), some (.inl x1), some (.inl x2), some (.inl y0), z4], [.inl y0], M)) sm_a162_21 rfl rfl rfl ?_
  refine ru_go (t := (23, [some (.inr (some a0)), some (.inl x1), some (.inl x2), some (.inl y0), z4], [.inl (-1), .inl y0], M)) sm_a162_22 rfl rfl (st_iconst (by decide)) ?_
  refine ru_icmp (pc := 23) (p := 36) (p2 := 26) sm_a162_23 (by decide) rfl ⟨fun hc_1 => ?_, fun hc_1 => ?_⟩
  · have h := h.1 hc_1
    exact ru_ret sm_a162_36 (sm_rvv rfl) h
  · have h := h.2 hc_1
    refine ru_go (t := (27, [some (.inr (some a0)), some (.inl x1), some (.inl x2), some (.inl y0), z4], [.inr (some a0)], M)) sm_a162_26 rfl rfl rfl ?_
    obtain ⟨h_2, h⟩ := h
    refine ru_go (t := (30, [some (.inr (some a0)), some (.inl x1), some (.inl x2), some (.inl y0), z4], [.inr (sm_R M a0 4)], M)) sm_a162_27 rfl rfl (st_getR h_2 rfl rfl) ?_
    refine ru_go (t := (31, [some (.inr (some a0)), some (.inl x1), some (.inl x2), some (.inl y0), z4], [.inl x1, .inr (sm_R M a0 4)], M)) sm_a162_30 rfl rfl rfl ?_
    obtain ⟨b_3, hb_4, h⟩ := h
    rw [hb_4]
    obtain ⟨h_5, h⟩ := h
    obtain ⟨h_6, h⟩ := h
    refine ru_go (t := (32, [some (.inr (some a0)), some (.inl x1), some (.inl x2), some (.inl y0), z4], [.inl (sm_I M b_3 (x1).toNatClampNeg)], M)) sm_a162_31 rfl rfl (st_iald h_5 h_6) ?_
    refine ru_go (t := (33, [some (.inr (some a0)), some (.inl x1), some (.inl x2), some (.inl y0), z4], [.inl 3, .inl (sm_I M b_3 (x1).toNatClampNeg)], M)) sm_a162_32 rfl rfl (st_iconst (by decide)) ?_
    refine ru_icmp (pc := 33) (p := 37) (p2 := 36) sm_a162_33 (by decide) rfl ⟨fun hc_7 => ?_, fun hc_7 => ?_⟩
    · have h := h.1 hc_7
      refine ru_go (t := (38, [some (.inr (some a0)), some (.inl x1), some (.inl x2), some (.inl y0), z4], [.inr (some a0)], M)) sm_a162_37 rfl rfl rfl ?_
      refine ru_go (t := (41, [some (.inr (some a0)), some (.inl x1), some (.inl x2), some (.inl y0), z4], [.inr (sm_R M a0 14)], M)) sm_a162_38 rfl rfl (st_getR h_2 rfl rfl) ?_
      refine ru_go (t := (42, [some (.inr (some a0)), some (.inl x1), some (.inl x2), some (.inl y0), z4], [.inl y0, .inr (sm_R M a0 14)], M)) sm_a162_41 rfl rfl rfl ?_
      obtain ⟨b_8, hb_9, h⟩ := h
      rw [hb_9]
      obtain ⟨h_10, h⟩ := h
      obtain ⟨h_11, h⟩ := h
      refine ru_go (t := (43, [some (.inr (some a0)), some (.inl x1), some (.inl x2), some (.inl y0), z4], [.inl (sm_I M b_8 (y0).toNatClampNeg)], M)) sm_a162_42 rfl rfl (st_zald h_10 h_11) ?_
      refine ru_if (pc := 43) (p := 57) (p2 := 46) sm_a162_43 (by decide) rfl ⟨fun hc_12 => ?_, fun hc_12 => ?_⟩
      · have h := h.1 hc_12
        refine ru_go (t := (58, [some (.inr (some a0)), some (.inl x1), some (.inl x2), some (.inl y0), z4], [.inr (some a0)], M)) sm_a162_57 rfl rfl rfl ?_
        refine ru_go (t := (61, [some (.inr (some a0)), some (.inl x1), some (.inl x2), some (.inl y0), z4], [.inr (sm_R M a0 16)], M)) sm_a162_58 rfl rfl (st_getR h_2 rfl rfl) ?_
        refine ru_go (t := (62, [some (.inr (some a0)), some (.inl x1), some (.inl x2), some (.inl y0), z4], [.inl y0, .inr (sm_R M a0 16)], M)) sm_a162_61 rfl rfl rfl ?_
        obtain ⟨b_13, hb_14, h⟩ := h
        rw [hb_14]
        obtain ⟨h_15, h⟩ := h
        obtain ⟨h_16, h⟩ := h
        refine ru_go (t := (63, [some (.inr (some a0)), some (.inl x1), some (.inl x2), some (.inl y0), z4], [.inl (sm_I M b_13 (y0).toNatClampNeg)], M)) sm_a162_62 rfl rfl (st_iald h_15 h_16) ?_
        refine ru_go (t := (64, [some (.inr (some a0)), some (.inl x1), some (.inl x2), some (.inl y0), z4], [.inl (-1), .inl (sm_I M b_13 (y0).toNatClampNeg)], M)) sm_a162_63 rfl rfl (st_iconst (by decide)) ?_
        refine ru_icmp (pc := 64) (p := 87) (p2 := 67) sm_a162_64 (by decide) rfl ⟨fun hc_17 => ?_, fun hc_17 => ?_⟩
        · have h := h.1 hc_17
          exact h
        · have h := h.2 hc_17
          refine ru_go (t := (68, [some (.inr (some a0)), some (.inl x1), some (.inl x2), some (.inl y0), z4], [.inr (some a0)], M)) sm_a162_67 rfl rfl rfl ?_
          refine ru_go (t := (71, [some (.inr (some a0)), some (.inl x1), some (.inl x2), some (.inl y0), z4], [.inr (sm_R M a0 15)], M)) sm_a162_68 rfl rfl (st_getR h_2 rfl rfl) ?_
          refine ru_go (t := (72, [some (.inr (some a0)), some (.inl x1), some (.inl x2), some (.inl y0), z4], [.inl y0, .inr (sm_R M a0 15)], M)) sm_a162_71 rfl rfl rfl ?_
          obtain ⟨b_18, hb_19, h⟩ := h
          rw [hb_19]
          obtain ⟨h_20, h⟩ := h
          obtain ⟨h_21, h⟩ := h
          refine ru_go (t := (73, [some (.inr (some a0)), some (.inl x1), some (.inl x2), some (.inl y0), z4], [.inl (sm_I M b_18 (y0).toNatClampNeg)], M)) sm_a162_72 rfl rfl (st_iald h_20 h_21) ?_
          refine ru_if (pc := 73) (p := 87) (p2 := 76) sm_a162_73 (by decide) rfl ⟨fun hc_22 => ?_, fun hc_22 => ?_⟩
          · have h := h.1 hc_22
            exact h
          · have h := h.2 hc_22
            refine ru_go (t := (77, [some (.inr (some a0)), some (.inl x1), some (.inl x2), some (.inl y0), z4], [.inr (some a0)], M)) sm_a162_76 rfl rfl rfl ?_
            refine ru_go (t := (78, [some (.inr (some a0)), some (.inl x1), some (.inl x2), some (.inl y0), z4], [.inl x1, .inr (some a0)], M)) sm_a162_77 rfl rfl rfl ?_
            refine ru_go (t := (80, [some (.inr (some a0)), some (.inl x1), some (.inl x2), some (.inl y0), z4], [.inl 10, .inl x1, .inr (some a0)], M)) sm_a162_78 rfl rfl (st_bipush (by decide)) ?_
            refine ru_go (t := (81, [some (.inr (some a0)), some (.inl x1), some (.inl x2), some (.inl y0), z4], [.inl 0, .inl 10, .inl x1, .inr (some a0)], M)) sm_a162_80 rfl rfl (st_iconst (by decide)) ?_
            exact ru_call (p := 84) sm_a162_81 rfl (sc_virt (Or.inl rfl) rfl rfl h_2 (Nat.le_of_ble_eq_true rfl)) rfl h
      · have h := h.2 hc_12
        refine ru_go (t := (47, [some (.inr (some a0)), some (.inl x1), some (.inl x2), some (.inl y0), z4], [.inr (some a0)], M)) sm_a162_46 rfl rfl rfl ?_
        refine ru_go (t := (48, [some (.inr (some a0)), some (.inl x1), some (.inl x2), some (.inl y0), z4], [.inl x1, .inr (some a0)], M)) sm_a162_47 rfl rfl rfl ?_
        refine ru_go (t := (50, [some (.inr (some a0)), some (.inl x1), some (.inl x2), some (.inl y0), z4], [.inl 14, .inl x1, .inr (some a0)], M)) sm_a162_48 rfl rfl (st_bipush (by decide)) ?_
        refine ru_go (t := (51, [some (.inr (some a0)), some (.inl x1), some (.inl x2), some (.inl y0), z4], [.inl 0, .inl 14, .inl x1, .inr (some a0)], M)) sm_a162_50 rfl rfl (st_iconst (by decide)) ?_
        exact ru_call (p := 54) sm_a162_51 rfl (sc_virt (Or.inl rfl) rfl rfl h_2 (Nat.le_of_ble_eq_true rfl)) rfl h
    · have h := h.2 hc_7
      exact ru_ret sm_a162_36 (sm_rvv rfl) h
theorem bb_162_54 {d : Nat} {M : sm_M} {Q : Option sm_V → sm_M → Prop} {a0 : Nat} {x1 : Int32} {x2 : Int32} {x3 : Int32} {z4 : Option sm_V}
    (h : Q none M) :
    sm_Run (d + 1) 162 54 [some (.inr (some a0)), some (.inl x1), some (.inl x2), some (.inl x3), z4] [] M Q := by
  refine ru_go (t := (218, [some (.inr (some a0)), some (.inl x1), some (.inl x2), some (.inl x3), z4], [], M)) sm_a162_54 rfl rfl (st_goto (pc := 54) (by decide)) ?_
  exact ru_ret sm_a162_218 (sm_rvv rfl) h
theorem bb_162_84 {d : Nat} {M : sm_M} {Q : Option sm_V → sm_M → Prop} {a0 : Nat} {x1 : Int32} {x2 : Int32} {x3 : Int32} {z4 : Option sm_V}
    (h : Q none M) :
    sm_Run (d + 1) 162 84 [some (.inr (some a0)), some (.inl x1), some (.inl x2), some (.inl x3), z4] [] M Q := by
  refine ru_go (t := (218, [some (.inr (some a0)), some (.inl x1), some (.inl x2), some (.inl x3), z4], [], M)) sm_a162_84 rfl rfl (st_goto (pc := 84) (by decide)) ?_
  exact ru_ret sm_a162_218 (sm_rvv rfl) h
theorem bb_162_87 {d : Nat} {M : sm_M} {Q : Option sm_V → sm_M → Prop} {a0 : Nat} {x1 : Int32} {x2 : Int32} {x3 : Int32} {z4 : Option sm_V}
    (h : sm_K M a0 = 39 ∧ ∃ b_2, sm_R M a0 16 = some b_2 ∧ sm_iA M b_2 ∧ sm_in_ M b_2 x3 ∧ ((¬ (sm_I M b_2 (x3).toNatClampNeg) = (-1) → sm_Run (d + 1) 162 136 [some (.inr (some a0)), some (.inl x1), some (.inl x2), some (.inl x3), some (.inl 0)] [] M Q) ∧ (¬ (¬ (sm_I M b_2 (x3).toNatClampNeg) = (-1)) → ∃ b_7, sm_R M a0 15 = some b_7 ∧ sm_iA M b_7 ∧ sm_in_ M b_7 x3 ∧ ∃ b_11, sm_R M a0 11 = some b_11 ∧ sm_iA M b_11 ∧ sm_in_ M b_11 x3 ∧ (((sm_I M b_11 (x3).toNatClampNeg) ≤ (sm_I M b_7 (x3).toNatClampNeg) → ∃ b_16, sm_R M a0 11 = some b_16 ∧ sm_iA M b_16 ∧ sm_in_ M b_16 x3 ∧ ∃ b_20, sm_R M a0 16 = some b_20 ∧ sm_wA 1 M b_20 ∧ sm_in_ M b_20 x3 ∧ sm_Run (d + 1) 162 136 [some (.inr (some a0)), some (.inl x1), some (.inl x2), some (.inl x3), some (.inl 0)] [] (sm_putI M b_20 (x3).toNatClampNeg (sm_I M b_16 (x3).toNatClampNeg)) Q) ∧ (¬ ((sm_I M b_11 (x3).toNatClampNeg) ≤ (sm_I M b_7 (x3).toNatClampNeg)) → ∃ b_24, sm_R M a0 15 = some b_24 ∧ sm_iA M b_24 ∧ sm_in_ M b_24 x3 ∧ ∃ b_28, sm_R M a0 16 = some b_28 ∧ sm_wA 1 M b_28 ∧ sm_in_ M b_28 x3 ∧ sm_Run (d + 1) 162 136 [some (.inr (some a0)), some (.inl x1), some (.inl x2), some (.inl x3), some (.inl 0)] [] (sm_putI M b_28 (x3).toNatClampNeg (sm_I M b_24 (x3).toNatClampNeg)) Q))))) :
    sm_Run (d + 1) 162 87 [some (.inr (some a0)), some (.inl x1), some (.inl x2), some (.inl x3), z4] [] M Q := by
  refine ru_go (t := (88, [some (.inr (some a0)), some (.inl x1), some (.inl x2), some (.inl x3), z4], [.inr (some a0)], M)) sm_a162_87 rfl rfl rfl ?_
  obtain ⟨h_1, h⟩ := h
  refine ru_go (t := (91, [some (.inr (some a0)), some (.inl x1), some (.inl x2), some (.inl x3), z4], [.inr (sm_R M a0 16)], M)) sm_a162_88 rfl rfl (st_getR h_1 rfl rfl) ?_
  refine ru_go (t := (92, [some (.inr (some a0)), some (.inl x1), some (.inl x2), some (.inl x3), z4], [.inl x3, .inr (sm_R M a0 16)], M)) sm_a162_91 rfl rfl rfl ?_
  obtain ⟨b_2, hb_3, h⟩ := h
  rw [hb_3]
  obtain ⟨h_4, h⟩ := h
  obtain ⟨h_5, h⟩ := h
  refine ru_go (t := (93, [some (.inr (some a0)), some (.inl x1), some (.inl x2), some (.inl x3), z4], [.inl (sm_I M b_2 (x3).toNatClampNeg)], M)) sm_a162_92 rfl rfl (st_iald h_4 h_5) ?_
  refine ru_go (t := (94, [some (.inr (some a0)), some (.inl x1), some (.inl x2), some (.inl x3), z4], [.inl (-1), .inl (sm_I M b_2 (x3).toNatClampNeg)], M)) sm_a162_93 rfl rfl (st_iconst (by decide)) ?_
  refine ru_icmp (pc := 94) (p := 133) (p2 := 97) sm_a162_94 (by decide) rfl ⟨fun hc_6 => ?_, fun hc_6 => ?_⟩
  · have h := h.1 hc_6
    refine ru_go (t := (134, [some (.inr (some a0)), some (.inl x1), some (.inl x2), some (.inl x3), z4], [.inl 0], M)) sm_a162_133 rfl rfl (st_iconst (by decide)) ?_
    refine ru_go (t := (136, [some (.inr (some a0)), some (.inl x1), some (.inl x2), some (.inl x3), some (.inl 0)], [], M)) sm_a162_134 rfl rfl rfl ?_
    exact h
  · have h := h.2 hc_6
    refine ru_go (t := (98, [some (.inr (some a0)), some (.inl x1), some (.inl x2), some (.inl x3), z4], [.inr (some a0)], M)) sm_a162_97 rfl rfl rfl ?_
    refine ru_go (t := (101, [some (.inr (some a0)), some (.inl x1), some (.inl x2), some (.inl x3), z4], [.inr (sm_R M a0 16)], M)) sm_a162_98 rfl rfl (st_getR h_1 rfl rfl) ?_
    refine ru_go (t := (102, [some (.inr (some a0)), some (.inl x1), some (.inl x2), some (.inl x3), z4], [.inl x3, .inr (sm_R M a0 16)], M)) sm_a162_101 rfl rfl rfl ?_
    refine ru_go (t := (103, [some (.inr (some a0)), some (.inl x1), some (.inl x2), some (.inl x3), z4], [.inr (some a0), .inl x3, .inr (sm_R M a0 16)], M)) sm_a162_102 rfl rfl rfl ?_
    refine ru_go (t := (106, [some (.inr (some a0)), some (.inl x1), some (.inl x2), some (.inl x3), z4], [.inr (sm_R M a0 15), .inl x3, .inr (sm_R M a0 16)], M)) sm_a162_103 rfl rfl (st_getR h_1 rfl rfl) ?_
    refine ru_go (t := (107, [some (.inr (some a0)), some (.inl x1), some (.inl x2), some (.inl x3), z4], [.inl x3, .inr (sm_R M a0 15), .inl x3, .inr (sm_R M a0 16)], M)) sm_a162_106 rfl rfl rfl ?_
    obtain ⟨b_7, hb_8, h⟩ := h
    rw [hb_8]
    obtain ⟨h_9, h⟩ := h
    obtain ⟨h_10, h⟩ := h
    refine ru_go (t := (108, [some (.inr (some a0)), some (.inl x1), some (.inl x2), some (.inl x3), z4], [.inl (sm_I M b_7 (x3).toNatClampNeg), .inl x3, .inr (sm_R M a0 16)], M)) sm_a162_107 rfl rfl (st_iald h_9 h_10) ?_
    refine ru_go (t := (109, [some (.inr (some a0)), some (.inl x1), some (.inl x2), some (.inl x3), z4], [.inr (some a0), .inl (sm_I M b_7 (x3).toNatClampNeg), .inl x3, .inr (sm_R M a0 16)], M)) sm_a162_108 rfl rfl rfl ?_
    refine ru_go (t := (112, [some (.inr (some a0)), some (.inl x1), some (.inl x2), some (.inl x3), z4], [.inr (sm_R M a0 11), .inl (sm_I M b_7 (x3).toNatClampNeg), .inl x3, .inr (sm_R M a0 16)], M)) sm_a162_109 rfl rfl (st_getR h_1 rfl rfl) ?_
    refine ru_go (t := (113, [some (.inr (some a0)), some (.inl x1), some (.inl x2), some (.inl x3), z4], [.inl x3, .inr (sm_R M a0 11), .inl (sm_I M b_7 (x3).toNatClampNeg), .inl x3, .inr (sm_R M a0 16)], M)) sm_a162_112 rfl rfl rfl ?_
    obtain ⟨b_11, hb_12, h⟩ := h
    rw [hb_12]
    obtain ⟨h_13, h⟩ := h
    obtain ⟨h_14, h⟩ := h
    refine ru_go (t := (114, [some (.inr (some a0)), some (.inl x1), some (.inl x2), some (.inl x3), z4], [.inl (sm_I M b_11 (x3).toNatClampNeg), .inl (sm_I M b_7 (x3).toNatClampNeg), .inl x3, .inr (sm_R M a0 16)], M)) sm_a162_113 rfl rfl (st_iald h_13 h_14) ?_
    refine ru_icmp (pc := 114) (p := 126) (p2 := 117) sm_a162_114 (by decide) rfl ⟨fun hc_15 => ?_, fun hc_15 => ?_⟩
    · have h := h.1 hc_15
      refine ru_go (t := (127, [some (.inr (some a0)), some (.inl x1), some (.inl x2), some (.inl x3), z4], [.inr (some a0), .inl x3, .inr (sm_R M a0 16)], M)) sm_a162_126 rfl rfl rfl ?_
      refine ru_go (t := (130, [some (.inr (some a0)), some (.inl x1), some (.inl x2), some (.inl x3), z4], [.inr (sm_R M a0 11), .inl x3, .inr (sm_R M a0 16)], M)) sm_a162_127 rfl rfl (st_getR h_1 rfl rfl) ?_
      refine ru_go (t := (131, [some (.inr (some a0)), some (.inl x1), some (.inl x2), some (.inl x3), z4], [.inl x3, .inr (sm_R M a0 11), .inl x3, .inr (sm_R M a0 16)], M)) sm_a162_130 rfl rfl rfl ?_
      obtain ⟨b_16, hb_17, h⟩ := h
      rw [hb_17]
      obtain ⟨h_18, h⟩ := h
      obtain ⟨h_19, h⟩ := h
      refine ru_go (t := (132, [some (.inr (some a0)), some (.inl x1), some (.inl x2), some (.inl x3), z4], [.inl (sm_I M b_16 (x3).toNatClampNeg), .inl x3, .inr (sm_R M a0 16)], M)) sm_a162_131 rfl rfl (st_iald h_18 h_19) ?_
      obtain ⟨b_20, hb_21, h⟩ := h
      rw [hb_21]
      obtain ⟨h_22, h⟩ := h
      obtain ⟨h_23, h⟩ := h
      refine ru_go (t := (133, [some (.inr (some a0)), some (.inl x1), some (.inl x2), some (.inl x3), z4], [], sm_putI M b_20 (x3).toNatClampNeg (sm_I M b_16 (x3).toNatClampNeg))) sm_a162_132 rfl rfl (st_iast h_22 h_23) ?_
      refine ru_go (t := (134, [some (.inr (some a0)), some (.inl x1), some (.inl x2), some (.inl x3), z4], [.inl 0], sm_putI M b_20 (x3).toNatClampNeg (sm_I M b_16 (x3).toNatClampNeg))) sm_a162_133 rfl rfl (st_iconst (by decide)) ?_
      refine ru_go (t := (136, [some (.inr (some a0)), some (.inl x1), some (.inl x2), some (.inl x3), some (.inl 0)], [], sm_putI M b_20 (x3).toNatClampNeg (sm_I M b_16 (x3).toNatClampNeg))) sm_a162_134 rfl rfl rfl ?_
      exact h
    · have h := h.2 hc_15
      refine ru_go (t := (118, [some (.inr (some a0)), some (.inl x1), some (.inl x2), some (.inl x3), z4], [.inr (some a0), .inl x3, .inr (sm_R M a0 16)], M)) sm_a162_117 rfl rfl rfl ?_
      refine ru_go (t := (121, [some (.inr (some a0)), some (.inl x1), some (.inl x2), some (.inl x3), z4], [.inr (sm_R M a0 15), .inl x3, .inr (sm_R M a0 16)], M)) sm_a162_118 rfl rfl (st_getR h_1 rfl rfl) ?_
      refine ru_go (t := (122, [some (.inr (some a0)), some (.inl x1), some (.inl x2), some (.inl x3), z4], [.inl x3, .inr (sm_R M a0 15), .inl x3, .inr (sm_R M a0 16)], M)) sm_a162_121 rfl rfl rfl ?_
      obtain ⟨b_24, hb_25, h⟩ := h
      rw [hb_25]
      obtain ⟨h_26, h⟩ := h
      obtain ⟨h_27, h⟩ := h
      refine ru_go (t := (123, [some (.inr (some a0)), some (.inl x1), some (.inl x2), some (.inl x3), z4], [.inl (sm_I M b_24 (x3).toNatClampNeg), .inl x3, .inr (sm_R M a0 16)], M)) sm_a162_122 rfl rfl (st_iald h_26 h_27) ?_
      refine ru_go (t := (132, [some (.inr (some a0)), some (.inl x1), some (.inl x2), some (.inl x3), z4], [.inl (sm_I M b_24 (x3).toNatClampNeg), .inl x3, .inr (sm_R M a0 16)], M)) sm_a162_123 rfl rfl (st_goto (pc := 123) (by decide)) ?_
      obtain ⟨b_28, hb_29, h⟩ := h
      rw [hb_29]
      obtain ⟨h_30, h⟩ := h
      obtain ⟨h_31, h⟩ := h
      refine ru_go (t := (133, [some (.inr (some a0)), some (.inl x1), some (.inl x2), some (.inl x3), z4], [], sm_putI M b_28 (x3).toNatClampNeg (sm_I M b_24 (x3).toNatClampNeg))) sm_a162_132 rfl rfl (st_iast h_30 h_31) ?_
      refine ru_go (t := (134, [some (.inr (some a0)), some (.inl x1), some (.inl x2), some (.inl x3), z4], [.inl 0], sm_putI M b_28 (x3).toNatClampNeg (sm_I M b_24 (x3).toNatClampNeg))) sm_a162_133 rfl rfl (st_iconst (by decide)) ?_
      refine ru_go (t := (136, [some (.inr (some a0)), some (.inl x1), some (.inl x2), some (.inl x3), some (.inl 0)], [], sm_putI M b_28 (x3).toNatClampNeg (sm_I M b_24 (x3).toNatClampNeg))) sm_a162_134 rfl rfl rfl ?_
      exact h
theorem bb_162_136 {d : Nat} {M : sm_M} {Q : Option sm_V → sm_M → Prop} {a0 : Nat} {x1 : Int32} {x2 : Int32} {x3 : Int32} {x4 : Int32}
    (h : sm_K M a0 = 39 ∧ ∃ b_2, sm_R M a0 16 = some b_2 ∧ sm_iA M b_2 ∧ sm_in_ M b_2 x3 ∧ (((sm_I M b_2 (x3).toNatClampNeg) ≤ x4 → ∃ b_7, sm_R M a0 13 = some b_7 ∧ sm_iA M b_7 ∧ sm_in_ M b_7 x3 ∧ ((¬ (sm_I M b_7 (x3).toNatClampNeg) = 1 → ∃ b_12, sm_R M a0 16 = some b_12 ∧ sm_iA M b_12 ∧ sm_in_ M b_12 x3 ∧ sm_Run d 160 0 (sm_ent 160 [.inr (some a0), .inl x1, .inl 3, .inl (sm_I M b_12 (x3).toNatClampNeg)]) [] M (fun v M1 => sm_Run (d + 1) 162 200 [some (.inr (some a0)), some (.inl x1), some (.inl x2), some (.inl x3), some (.inl x4)] (v.toList ++ []) M1 Q)) ∧ (¬ (¬ (sm_I M b_7 (x3).toNatClampNeg) = 1) → ∃ b_16, sm_R M a0 16 = some b_16 ∧ sm_iA M b_16 ∧ sm_in_ M b_16 x3 ∧ sm_Run d 160 0 (sm_ent 160 [.inr (some a0), .inl x1, .inl 11, .inl (sm_I M b_16 (x3).toNatClampNeg)]) [] M (fun v M1 => sm_Run (d + 1) 162 200 [some (.inr (some a0)), some (.inl x1), some (.inl x2), some (.inl x3), some (.inl x4)] (v.toList ++ []) M1 Q)))) ∧ (¬ ((sm_I M b_2 (x3).toNatClampNeg) ≤ x4) → ∃ b_20, sm_R M a0 17 = some b_20 ∧ sm_iA M b_20 ∧ sm_in_ M b_20 ((256 * x3) + x4) ∧ ∃ b_24, sm_R M a0 52 = some b_24 ∧ sm_wA 1 M b_24 ∧ sm_in_ M b_24 x4 ∧ sm_Run (d + 1) 162 136 [some (.inr (some a0)), some (.inl x1), some (.inl x2), some (.inl x3), some (.inl (x4 + 1))] [] (sm_putI M b_24 (x4).toNatClampNeg (sm_I M b_20 ((256 * x3) + x4).toNatClampNeg)) Q))) :
    sm_Run (d + 1) 162 136 [some (.inr (some a0)), some (.inl x1), some (.inl x2), some (.inl x3), some (.inl x4)] [] M Q := by
  refine ru_go (t := (138, [some (.inr (some a0)), some (.inl x1), some (.inl x2), some (.inl x3), some (.inl x4)], [.inl x4], M)) sm_a162_136 rfl rfl rfl ?_
  refine ru_go (t := (139, [some (.inr (some a0)), some (.inl x1), some (.inl x2), some (.inl x3), some (.inl x4)], [.inr (some a0), .inl x4], M)) sm_a162_138 rfl rfl rfl ?_
  obtain ⟨h_1, h⟩ := h
  refine ru_go (t := (142, [some (.inr (some a0)), some (.inl x1), some (.inl x2), some (.inl x3), some (.inl x4)], [.inr (sm_R M a0 16), .inl x4], M)) sm_a162_139 rfl rfl (st_getR h_1 rfl rfl) ?_
  refine ru_go (t := (143, [some (.inr (some a0)), some (.inl x1), some (.inl x2), some (.inl x3), some (.inl x4)], [.inl x3, .inr (sm_R M a0 16), .inl x4], M)) sm_a162_142 rfl rfl rfl ?_
  obtain ⟨b_2, hb_3, h⟩ := h
  rw [hb_3]
  obtain ⟨h_4, h⟩ := h
  obtain ⟨h_5, h⟩ := h
  refine ru_go (t := (144, [some (.inr (some a0)), some (.inl x1), some (.inl x2), some (.inl x3), some (.inl x4)], [.inl (sm_I M b_2 (x3).toNatClampNeg), .inl x4], M)) sm_a162_143 rfl rfl (st_iald h_4 h_5) ?_
  refine ru_icmp (pc := 144) (p := 173) (p2 := 147) sm_a162_144 (by decide) rfl ⟨fun hc_6 => ?_, fun hc_6 => ?_⟩
  · have h := h.1 hc_6
    refine ru_go (t := (174, [some (.inr (some a0)), some (.inl x1), some (.inl x2), some (.inl x3), some (.inl x4)], [.inr (some a0)], M)) sm_a162_173 rfl rfl rfl ?_
    refine ru_go (t := (175, [some (.inr (some a0)), some (.inl x1), some (.inl x2), some (.inl x3), some (.inl x4)], [.inl x1, .inr (some a0)], M)) sm_a162_174 rfl rfl rfl ?_
    refine ru_go (t := (176, [some (.inr (some a0)), some (.inl x1), some (.inl x2), some (.inl x3), some (.inl x4)], [.inr (some a0), .inl x1, .inr (some a0)], M)) sm_a162_175 rfl rfl rfl ?_
    refine ru_go (t := (179, [some (.inr (some a0)), some (.inl x1), some (.inl x2), some (.inl x3), some (.inl x4)], [.inr (sm_R M a0 13), .inl x1, .inr (some a0)], M)) sm_a162_176 rfl rfl (st_getR h_1 rfl rfl) ?_
    refine ru_go (t := (180, [some (.inr (some a0)), some (.inl x1), some (.inl x2), some (.inl x3), some (.inl x4)], [.inl x3, .inr (sm_R M a0 13), .inl x1, .inr (some a0)], M)) sm_a162_179 rfl rfl rfl ?_
    obtain ⟨b_7, hb_8, h⟩ := h
    rw [hb_8]
    obtain ⟨h_9, h⟩ := h
    obtain ⟨h_10, h⟩ := h
    refine ru_go (t := (181, [some (.inr (some a0)), some (.inl x1), some (.inl x2), some (.inl x3), some (.inl x4)], [.inl (sm_I M b_7 (x3).toNatClampNeg), .inl x1, .inr (some a0)], M)) sm_a162_180 rfl rfl (st_iald h_9 h_10) ?_
    refine ru_go (t := (182, [some (.inr (some a0)), some (.inl x1), some (.inl x2), some (.inl x3), some (.inl x4)], [.inl 1, .inl (sm_I M b_7 (x3).toNatClampNeg), .inl x1, .inr (some a0)], M)) sm_a162_181 rfl rfl (st_iconst (by decide)) ?_
    refine ru_icmp (pc := 182) (p := 190) (p2 := 185) sm_a162_182 (by decide) rfl ⟨fun hc_11 => ?_, fun hc_11 => ?_⟩
    · have h := h.1 hc_11
      refine ru_go (t := (191, [some (.inr (some a0)), some (.inl x1), some (.inl x2), some (.inl x3), some (.inl x4)], [.inl 3, .inl x1, .inr (some a0)], M)) sm_a162_190 rfl rfl (st_iconst (by decide)) ?_
      refine ru_go (t := (192, [some (.inr (some a0)), some (.inl x1), some (.inl x2), some (.inl x3), some (.inl x4)], [.inr (some a0), .inl 3, .inl x1, .inr (some a0)], M)) sm_a162_191 rfl rfl rfl ?_
      refine ru_go (t := (195, [some (.inr (some a0)), some (.inl x1), some (.inl x2), some (.inl x3), some (.inl x4)], [.inr (sm_R M a0 16), .inl 3, .inl x1, .inr (some a0)], M)) sm_a162_192 rfl rfl (st_getR h_1 rfl rfl) ?_
      refine ru_go (t := (196, [some (.inr (some a0)), some (.inl x1), some (.inl x2), some (.inl x3), some (.inl x4)], [.inl x3, .inr (sm_R M a0 16), .inl 3, .inl x1, .inr (some a0)], M)) sm_a162_195 rfl rfl rfl ?_
      obtain ⟨b_12, hb_13, h⟩ := h
      rw [hb_13]
      obtain ⟨h_14, h⟩ := h
      obtain ⟨h_15, h⟩ := h
      refine ru_go (t := (197, [some (.inr (some a0)), some (.inl x1), some (.inl x2), some (.inl x3), some (.inl x4)], [.inl (sm_I M b_12 (x3).toNatClampNeg), .inl 3, .inl x1, .inr (some a0)], M)) sm_a162_196 rfl rfl (st_iald h_14 h_15) ?_
      exact ru_call (p := 200) sm_a162_197 rfl (sc_virt (Or.inl rfl) rfl rfl h_1 (Nat.le_of_ble_eq_true rfl)) rfl h
    · have h := h.2 hc_11
      refine ru_go (t := (187, [some (.inr (some a0)), some (.inl x1), some (.inl x2), some (.inl x3), some (.inl x4)], [.inl 11, .inl x1, .inr (some a0)], M)) sm_a162_185 rfl rfl (st_bipush (by decide)) ?_
      refine ru_go (t := (191, [some (.inr (some a0)), some (.inl x1), some (.inl x2), some (.inl x3), some (.inl x4)], [.inl 11, .inl x1, .inr (some a0)], M)) sm_a162_187 rfl rfl (st_goto (pc := 187) (by decide)) ?_
      refine ru_go (t := (192, [some (.inr (some a0)), some (.inl x1), some (.inl x2), some (.inl x3), some (.inl x4)], [.inr (some a0), .inl 11, .inl x1, .inr (some a0)], M)) sm_a162_191 rfl rfl rfl ?_
      refine ru_go (t := (195, [some (.inr (some a0)), some (.inl x1), some (.inl x2), some (.inl x3), some (.inl x4)], [.inr (sm_R M a0 16), .inl 11, .inl x1, .inr (some a0)], M)) sm_a162_192 rfl rfl (st_getR h_1 rfl rfl) ?_
      refine ru_go (t := (196, [some (.inr (some a0)), some (.inl x1), some (.inl x2), some (.inl x3), some (.inl x4)], [.inl x3, .inr (sm_R M a0 16), .inl 11, .inl x1, .inr (some a0)], M)) sm_a162_195 rfl rfl rfl ?_
      obtain ⟨b_16, hb_17, h⟩ := h
      rw [hb_17]
      obtain ⟨h_18, h⟩ := h
      obtain ⟨h_19, h⟩ := h
      refine ru_go (t := (197, [some (.inr (some a0)), some (.inl x1), some (.inl x2), some (.inl x3), some (.inl x4)], [.inl (sm_I M b_16 (x3).toNatClampNeg), .inl 11, .inl x1, .inr (some a0)], M)) sm_a162_196 rfl rfl (st_iald h_18 h_19) ?_
      exact ru_call (p := 200) sm_a162_197 rfl (sc_virt (Or.inl rfl) rfl rfl h_1 (Nat.le_of_ble_eq_true rfl)) rfl h
  · have h := h.2 hc_6
    refine ru_go (t := (148, [some (.inr (some a0)), some (.inl x1), some (.inl x2), some (.inl x3), some (.inl x4)], [.inr (some a0)], M)) sm_a162_147 rfl rfl rfl ?_
    refine ru_go (t := (151, [some (.inr (some a0)), some (.inl x1), some (.inl x2), some (.inl x3), some (.inl x4)], [.inr (sm_R M a0 52)], M)) sm_a162_148 rfl rfl (st_getR h_1 rfl rfl) ?_
    refine ru_go (t := (153, [some (.inr (some a0)), some (.inl x1), some (.inl x2), some (.inl x3), some (.inl x4)], [.inl x4, .inr (sm_R M a0 52)], M)) sm_a162_151 rfl rfl rfl ?_
    refine ru_go (t := (154, [some (.inr (some a0)), some (.inl x1), some (.inl x2), some (.inl x3), some (.inl x4)], [.inr (some a0), .inl x4, .inr (sm_R M a0 52)], M)) sm_a162_153 rfl rfl rfl ?_
    refine ru_go (t := (157, [some (.inr (some a0)), some (.inl x1), some (.inl x2), some (.inl x3), some (.inl x4)], [.inr (sm_R M a0 17), .inl x4, .inr (sm_R M a0 52)], M)) sm_a162_154 rfl rfl (st_getR h_1 rfl rfl) ?_
    refine ru_go (t := (160, [some (.inr (some a0)), some (.inl x1), some (.inl x2), some (.inl x3), some (.inl x4)], [.inl 256, .inr (sm_R M a0 17), .inl x4, .inr (sm_R M a0 52)], M)) sm_a162_157 rfl rfl (st_sipush (by decide)) ?_
    refine ru_go (t := (161, [some (.inr (some a0)), some (.inl x1), some (.inl x2), some (.inl x3), some (.inl x4)], [.inl x3, .inl 256, .inr (sm_R M a0 17), .inl x4, .inr (sm_R M a0 52)], M)) sm_a162_160 rfl rfl rfl ?_
    refine ru_go (t := (162, [some (.inr (some a0)), some (.inl x1), some (.inl x2), some (.inl x3), some (.inl x4)], [.inl (256 * x3), .inr (sm_R M a0 17), .inl x4, .inr (sm_R M a0 52)], M)) sm_a162_161 rfl rfl rfl ?_
    refine ru_go (t := (164, [some (.inr (some a0)), some (.inl x1), some (.inl x2), some (.inl x3), some (.inl x4)], [.inl x4, .inl (256 * x3), .inr (sm_R M a0 17), .inl x4, .inr (sm_R M a0 52)], M)) sm_a162_162 rfl rfl rfl ?_
    refine ru_go (t := (165, [some (.inr (some a0)), some (.inl x1), some (.inl x2), some (.inl x3), some (.inl x4)], [.inl ((256 * x3) + x4), .inr (sm_R M a0 17), .inl x4, .inr (sm_R M a0 52)], M)) sm_a162_164 rfl rfl rfl ?_
    obtain ⟨b_20, hb_21, h⟩ := h
    rw [hb_21]
    obtain ⟨h_22, h⟩ := h
    obtain ⟨h_23, h⟩ := h
    refine ru_go (t := (166, [some (.inr (some a0)), some (.inl x1), some (.inl x2), some (.inl x3), some (.inl x4)], [.inl (sm_I M b_20 ((256 * x3) + x4).toNatClampNeg), .inl x4, .inr (sm_R M a0 52)], M)) sm_a162_165 rfl rfl (st_iald h_22 h_23) ?_
    obtain ⟨b_24, hb_25, h⟩ := h
    rw [hb_25]
    obtain ⟨h_26, h⟩ := h
    obtain ⟨h_27, h⟩ := h
    refine ru_go (t := (167, [some (.inr (some a0)), some (.inl x1), some (.inl x2), some (.inl x3), some (.inl x4)], [], sm_putI M b_24 (x4).toNatClampNeg (sm_I M b_20 ((256 * x3) + x4).toNatClampNeg))) sm_a162_166 rfl rfl (st_iast h_26 h_27) ?_
    refine ru_go (t := (170, [some (.inr (some a0)), some (.inl x1), some (.inl x2), some (.inl x3), some (.inl (x4 + 1))], [], sm_putI M b_24 (x4).toNatClampNeg (sm_I M b_20 ((256 * x3) + x4).toNatClampNeg))) sm_a162_167 rfl rfl (st_iinc rfl (by decide)) ?_
    refine ru_go (t := (136, [some (.inr (some a0)), some (.inl x1), some (.inl x2), some (.inl x3), some (.inl (x4 + 1))], [], sm_putI M b_24 (x4).toNatClampNeg (sm_I M b_20 ((256 * x3) + x4).toNatClampNeg))) sm_a162_170 rfl rfl (st_goto (pc := 170) (by decide)) ?_
    exact h
theorem bb_162_200 {d : Nat} {M : sm_M} {Q : Option sm_V → sm_M → Prop} {a0 : Nat} {x1 : Int32} {x2 : Int32} {x3 : Int32} {x4 : Int32}
    (h : sm_K M a0 = 39 ∧ ∃ b_2, sm_R M a0 19 = some b_2 ∧ sm_wA 1 M b_2 ∧ sm_in_ M b_2 x1 ∧ ∃ b_6, sm_R (sm_putI M b_2 (x1).toNatClampNeg 3) a0 20 = some b_6 ∧ sm_wA 1 M b_6 ∧ sm_in_ M b_6 x1 ∧ Q none (sm_putI (sm_putI M b_2 (x1).toNatClampNeg 3) b_6 (x1).toNatClampNeg (128 + x2))) :
    sm_Run (d + 1) 162 200 [some (.inr (some a0)), some (.inl x1), some (.inl x2), some (.inl x3), some (.inl x4)] [] M Q := by
  refine ru_go (t := (201, [some (.inr (some a0)), some (.inl x1), some (.inl x2), some (.inl x3), some (.inl x4)], [.inr (some a0)], M)) sm_a162_200 rfl rfl rfl ?_
  obtain ⟨h_1, h⟩ := h
  refine ru_go (t := (204, [some (.inr (some a0)), some (.inl x1), some (.inl x2), some (.inl x3), some (.inl x4)], [.inr (sm_R M a0 19)], M)) sm_a162_201 rfl rfl (st_getR h_1 rfl rfl) ?_
  refine ru_go (t := (205, [some (.inr (some a0)), some (.inl x1), some (.inl x2), some (.inl x3), some (.inl x4)], [.inl x1, .inr (sm_R M a0 19)], M)) sm_a162_204 rfl rfl rfl ?_
  refine ru_go (t := (206, [some (.inr (some a0)), some (.inl x1), some (.inl x2), some (.inl x3), some (.inl x4)], [.inl 3, .inl x1, .inr (sm_R M a0 19)], M)) sm_a162_205 rfl rfl (st_iconst (by decide)) ?_
  obtain ⟨b_2, hb_3, h⟩ := h
  rw [hb_3]
  obtain ⟨h_4, h⟩ := h
  obtain ⟨h_5, h⟩ := h
  refine ru_go (t := (207, [some (.inr (some a0)), some (.inl x1), some (.inl x2), some (.inl x3), some (.inl x4)], [], sm_putI M b_2 (x1).toNatClampNeg 3)) sm_a162_206 rfl rfl (st_iast h_4 h_5) ?_
  refine ru_go (t := (208, [some (.inr (some a0)), some (.inl x1), some (.inl x2), some (.inl x3), some (.inl x4)], [.inr (some a0)], sm_putI M b_2 (x1).toNatClampNeg 3)) sm_a162_207 rfl rfl rfl ?_
  refine ru_go (t := (211, [some (.inr (some a0)), some (.inl x1), some (.inl x2), some (.inl x3), some (.inl x4)], [.inr (sm_R (sm_putI M b_2 (x1).toNatClampNeg 3) a0 20)], sm_putI M b_2 (x1).toNatClampNeg 3)) sm_a162_208 rfl rfl (st_getR h_1 rfl rfl) ?_
  refine ru_go (t := (212, [some (.inr (some a0)), some (.inl x1), some (.inl x2), some (.inl x3), some (.inl x4)], [.inl x1, .inr (sm_R (sm_putI M b_2 (x1).toNatClampNeg 3) a0 20)], sm_putI M b_2 (x1).toNatClampNeg 3)) sm_a162_211 rfl rfl rfl ?_
  refine ru_go (t := (215, [some (.inr (some a0)), some (.inl x1), some (.inl x2), some (.inl x3), some (.inl x4)], [.inl 128, .inl x1, .inr (sm_R (sm_putI M b_2 (x1).toNatClampNeg 3) a0 20)], sm_putI M b_2 (x1).toNatClampNeg 3)) sm_a162_212 rfl rfl (st_sipush (by decide)) ?_
  refine ru_go (t := (216, [some (.inr (some a0)), some (.inl x1), some (.inl x2), some (.inl x3), some (.inl x4)], [.inl x2, .inl 128, .inl x1, .inr (sm_R (sm_putI M b_2 (x1).toNatClampNeg 3) a0 20)], sm_putI M b_2 (x1).toNatClampNeg 3)) sm_a162_215 rfl rfl rfl ?_
  refine ru_go (t := (217, [some (.inr (some a0)), some (.inl x1), some (.inl x2), some (.inl x3), some (.inl x4)], [.inl (128 + x2), .inl x1, .inr (sm_R (sm_putI M b_2 (x1).toNatClampNeg 3) a0 20)], sm_putI M b_2 (x1).toNatClampNeg 3)) sm_a162_216 rfl rfl rfl ?_
  obtain ⟨b_6, hb_7, h⟩ := h
  rw [hb_7]
  obtain ⟨h_8, h⟩ := h
  obtain ⟨h_9, h⟩ := h
  refine ru_go (t := (218, [some (.inr (some a0)), some (.inl x1), some (.inl x2), some (.inl x3), some (.inl x4)], [], sm_putI (sm_putI M b_2 (x1).toNatClampNeg 3) b_6 (x1).toNatClampNeg (128 + x2))) sm_a162_217 rfl rfl (st_iast h_8 h_9) ?_
  exact ru_ret sm_a162_218 (sm_rvv rfl) h

/-! WireBusModel.askedAtZero:(I)V -/
theorem sm_a163_0 : sm_at 163 0 = some (.aload_n 0, 1, (0, 0, 0, 0)) := by decide +kernel
theorem sm_a163_1 : sm_at 163 1 = some (.getfield 68, 3, (12, 21, 0, 1204)) := by decide +kernel
theorem sm_a163_4 : sm_at 163 4 = some (.iload_n 1, 1, (0, 0, 0, 0)) := by decide +kernel
theorem sm_a163_5 : sm_at 163 5 = some (.iaload, 1, (0, 0, 0, 0)) := by decide +kernel
theorem sm_a163_6 : sm_at 163 6 = some (.istore_n 2, 1, (0, 0, 0, 0)) := by decide +kernel
theorem sm_a163_7 : sm_at 163 7 = some (.iload_n 2, 1, (0, 0, 0, 0)) := by decide +kernel
theorem sm_a163_8 : sm_at 163 8 = some (.iconst 2, 1, (0, 0, 0, 0)) := by decide +kernel
theorem sm_a163_9 : sm_at 163 9 = some (.if_icmp .ne 41, 3, (0, 0, 0, 0)) := by decide +kernel
theorem sm_a163_12 : sm_at 163 12 = some (.aload_n 0, 1, (0, 0, 0, 0)) := by decide +kernel
theorem sm_a163_13 : sm_at 163 13 = some (.getfield 89, 3, (12, 28, 0, 1211)) := by decide +kernel
theorem sm_a163_16 : sm_at 163 16 = some (.iload_n 1, 1, (0, 0, 0, 0)) := by decide +kernel
theorem sm_a163_17 : sm_at 163 17 = some (.iaload, 1, (0, 0, 0, 0)) := by decide +kernel
theorem sm_a163_18 : sm_at 163 18 = some (.iconst (-1), 1, (0, 0, 0, 0)) := by decide +kernel
theorem sm_a163_19 : sm_at 163 19 = some (.if_icmp .ne 31, 3, (0, 0, 0, 0)) := by decide +kernel
theorem sm_a163_22 : sm_at 163 22 = some (.aload_n 0, 1, (0, 0, 0, 0)) := by decide +kernel
theorem sm_a163_23 : sm_at 163 23 = some (.getfield 83, 3, (12, 26, 0, 1209)) := by decide +kernel
theorem sm_a163_26 : sm_at 163 26 = some (.iload_n 1, 1, (0, 0, 0, 0)) := by decide +kernel
theorem sm_a163_27 : sm_at 163 27 = some (.iaload, 1, (0, 0, 0, 0)) := by decide +kernel
theorem sm_a163_28 : sm_at 163 28 = some (.aload_n 0, 1, (0, 0, 0, 0)) := by decide +kernel
theorem sm_a163_29 : sm_at 163 29 = some (.getfield 77, 3, (12, 24, 0, 1207)) := by decide +kernel
theorem sm_a163_32 : sm_at 163 32 = some (.iload_n 1, 1, (0, 0, 0, 0)) := by decide +kernel
theorem sm_a163_33 : sm_at 163 33 = some (.iaload, 1, (0, 0, 0, 0)) := by decide +kernel
theorem sm_a163_34 : sm_at 163 34 = some (.if_icmp .eq 12, 3, (0, 0, 0, 0)) := by decide +kernel
theorem sm_a163_37 : sm_at 163 37 = some (.aload_n 0, 1, (0, 0, 0, 0)) := by decide +kernel
theorem sm_a163_38 : sm_at 163 38 = some (.getfield 86, 3, (12, 27, 0, 1210)) := by decide +kernel
theorem sm_a163_41 : sm_at 163 41 = some (.iload_n 1, 1, (0, 0, 0, 0)) := by decide +kernel
theorem sm_a163_42 : sm_at 163 42 = some (.baload, 1, (0, 0, 0, 0)) := by decide +kernel
theorem sm_a163_43 : sm_at 163 43 = some (.ifCond .eq 7, 3, (0, 0, 0, 0)) := by decide +kernel
theorem sm_a163_46 : sm_at 163 46 = some (.iconst 1, 1, (0, 0, 0, 0)) := by decide +kernel
theorem sm_a163_47 : sm_at 163 47 = some (.goto 4, 3, (0, 0, 0, 0)) := by decide +kernel
theorem sm_a163_50 : sm_at 163 50 = some (.iconst 0, 1, (0, 0, 0, 0)) := by decide +kernel
theorem sm_a163_51 : sm_at 163 51 = some (.istore_n 3, 1, (0, 0, 0, 0)) := by decide +kernel
theorem sm_a163_52 : sm_at 163 52 = some (.iload_n 2, 1, (0, 0, 0, 0)) := by decide +kernel
theorem sm_a163_53 : sm_at 163 53 = some (.iconst 1, 1, (0, 0, 0, 0)) := by decide +kernel
theorem sm_a163_54 : sm_at 163 54 = some (.if_icmp .eq 7, 3, (0, 0, 0, 0)) := by decide +kernel
theorem sm_a163_57 : sm_at 163 57 = some (.iload_n 3, 1, (0, 0, 0, 0)) := by decide +kernel
theorem sm_a163_58 : sm_at 163 58 = some (.ifCond .eq 21, 3, (0, 0, 0, 0)) := by decide +kernel
theorem sm_a163_61 : sm_at 163 61 = some (.aload_n 0, 1, (0, 0, 0, 0)) := by decide +kernel
theorem sm_a163_62 : sm_at 163 62 = some (.getfield 68, 3, (12, 21, 0, 1204)) := by decide +kernel
theorem sm_a163_65 : sm_at 163 65 = some (.iload_n 1, 1, (0, 0, 0, 0)) := by decide +kernel
theorem sm_a163_66 : sm_at 163 66 = some (.iconst 1, 1, (0, 0, 0, 0)) := by decide +kernel
theorem sm_a163_67 : sm_at 163 67 = some (.iastore, 1, (1, 0, 0, 0)) := by decide +kernel
theorem sm_a163_68 : sm_at 163 68 = some (.aload_n 0, 1, (0, 0, 0, 0)) := by decide +kernel
theorem sm_a163_69 : sm_at 163 69 = some (.iload_n 1, 1, (0, 0, 0, 0)) := by decide +kernel
theorem sm_a163_70 : sm_at 163 70 = some (.bipush 14, 2, (0, 0, 0, 0)) := by decide +kernel
theorem sm_a163_72 : sm_at 163 72 = some (.iconst 0, 1, (0, 0, 0, 0)) := by decide +kernel
theorem sm_a163_73 : sm_at 163 73 = some (.invokevirtual 284, 3, (10, 160, 12, 1556)) := by decide +kernel
theorem sm_a163_76 : sm_at 163 76 = some (.goto 189, 3, (0, 0, 0, 0)) := by decide +kernel
theorem sm_a163_79 : sm_at 163 79 = some (.iload_n 2, 1, (0, 0, 0, 0)) := by decide +kernel
theorem sm_a163_80 : sm_at 163 80 = some (.iconst 2, 1, (0, 0, 0, 0)) := by decide +kernel
theorem sm_a163_81 : sm_at 163 81 = some (.if_icmp .ne 146, 3, (0, 0, 0, 0)) := by decide +kernel
theorem sm_a163_84 : sm_at 163 84 = some (.aload_n 0, 1, (0, 0, 0, 0)) := by decide +kernel
theorem sm_a163_85 : sm_at 163 85 = some (.getfield 89, 3, (12, 28, 0, 1211)) := by decide +kernel
theorem sm_a163_88 : sm_at 163 88 = some (.iload_n 1, 1, (0, 0, 0, 0)) := by decide +kernel
theorem sm_a163_89 : sm_at 163 89 = some (.iaload, 1, (0, 0, 0, 0)) := by decide +kernel
theorem sm_a163_90 : sm_at 163 90 = some (.iconst (-1), 1, (0, 0, 0, 0)) := by decide +kernel
theorem sm_a163_91 : sm_at 163 91 = some (.if_icmp .ne 46, 3, (0, 0, 0, 0)) := by decide +kernel
theorem sm_a163_94 : sm_at 163 94 = some (.aload_n 0, 1, (0, 0, 0, 0)) := by decide +kernel
theorem sm_a163_95 : sm_at 163 95 = some (.getfield 80, 3, (12, 25, 0, 1208)) := by decide +kernel
theorem sm_a163_98 : sm_at 163 98 = some (.iload_n 1, 1, (0, 0, 0, 0)) := by decide +kernel
theorem sm_a163_99 : sm_at 163 99 = some (.iaload, 1, (0, 0, 0, 0)) := by decide +kernel
theorem sm_a163_100 : sm_at 163 100 = some (.aload_n 0, 1, (0, 0, 0, 0)) := by decide +kernel
theorem sm_a163_101 : sm_at 163 101 = some (.getfield 83, 3, (12, 26, 0, 1209)) := by decide +kernel
theorem sm_a163_104 : sm_at 163 104 = some (.iload_n 1, 1, (0, 0, 0, 0)) := by decide +kernel
theorem sm_a163_105 : sm_at 163 105 = some (.iaload, 1, (0, 0, 0, 0)) := by decide +kernel
theorem sm_a163_106 : sm_at 163 106 = some (.isub, 1, (0, 0, 0, 0)) := by decide +kernel
theorem sm_a163_107 : sm_at 163 107 = some (.istore 4, 2, (0, 0, 0, 0)) := by decide +kernel
theorem sm_a163_109 : sm_at 163 109 = some (.aload_n 0, 1, (0, 0, 0, 0)) := by decide +kernel
theorem sm_a163_110 : sm_at 163 110 = some (.getfield 89, 3, (12, 28, 0, 1211)) := by decide +kernel
theorem sm_a163_113 : sm_at 163 113 = some (.iload_n 1, 1, (0, 0, 0, 0)) := by decide +kernel
theorem sm_a163_114 : sm_at 163 114 = some (.iload 4, 2, (0, 0, 0, 0)) := by decide +kernel
theorem sm_a163_116 : sm_at 163 116 = some (.aload_n 0, 1, (0, 0, 0, 0)) := by decide +kernel
theorem sm_a163_117 : sm_at 163 117 = some (.getfield 22, 3, (12, 6, 0, 1189)) := by decide +kernel
theorem sm_a163_120 : sm_at 163 120 = some (.iload_n 1, 1, (0, 0, 0, 0)) := by decide +kernel
theorem sm_a163_121 : sm_at 163 121 = some (.iaload, 1, (0, 0, 0, 0)) := by decide +kernel
theorem sm_a163_122 : sm_at 163 122 = some (.if_icmp .ge 8, 3, (0, 0, 0, 0)) := by decide +kernel
theorem sm_a163_125 : sm_at 163 125 = some (.iload 4, 2, (0, 0, 0, 0)) := by decide +kernel
theorem sm_a163_127 : sm_at 163 127 = some (.goto 9, 3, (0, 0, 0, 0)) := by decide +kernel
theorem sm_a163_130 : sm_at 163 130 = some (.aload_n 0, 1, (0, 0, 0, 0)) := by decide +kernel
theorem sm_a163_131 : sm_at 163 131 = some (.getfield 22, 3, (12, 6, 0, 1189)) := by decide +kernel
theorem sm_a163_134 : sm_at 163 134 = some (.iload_n 1, 1, (0, 0, 0, 0)) := by decide +kernel
theorem sm_a163_135 : sm_at 163 135 = some (.iaload, 1, (0, 0, 0, 0)) := by decide +kernel
theorem sm_a163_136 : sm_at 163 136 = some (.iastore, 1, (1, 0, 0, 0)) := by decide +kernel
theorem sm_a163_137 : sm_at 163 137 = some (.iconst 0, 1, (0, 0, 0, 0)) := by decide +kernel
theorem sm_a163_138 : sm_at 163 138 = some (.istore 4, 2, (0, 0, 0, 0)) := by decide +kernel
theorem sm_a163_140 : sm_at 163 140 = some (.iload 4, 2, (0, 0, 0, 0)) := by decide +kernel
theorem sm_a163_142 : sm_at 163 142 = some (.aload_n 0, 1, (0, 0, 0, 0)) := by decide +kernel
theorem sm_a163_143 : sm_at 163 143 = some (.getfield 89, 3, (12, 28, 0, 1211)) := by decide +kernel
theorem sm_a163_146 : sm_at 163 146 = some (.iload_n 1, 1, (0, 0, 0, 0)) := by decide +kernel
theorem sm_a163_147 : sm_at 163 147 = some (.iaload, 1, (0, 0, 0, 0)) := by decide +kernel
theorem sm_a163_148 : sm_at 163 148 = some (.if_icmp .ge 35, 3, (0, 0, 0, 0)) := by decide +kernel
theorem sm_a163_151 : sm_at 163 151 = some (.aload_n 0, 1, (0, 0, 0, 0)) := by decide +kernel
theorem sm_a163_152 : sm_at 163 152 = some (.getfield 143, 3, (12, 52, 0, 1235)) := by decide +kernel
theorem sm_a163_155 : sm_at 163 155 = some (.iload 4, 2, (0, 0, 0, 0)) := by decide +kernel
theorem sm_a163_157 : sm_at 163 157 = some (.aload_n 0, 1, (0, 0, 0, 0)) := by decide +kernel
theorem sm_a163_158 : sm_at 163 158 = some (.getfield 92, 3, (12, 29, 0, 1212)) := by decide +kernel
theorem sm_a163_161 : sm_at 163 161 = some (.bipush 100, 2, (0, 0, 0, 0)) := by decide +kernel
theorem sm_a163_163 : sm_at 163 163 = some (.iload_n 1, 1, (0, 0, 0, 0)) := by decide +kernel
theorem sm_a163_164 : sm_at 163 164 = some (.imul, 1, (0, 0, 0, 0)) := by decide +kernel
theorem sm_a163_165 : sm_at 163 165 = some (.aload_n 0, 1, (0, 0, 0, 0)) := by decide +kernel
theorem sm_a163_166 : sm_at 163 166 = some (.getfield 83, 3, (12, 26, 0, 1209)) := by decide +kernel
theorem sm_a163_169 : sm_at 163 169 = some (.iload_n 1, 1, (0, 0, 0, 0)) := by decide +kernel
theorem sm_a163_170 : sm_at 163 170 = some (.iaload, 1, (0, 0, 0, 0)) := by decide +kernel
theorem sm_a163_171 : sm_at 163 171 = some (.iadd, 1, (0, 0, 0, 0)) := by decide +kernel
theorem sm_a163_172 : sm_at 163 172 = some (.iload 4, 2, (0, 0, 0, 0)) := by decide +kernel
theorem sm_a163_174 : sm_at 163 174 = some (.iadd, 1, (0, 0, 0, 0)) := by decide +kernel
theorem sm_a163_175 : sm_at 163 175 = some (.iaload, 1, (0, 0, 0, 0)) := by decide +kernel
theorem sm_a163_176 : sm_at 163 176 = some (.iastore, 1, (1, 0, 0, 0)) := by decide +kernel
theorem sm_a163_177 : sm_at 163 177 = some (.iinc 4 1, 3, (0, 0, 0, 0)) := by decide +kernel
theorem sm_a163_180 : sm_at 163 180 = some (.goto (-40), 3, (0, 0, 0, 0)) := by decide +kernel
theorem sm_a163_183 : sm_at 163 183 = some (.aload_n 0, 1, (0, 0, 0, 0)) := by decide +kernel
theorem sm_a163_184 : sm_at 163 184 = some (.iload_n 1, 1, (0, 0, 0, 0)) := by decide +kernel
theorem sm_a163_185 : sm_at 163 185 = some (.aload_n 0, 1, (0, 0, 0, 0)) := by decide +kernel
theorem sm_a163_186 : sm_at 163 186 = some (.getfield 74, 3, (12, 23, 0, 1206)) := by decide +kernel
theorem sm_a163_189 : sm_at 163 189 = some (.iload_n 1, 1, (0, 0, 0, 0)) := by decide +kernel
theorem sm_a163_190 : sm_at 163 190 = some (.iaload, 1, (0, 0, 0, 0)) := by decide +kernel
theorem sm_a163_191 : sm_at 163 191 = some (.iconst 1, 1, (0, 0, 0, 0)) := by decide +kernel
theorem sm_a163_192 : sm_at 163 192 = some (.if_icmp .ne 8, 3, (0, 0, 0, 0)) := by decide +kernel
theorem sm_a163_195 : sm_at 163 195 = some (.bipush 11, 2, (0, 0, 0, 0)) := by decide +kernel
theorem sm_a163_197 : sm_at 163 197 = some (.goto 4, 3, (0, 0, 0, 0)) := by decide +kernel
theorem sm_a163_200 : sm_at 163 200 = some (.iconst 3, 1, (0, 0, 0, 0)) := by decide +kernel
theorem sm_a163_201 : sm_at 163 201 = some (.aload_n 0, 1, (0, 0, 0, 0)) := by decide +kernel
theorem sm_a163_202 : sm_at 163 202 = some (.getfield 89, 3, (12, 28, 0, 1211)) := by decide +kernel
theorem sm_a163_205 : sm_at 163 205 = some (.iload_n 1, 1, (0, 0, 0, 0)) := by decide +kernel
theorem sm_a163_206 : sm_at 163 206 = some (.iaload, 1, (0, 0, 0, 0)) := by decide +kernel
theorem sm_a163_207 : sm_at 163 207 = some (.invokevirtual 284, 3, (10, 160, 12, 1556)) := by decide +kernel
theorem sm_a163_210 : sm_at 163 210 = some (.aload_n 0, 1, (0, 0, 0, 0)) := by decide +kernel
theorem sm_a163_211 : sm_at 163 211 = some (.getfield 62, 3, (12, 19, 0, 1202)) := by decide +kernel
theorem sm_a163_214 : sm_at 163 214 = some (.iload_n 1, 1, (0, 0, 0, 0)) := by decide +kernel
theorem sm_a163_215 : sm_at 163 215 = some (.iconst 3, 1, (0, 0, 0, 0)) := by decide +kernel
theorem sm_a163_216 : sm_at 163 216 = some (.iastore, 1, (1, 0, 0, 0)) := by decide +kernel
theorem sm_a163_217 : sm_at 163 217 = some (.aload_n 0, 1, (0, 0, 0, 0)) := by decide +kernel
theorem sm_a163_218 : sm_at 163 218 = some (.getfield 65, 3, (12, 20, 0, 1203)) := by decide +kernel
theorem sm_a163_221 : sm_at 163 221 = some (.iload_n 1, 1, (0, 0, 0, 0)) := by decide +kernel
theorem sm_a163_222 : sm_at 163 222 = some (.iconst 0, 1, (0, 0, 0, 0)) := by decide +kernel
theorem sm_a163_223 : sm_at 163 223 = some (.iastore, 1, (1, 0, 0, 0)) := by decide +kernel
theorem sm_a163_224 : sm_at 163 224 = some (.goto 41, 3, (0, 0, 0, 0)) := by decide +kernel
theorem sm_a163_227 : sm_at 163 227 = some (.iload_n 2, 1, (0, 0, 0, 0)) := by decide +kernel
theorem sm_a163_228 : sm_at 163 228 = some (.iconst 4, 1, (0, 0, 0, 0)) := by decide +kernel
theorem sm_a163_229 : sm_at 163 229 = some (.if_icmp .ne 28, 3, (0, 0, 0, 0)) := by decide +kernel
theorem sm_a163_232 : sm_at 163 232 = some (.aload_n 0, 1, (0, 0, 0, 0)) := by decide +kernel
theorem sm_a163_233 : sm_at 163 233 = some (.iload_n 1, 1, (0, 0, 0, 0)) := by decide +kernel
theorem sm_a163_234 : sm_at 163 234 = some (.bipush 11, 2, (0, 0, 0, 0)) := by decide +kernel
theorem sm_a163_236 : sm_at 163 236 = some (.iconst 0, 1, (0, 0, 0, 0)) := by decide +kernel
theorem sm_a163_237 : sm_at 163 237 = some (.invokevirtual 284, 3, (10, 160, 12, 1556)) := by decide +kernel
theorem sm_a163_240 : sm_at 163 240 = some (.aload_n 0, 1, (0, 0, 0, 0)) := by decide +kernel
theorem sm_a163_241 : sm_at 163 241 = some (.getfield 62, 3, (12, 19, 0, 1202)) := by decide +kernel
theorem sm_a163_244 : sm_at 163 244 = some (.iload_n 1, 1, (0, 0, 0, 0)) := by decide +kernel
theorem sm_a163_245 : sm_at 163 245 = some (.iconst 3, 1, (0, 0, 0, 0)) := by decide +kernel
theorem sm_a163_246 : sm_at 163 246 = some (.iastore, 1, (1, 0, 0, 0)) := by decide +kernel
theorem sm_a163_247 : sm_at 163 247 = some (.aload_n 0, 1, (0, 0, 0, 0)) := by decide +kernel
theorem sm_a163_248 : sm_at 163 248 = some (.getfield 65, 3, (12, 20, 0, 1203)) := by decide +kernel
theorem sm_a163_251 : sm_at 163 251 = some (.iload_n 1, 1, (0, 0, 0, 0)) := by decide +kernel
theorem sm_a163_252 : sm_at 163 252 = some (.iconst 0, 1, (0, 0, 0, 0)) := by decide +kernel
theorem sm_a163_253 : sm_at 163 253 = some (.iastore, 1, (1, 0, 0, 0)) := by decide +kernel
theorem sm_a163_254 : sm_at 163 254 = some (.goto 11, 3, (0, 0, 0, 0)) := by decide +kernel
theorem sm_a163_257 : sm_at 163 257 = some (.aload_n 0, 1, (0, 0, 0, 0)) := by decide +kernel
theorem sm_a163_258 : sm_at 163 258 = some (.iload_n 1, 1, (0, 0, 0, 0)) := by decide +kernel
theorem sm_a163_259 : sm_at 163 259 = some (.bipush 10, 2, (0, 0, 0, 0)) := by decide +kernel
theorem sm_a163_261 : sm_at 163 261 = some (.iconst 0, 1, (0, 0, 0, 0)) := by decide +kernel
theorem sm_a163_262 : sm_at 163 262 = some (.invokevirtual 284, 3, (10, 160, 12, 1556)) := by decide +kernel
theorem sm_a163_265 : sm_at 163 265 = some (.return_, 1, (0, 0, 0, 0)) := by decide +kernel
theorem bb_163_0 {d : Nat} {M : sm_M} {Q : Option sm_V → sm_M → Prop} {a0 : Nat} {x1 : Int32} {z2 : Option sm_V} {z3 : Option sm_V} {z4 : Option sm_V}
    (h : sm_K M a0 = 39 ∧ ∃ b_2, sm_R M a0 21 = some b_2 ∧ sm_iA M b_2 ∧ sm_in_ M b_2 x1 ∧ ((¬ (sm_I M b_2 (x1).toNatClampNeg) = 2 → sm_Run (d + 1) 163 50 [some (.inr (some a0)), some (.inl x1), some (.inl (sm_I M b_2 (x1).toNatClampNeg)), z3, z4] [] M Q) ∧ (¬ (¬ (sm_I M b_2 (x1).toNatClampNeg) = 2) → ∃ b_7, sm_R M a0 28 = some b_7 ∧ sm_iA M b_7 ∧ sm_in_ M b_7 x1 ∧ ((¬ (sm_I M b_7 (x1).toNatClampNeg) = (-1) → sm_Run (d + 1) 163 50 [some (.inr (some a0)), some (.inl x1), some (.inl (sm_I M b_2 (x1).toNatClampNeg)), z3, z4] [] M Q) ∧ (¬ (¬ (sm_I M b_7 (x1).toNatClampNeg) = (-1)) → ∃ b_12, sm_R M a0 26 = some b_12 ∧ sm_iA M b_12 ∧ sm_in_ M b_12 x1 ∧ ∃ b_16, sm_R M a0 24 = some b_16 ∧ sm_iA M b_16 ∧ sm_in_ M b_16 x1 ∧ (((sm_I M b_12 (x1).toNatClampNeg) = (sm_I M b_16 (x1).toNatClampNeg) → sm_Run (d + 1) 163 46 [some (.inr (some a0)), some (.inl x1), some (.inl (sm_I M b_2 (x1).toNatClampNeg)), z3, z4] [] M Q) ∧ (¬ ((sm_I M b_12 (x1).toNatClampNeg) = (sm_I M b_16 (x1).toNatClampNeg)) → ∃ b_21, sm_R M a0 27 = some b_21 ∧ sm_wZ 1 M b_21 ∧ sm_in_ M b_21 x1 ∧ (((sm_I M b_21 (x1).toNatClampNeg) = 0 → sm_Run (d + 1) 163 50 [some (.inr (some a0)), some (.inl x1), some (.inl (sm_I M b_2 (x1).toNatClampNeg)), z3, z4] [] M Q) ∧ (¬ ((sm_I M b_21 (x1).toNatClampNeg) = 0) → sm_Run (d + 1) 163 46 [some (.inr (some a0)), some (.inl x1), some (.inl (sm_I M b_2 (x1).toNatClampNeg)), z3, z4] [] M Q))))))))) :
    sm_Run (d + 1) 163 0 [some (.inr (some a0)), some (.inl x1), z2, z3, z4] [] M Q := by
  refine ru_go (t := (1, [some (.inr (some a0)), some (.inl x1), z2, z3, z4], [.inr (some a0)], M)) sm_a163_0 rfl rfl rfl ?_
  obtain ⟨h_1, h⟩ := h
  refine ru_go (t := (4, [some (.inr (some a0)), some (.inl x1), z2, z3, z4], [.inr (sm_R M a0 21)], M)) sm_a163_1 rfl rfl (st_getR h_1 rfl rfl) ?_
  refine ru_go (t := (5, [some (.inr (some a0)), some (.inl x1), z2, z3, z4], [.inl x1, .inr (sm_R M a0 21)], M)) sm_a163_4 rfl rfl rfl ?_
  obtain ⟨b_2, hb_3, h⟩ := h
  rw [hb_3]
  obtain ⟨h_4, h⟩ := h
  obtain ⟨h_5, h⟩ := h
  refine ru_go (t := (6, [some (.inr (some a0)), some (.inl x1), z2, z3, z4], [.inl (sm_I M b_2 (x1).toNatClampNeg)], M)) sm_a163_5 rfl rfl (st_iald h_4 h_5) ?_
  refine ru_go (t := (7, [some (.inr (some a0)), some (.inl x1), some (.inl (sm_I M b_2 (x1).toNatClampNeg)), z3, z4], [], M)) sm_a163_6 rfl rfl rfl ?_
  refine ru_go (t := (8, [some (.inr (some a0)), some (.inl x1), some (.inl (sm_I M b_2 (x1).toNatClampNeg)), z3, z4], [.inl (sm_I M b_2 (x1).toNatClampNeg)], M)) sm_a163_7 rfl rfl rfl ?_
  refine ru_go (t := (9, [some (.inr (some a0)), some (.inl x1), some (.inl (sm_I M b_2 (x1).toNatClampNeg)), z3, z4], [.inl 2, .inl (sm_I M b_2 (x1).toNatClampNeg)], M)) sm_a163_8 rfl rfl (st_iconst (by decide)) ?_
  refine ru_icmp (pc := 9) (p := 50) (p2 := 12) sm_a163_9 (by decide) rfl ⟨fun hc_6 => ?_, fun hc_6 => ?_⟩
  · have h := h.1 hc_6
    exact h
  · have h := h.2 hc_6
    refine ru_go (t := (13, [some (.inr (some a0)), some (.inl x1), some (.inl (sm_I M b_2 (x1).toNatClampNeg)), z3, z4], [.inr (some a0)], M)) sm_a163_12 rfl rfl rfl ?_
    refine ru_go (t := (16, [some (.inr (some a0)), some (.inl x1), some (.inl (sm_I M b_2 (x1).toNatClampNeg)), z3, z4], [.inr (sm_R M a0 28)], M)) sm_a163_13 rfl rfl (st_getR h_1 rfl rfl) ?_
    refine ru_go (t := (17, [some (.inr (some a0)), some (.inl x1), some (.inl (sm_I M b_2 (x1).toNatClampNeg)), z3, z4], [.inl x1, .inr (sm_R M a0 28)], M)) sm_a163_16 rfl rfl rfl ?_
    obtain ⟨b_7, hb_8, h⟩ := h
    rw [hb_8]
    obtain ⟨h_9, h⟩ := h
    obtain ⟨h_10, h⟩ := h
    refine ru_go (t := (18, [some (.inr (some a0)), some (.inl x1), some (.inl (sm_I M b_2 (x1).toNatClampNeg)), z3, z4], [.inl (sm_I M b_7 (x1).toNatClampNeg)], M)) sm_a163_17 rfl rfl (st_iald h_9 h_10) ?_
    refine ru_go (t := (19, [some (.inr (some a0)), some (.inl x1), some (.inl (sm_I M b_2 (x1).toNatClampNeg)), z3, z4], [.inl (-1), .inl (sm_I M b_7 (x1).toNatClampNeg)], M)) sm_a163_18 rfl rfl (st_iconst (by decide)) ?_
    refine ru_icmp (pc := 19) (p := 50) (p2 := 22) sm_a163_19 (by decide) rfl ⟨fun hc_11 => ?_, fun hc_11 => ?_⟩
    · have h := h.1 hc_11
      exact h
    · have h := h.2 hc_11
      refine ru_go (t := (23, [some (.inr (some a0)), some (.inl x1), some (.inl (sm_I M b_2 (x1).toNatClampNeg)), z3, z4], [.inr (some a0)], M)) sm_a163_22 rfl rfl rfl ?_
      refine ru_go (t := (26, [some (.inr (some a0)), some (.inl x1), some (.inl (sm_I M b_2 (x1).toNatClampNeg)), z3, z4], [.inr (sm_R M a0 26)], M)) sm_a163_23 rfl rfl (st_getR h_1 rfl rfl) ?_
      refine ru_go (t := (27, [some (.inr (some a0)), some (.inl x1), some (.inl (sm_I M b_2 (x1).toNatClampNeg)), z3, z4], [.inl x1, .inr (sm_R M a0 26)], M)) sm_a163_26 rfl rfl rfl ?_
      obtain ⟨b_12, hb_13, h⟩ := h
      rw [hb_13]
      obtain ⟨h_14, h⟩ := h
      obtain ⟨h_15, h⟩ := h
      refine ru_go (t := (28, [some (.inr (some a0)), some (.inl x1), some (.inl (sm_I M b_2 (x1).toNatClampNeg)), z3, z4], [.inl (sm_I M b_12 (x1).toNatClampNeg)], M)) sm_a163_27 rfl rfl (st_iald h_14 h_15) ?_
      refine ru_go (t := (29, [some (.inr (some a0)), some (.inl x1), some (.inl (sm_I M b_2 (x1).toNatClampNeg)), z3, z4], [.inr (some a0), .inl (sm_I M b_12 (x1).toNatClampNeg)], M)) sm_a163_28 rfl rfl rfl ?_
      refine ru_go (t := (32, [some (.inr (some a0)), some (.inl x1), some (.inl (sm_I M b_2 (x1).toNatClampNeg)), z3, z4], [.inr (sm_R M a0 24), .inl (sm_I M b_12 (x1).toNatClampNeg)], M)) sm_a163_29 rfl rfl (st_getR h_1 rfl rfl) ?_
      refine ru_go (t := (33, [some (.inr (some a0)), some (.inl x1), some (.inl (sm_I M b_2 (x1).toNatClampNeg)), z3, z4], [.inl x1, .inr (sm_R M a0 24), .inl (sm_I M b_12 (x1).toNatClampNeg)], M)) sm_a163_32 rfl rfl rfl ?_
      obtain ⟨b_16, hb_17, h⟩ := h
      rw [hb_17]
      obtain ⟨h_18, h⟩ := h
      obtain ⟨h_19, h⟩ := h
      refine ru_go (t := (34, [some (.inr (some a0)), some (.inl x1), some (.inl (sm_I M b_2 (x1).toNatClampNeg)), z3, z4], [.inl (sm_I M b_16 (x1).toNatClampNeg), .inl (sm_I M b_12 (x1).toNatClampNeg)], M)) sm_a163_33 rfl rfl (st_iald h_18 h_19) ?_
      refine ru_icmp (pc := 34) (p := 46) (p2 := 37) sm_a163_34 (by decide) rfl ⟨fun hc_20 => ?_, fun hc_20 => ?_⟩
      · have h := h.1 hc_20
        exact h
      · have h := h.2 hc_20
        refine ru_go (t := (38, [some (.inr (some a0)), some (.inl x1), some (.inl (sm_I M b_2 (x1).toNatClampNeg)), z3, z4], [.inr (some a0)], M)) sm_a163_37 rfl rfl rfl ?_
        refine ru_go (t := (41, [some (.inr (some a0)), some (.inl x1), some (.inl (sm_I M b_2 (x1).toNatClampNeg)), z3, z4], [.inr (sm_R M a0 27)], M)) sm_a163_38 rfl rfl (st_getR h_1 rfl rfl) ?_
        refine ru_go (t := (42, [some (.inr (some a0)), some (.inl x1), some (.inl (sm_I M b_2 (x1).toNatClampNeg)), z3, z4], [.inl x1, .inr (sm_R M a0 27)], M)) sm_a163_41 rfl rfl rfl ?_
        obtain ⟨b_21, hb_22, h⟩ := h
        rw [hb_22]
        obtain ⟨h_23, h⟩ := h
        obtain ⟨h_24, h⟩ := h
        refine ru_go (t := (43, [some (.inr (some a0)), some (.inl x1), some (.inl (sm_I M b_2 (x1).toNatClampNeg)), z3, z4], [.inl (sm_I M b_21 (x1).toNatClampNeg)], M)) sm_a163_42 rfl rfl (st_zald h_23 h_24) ?_
        refine ru_if (pc := 43) (p := 50) (p2 := 46) sm_a163_43 (by decide) rfl ⟨fun hc_25 => ?_, fun hc_25 => ?_⟩
        · have h := h.1 hc_25
          exact h
        · have h := h.2 hc_25
          exact h
theorem bb_163_46 {d : Nat} {M : sm_M} {Q : Option sm_V → sm_M → Prop} {a0 : Nat} {x1 : Int32} {x2 : Int32} {z3 : Option sm_V} {z4 : Option sm_V}
    (h : ((x2 = 1 → sm_Run (d + 1) 163 61 [some (.inr (some a0)), some (.inl x1), some (.inl x2), some (.inl 1), z4] [] M Q) ∧ (¬ (x2 = 1) → sm_Run (d + 1) 163 61 [some (.inr (some a0)), some (.inl x1), some (.inl x2), some (.inl 1), z4] [] M Q))) :
    sm_Run (d + 1) 163 46 [some (.inr (some a0)), some (.inl x1), some (.inl x2), z3, z4] [] M Q := by
  refine ru_go (t := (47, [some (.inr (some a0)), some (.inl x1), some (.inl x2), z3, z4], [.inl 1], M)) sm_a163_46 rfl rfl (st_iconst (by decide)) ?_
  refine ru_go (t := (51, [some (.inr (some a0)), some (.inl x1), some (.inl x2), z3, z4], [.inl 1], M)) sm_a163_47 rfl rfl (st_goto (pc := 47) (by decide)) ?_
  refine ru_go (t := (52, [some (.inr (some a0)), some (.inl x1), some (.inl x2), some (.inl 1), z4], [], M)) sm_a163_51 rfl rfl rfl ?_
  refine ru_go (t := (53, [some (.inr (some a0)), some (.inl x1), some (.inl x2), some (.inl 1), z4], [.inl x2], M)) sm_a163_52 rfl rfl rfl ?_
  refine ru_go (t := (54, [some (.inr (some a0)), some (.inl x1), some (.inl x2), some (.inl 1), z4], [.inl 1, .inl x2], M)) sm_a163_53 rfl rfl (st_iconst (by decide)) ?_
  refine ru_icmp (pc := 54) (p := 61) (p2 := 57) sm_a163_54 (by decide) rfl ⟨fun hc_1 => ?_, fun hc_1 => ?_⟩
  · have h := h.1 hc_1
    exact h
  · have h := h.2 hc_1
    refine ru_go (t := (58, [some (.inr (some a0)), some (.inl x1), some (.inl x2), some (.inl 1), z4], [.inl 1], M)) sm_a163_57 rfl rfl rfl ?_
    refine ru_if (pc := 58) (p := 79) (p2 := 61) sm_a163_58 (by decide) rfl ⟨fun hc => absurd (show (1 : Int32) = 0 from hc) (by decide), fun _ => ?_⟩
    exact h
theorem bb_163_50 {d : Nat} {M : sm_M} {Q : Option sm_V → sm_M → Prop} {a0 : Nat} {x1 : Int32} {x2 : Int32} {z3 : Option sm_V} {z4 : Option sm_V}
    (h : ((x2 = 1 → sm_Run (d + 1) 163 61 [some (.inr (some a0)), some (.inl x1), some (.inl x2), some (.inl 0), z4] [] M Q) ∧ (¬ (x2 = 1) → ((¬ x2 = 2 → ((¬ x2 = 4 → sm_K M a0 = 39 ∧ sm_Run d 160 0 (sm_ent 160 [.inr (some a0), .inl x1, .inl 10, .inl 0]) [] M (fun v M1 => sm_Run (d + 1) 163 265 [some (.inr (some a0)), some (.inl x1), some (.inl x2), some (.inl 0), z4] (v.toList ++ []) M1 Q)) ∧ (¬ (¬ x2 = 4) → sm_K M a0 = 39 ∧ sm_Run d 160 0 (sm_ent 160 [.inr (some a0), .inl x1, .inl 11, .inl 0]) [] M (fun v M1 => sm_Run (d + 1) 163 240 [some (.inr (some a0)), some (.inl x1), some (.inl x2), some (.inl 0), z4] (v.toList ++ []) M1 Q)))) ∧ (¬ (¬ x2 = 2) → sm_K M a0 = 39 ∧ ∃ b_7, sm_R M a0 28 = some b_7 ∧ sm_iA M b_7 ∧ sm_in_ M b_7 x1 ∧ ((¬ (sm_I M b_7 (x1).toNatClampNeg) = (-1) → sm_Run (d + 1) 163 140 [some (.inr (some a0)), some (.inl x1), some (.inl x2), some (.inl 0), some (.inl 0)] [] M Q) ∧ (¬ (¬ (sm_I M b_7 (x1).toNatClampNeg) = (-1)) → ∃ b_12, sm_R M a0 25 = some b_12 ∧ sm_iA M b_12 ∧ sm_in_ M b_12 x1 ∧ ∃ b_16, sm_R M a0 26 = some b_16 ∧ sm_iA M b_16 ∧ sm_in_ M b_16 x1 ∧ ∃ b_20, sm_R M a0 6 = some b_20 ∧ sm_iA M b_20 ∧ sm_in_ M b_20 x1 ∧ (((sm_I M b_20 (x1).toNatClampNeg) ≤ ((sm_I M b_12 (x1).toNatClampNeg) - (sm_I M b_16 (x1).toNatClampNeg)) → ∃ b_25, sm_R M a0 6 = some b_25 ∧ sm_iA M b_25 ∧ sm_in_ M b_25 x1 ∧ ∃ b_29, sm_R M a0 28 = some b_29 ∧ sm_wA 1 M b_29 ∧ sm_in_ M b_29 x1 ∧ sm_Run (d + 1) 163 140 [some (.inr (some a0)), some (.inl x1), some (.inl x2), some (.inl 0), some (.inl 0)] [] (sm_putI M b_29 (x1).toNatClampNeg (sm_I M b_25 (x1).toNatClampNeg)) Q) ∧ (¬ ((sm_I M b_20 (x1).toNatClampNeg) ≤ ((sm_I M b_12 (x1).toNatClampNeg) - (sm_I M b_16 (x1).toNatClampNeg))) → ∃ b_33, sm_R M a0 28 = some b_33 ∧ sm_wA 1 M b_33 ∧ sm_in_ M b_33 x1 ∧ sm_Run (d + 1) 163 140 [some (.inr (some a0)), some (.inl x1), some (.inl x2), some (.inl 0), some (.inl 0)] [] (sm_putI M b_33 (x1).toNatClampNeg ((sm_I M b_12 (x1).toNatClampNeg) - (sm_I M b_16 (x1).toNatClampNeg))) Q))))))))) :
    sm_Run (d + 1) 163 50 [some (.inr (some a0)), some (.inl x1), some (.inl x2), z3, z4] [] M Q := by
  refine ru_go (t := (51, [some (.inr (some a0)), some (.inl x1), some (.inl x2), z3, z4], [.inl 0], M)) sm_a163_50 rfl rfl (st_iconst (by decide)) ?_
  refine ru_go (t := (52, [some (.inr (some a0)), some (.inl x1), some (.inl x2), some (.inl 0), z4], [], M)) sm_a163_51 rfl rfl rfl ?_
  refine ru_go (t := (53, [some (.inr (some a0)), some (.inl x1), some (.inl x2), some (.inl 0), z4], [.inl x2], M)) sm_a163_52 rfl rfl rfl ?_
  refine ru_go (t := (54, [some (.inr (some a0)), some (.inl x1), some (.inl x2), some (.inl 0), z4], [.inl 1, .inl x2], M)) sm_a163_53 rfl rfl (st_iconst (by decide)) ?_
  refine ru_icmp (pc := 54) (p := 61) (p2 := 57) sm_a163_54 (by decide) rfl ⟨fun hc_1 => ?_, fun hc_1 => ?_⟩
  · have h := h.1 hc_1
    exact h
  · have h := h.2 hc_1
    refine ru_go (t := (58, [some (.inr (some a0)), some (.inl x1), some (.inl x2), some (.inl 0), z4], [.inl 0], M)) sm_a163_57 rfl rfl rfl ?_
    refine ru_if (pc := 58) (p := 79) (p2 := 61) sm_a163_58 (by decide) rfl ⟨fun _ => ?_, fun hc => absurd (show sm_cP .eq 0 0 from (by show (0 : Int32) = 0; decide)) hc⟩
    refine ru_go (t := (80, [some (.inr (some a0)), some (.inl x1), some (.inl x2), some (.inl 0), z4], [.inl x2], M)) sm_a163_79 rfl rfl rfl ?_
    refine ru_go (t := (81, [some (.inr (some a0)), some (.inl x1), some (.inl x2), some (.inl 0), z4], [.inl 2, .inl x2], M)) sm_a163_80 rfl rfl (st_iconst (by decide)) ?_
    refine ru_icmp (pc := 81) (p := 227) (p2 := 84) sm_a163_81 (by decide) rfl ⟨fun hc_2 => ?_, fun hc_2 => ?_⟩
    · have h := h.1 hc_2
      refine ru_go (t := (228, [some (.inr (some a0)), some (.inl x1), some (.inl x2), some (.inl 0), z4], [.inl x2], M)) sm_a163_227 rfl rfl rfl ?_
      refine ru_go (t := (229, [some (.inr (some a0)), some (.inl x1), some (.inl x2), some (.inl 0), z4], [.inl 4, .inl x2], M)) sm_a163_228 rfl rfl (st_iconst (by decide)) ?_
      refine ru_icmp (pc := 229) (p := 257) (p2 := 232) sm_a163_229 (by decide) rfl ⟨fun hc_3 => ?_, fun hc_3 => ?_⟩
      · have h := h.1 hc_3
        refine ru_go (t := (258, [some (.inr (some a0)), some (.inl x1), some (.inl x2), some (.inl 0), z4], [.inr (some a0)], M)) sm_a163_257 rfl rfl rfl ?_
        refine ru_go (t := (259, [some (.inr (some a0)), some (.inl x1), some (.inl x2), some (.inl 0), z4], [.inl x1, .inr (some a0)], M)) sm_a163_258 rfl rfl rfl ?_
        refine ru_go (t := (261, [some (.inr (some a0)), some (.inl x1), some (.inl x2), some (.inl 0), z4], [.inl 10, .inl x1, .inr (some a0)], M)) sm_a163_259 rfl rfl (st_bipush (by decide)) ?_
        refine ru_go (t := (262, [some (.inr (some a0)), some (.inl x1), some (.inl x2), some (.inl 0), z4], [.inl 0, .inl 10, .inl x1, .inr (some a0)], M)) sm_a163_261 rfl rfl (st_iconst (by decide)) ?_
        obtain ⟨h_4, h⟩ := h
        exact ru_call (p := 265) sm_a163_262 rfl (sc_virt (Or.inl rfl) rfl rfl h_4 (Nat.le_of_ble_eq_true rfl)) rfl h
      · have h := h.2 hc_3
        refine ru_go (t := (233, [some (.inr (some a0)), some (.inl x1), some (.inl x2), some (.inl 0), z4], [.inr (some a0)], M)) sm_a163_232 rfl rfl rfl ?_
        refine ru_go (t := (234, [some (.inr (some a0)), some (.inl x1), some (.inl x2), some (.inl 0), z4], [.inl x1, .inr (some a0)], M)) sm_a163_233 rfl rfl rfl ?_
        refine ru_go (t := (236, [some (.inr (some a0)), some (.inl x1), some (.inl x2), some (.inl 0), z4], [.inl 11, .inl x1, .inr (some a0)], M)) sm_a163_234 rfl rfl (st_bipush (by decide)) ?_
        refine ru_go (t := (237, [some (.inr (some a0)), some (.inl x1), some (.inl x2), some (.inl 0), z4], [.inl 0, .inl 11, .inl x1, .inr (some a0)], M)) sm_a163_236 rfl rfl (st_iconst (by decide)) ?_
        obtain ⟨h_5, h⟩ := h
        exact ru_call (p := 240) sm_a163_237 rfl (sc_virt (Or.inl rfl) rfl rfl h_5 (Nat.le_of_ble_eq_true rfl)) rfl h
    · have h := h.2 hc_2
      refine ru_go (t := (85, [some (.inr (some a0)), some (.inl x1), some (.inl x2), some (.inl 0), z4], [.inr (some a0)], M)) sm_a163_84 rfl rfl rfl ?_
      obtain ⟨h_6, h⟩ := h
      refine ru_go (t := (88, [some (.inr (some a0)), some (.inl x1), some (.inl x2), some (.inl 0), z4], [.inr (sm_R M a0 28)], M)) sm_a163_85 rfl rfl (st_getR h_6 rfl rfl) ?_
      refine ru_go (t := (89, [some (.inr (some a0)), some (.inl x1), some (.inl x2), some (.inl 0), z4], [.inl x1, .inr (sm_R M a0 28)], M)) sm_a163_88 rfl rfl rfl ?_
      obtain ⟨b_7, hb_8, h⟩ := h
      rw [hb_8]
      obtain ⟨h_9, h⟩ := h
      obtain ⟨h_10, h⟩ := h
      refine ru_go (t := (90, [some (.inr (some a0)), some (.inl x1), some (.inl x2), some (.inl 0), z4], [.inl (sm_I M b_7 (x1).toNatClampNeg)], M)) sm_a163_89 rfl rfl (st_iald h_9 h_10) ?_
      refine ru_go (t := (91, [some (.inr (some a0)), some (.inl x1), some (.inl x2), some (.inl 0), z4], [.inl (-1), .inl (sm_I M b_7 (x1).toNatClampNeg)], M)) sm_a163_90 rfl rfl (st_iconst (by decide)) ?_
      refine ru_icmp (pc := 91) (p := 137) (p2 := 94) sm_a163_91 (by decide) rfl ⟨fun hc_11 => ?_, fun hc_11 => ?_⟩
      · have h := h.1 hc_11
        refine ru_go (t := (138, [some (.inr (some a0)), some (.inl x1), some (.inl x2), some (.inl 0), z4], [.inl 0], M)) sm_a163_137 rfl rfl (st_iconst (by decide)) ?_
        refine ru_go (t := (140, [some (.inr (some a0)), some (.inl x1), some (.inl x2), some (.inl 0), some (.inl 0)], [], M)) sm_a163_138 rfl rfl rfl ?_
        exact h
      · have h := h.2 hc_11
        refine ru_go (t := (95, [some (.inr (some a0)), some (.inl x1), some (.inl x2), some (.inl 0), z4], [.inr (some a0)], M)) sm_a163_94 rfl rfl rfl ?_
        refine ru_go (t := (98, [some (.inr (some a0)), some (.inl x1), some (.inl x2), some (.inl 0), z4], [.inr (sm_R M a0 25)], M)) sm_a163_95 rfl rfl (st_getR h_6 rfl rfl) ?_
        refine ru_go (t := (99, [some (.inr (some a0)), some (.inl x1), some (.inl x2), some (.inl 0), z4], [.inl x1, .inr (sm_R M a0 25)], M)) sm_a163_98 rfl rfl rfl ?_
        obtain ⟨b_12, hb_13, h⟩ := h
        rw [hb_13]
        obtain ⟨h_14, h⟩ := h
        obtain ⟨h_15, h⟩ := h
        refine ru_go (t := (100, [some (.inr (some a0)), some (.inl x1), some (.inl x2), some (.inl 0), z4], [.inl (sm_I M b_12 (x1).toNatClampNeg)], M)) sm_a163_99 rfl rfl (st_iald h_14 h_15) ?_
        refine ru_go (t := (101, [some (.inr (some a0)), some (.inl x1), some (.inl x2), some (.inl 0), z4], [.inr (some a0), .inl (sm_I M b_12 (x1).toNatClampNeg)], M)) sm_a163_100 rfl rfl rfl ?_
        refine ru_go (t := (104, [some (.inr (some a0)), some (.inl x1), some (.inl x2), some (.inl 0), z4], [.inr (sm_R M a0 26), .inl (sm_I M b_12 (x1).toNatClampNeg)], M)) sm_a163_101 rfl rfl (st_getR h_6 rfl rfl) ?_
        refine ru_go (t := (105, [some (.inr (some a0)), some (.inl x1), some (.inl x2), some (.inl 0), z4], [.inl x1, .inr (sm_R M a0 26), .inl (sm_I M b_12 (x1).toNatClampNeg)], M)) sm_a163_104 rfl rfl rfl ?_
        obtain ⟨b_16, hb_17, h⟩ := h
        rw [hb_17]
        obtain ⟨h_18, h⟩ := h
        obtain ⟨h_19, h⟩ := h
        refine ru_go (t := (106, [some (.inr (some a0)), some (.inl x1), some (.inl x2), some (.inl 0), z4], [.inl (sm_I M b_16 (x1).toNatClampNeg), .inl (sm_I M b_12 (x1).toNatClampNeg)], M)) sm_a163_105 rfl rfl (st_iald h_18 h_19) ?_
        refine ru_go (t := (107, [some (.inr (some a0)), some (.inl x1), some (.inl x2), some (.inl 0), z4], [.inl ((sm_I M b_12 (x1).toNatClampNeg) - (sm_I M b_16 (x1).toNatClampNeg))], M)) sm_a163_106 rfl rfl rfl ?_
        refine ru_go (t := (109, [some (.inr (some a0)), some (.inl x1), some (.inl x2), some (.inl 0), some (.inl ((sm_I M b_12 (x1).toNatClampNeg) - (sm_I M b_16 (x1).toNatClampNeg)))], [], M)) sm_a163_107 rfl rfl rfl ?_
        refine ru_go (t := (110, [some (.inr (some a0)), some (.inl x1), some (.inl x2), some (.inl 0), some (.inl ((sm_I M b_12 (x1).toNatClampNeg) - (sm_I M b_16 (x1).toNatClampNeg)))], [.inr (some a0)], M)) sm_a163_109 rfl rfl rfl ?_
        refine ru_go (t := (113, [some (.inr (some a0)), some (.inl x1), some (.inl x2), some (.inl 0), some (.inl ((sm_I M b_12 (x1).toNatClampNeg) - (sm_I M b_16 (x1).toNatClampNeg)))], [.inr (sm_R M a0 28)], M)) sm_a163_110 rfl rfl (st_getR h_6 rfl rfl) ?_
        refine ru_go (t := (114, [some (.inr (some a0)), some (.inl x1), some (.inl x2), some (.inl 0), some (.inl ((sm_I M b_12 (x1).toNatClampNeg) - (sm_I M b_16 (x1).toNatClampNeg)))], [.inl x1, .inr (sm_R M a0 28)], M)) sm_a163_113 rfl rfl rfl ?_
        refine ru_go (t := (116, [some (.inr (some a0)), some (.inl x1), some (.inl x2), some (.inl 0), some (.inl ((sm_I M b_12 (x1).toNatClampNeg) - (sm_I M b_16 (x1).toNatClampNeg)))], [.inl ((sm_I M b_12 (x1).toNatClampNeg) - (sm_I M b_16 (x1).toNatClampNeg)), .inl x1, .inr (sm_R M a0 28)], M)) sm_a163_114 rfl rfl rfl ?_
        refine ru_go (t := (117, [some (.inr (some a0)), some (.inl x1), some (.inl x2), some (.inl 0), some (.inl ((sm_I M b_12 (x1).toNatClampNeg) - (sm_I M b_16 (x1).toNatClampNeg)))], [.inr (some a0), .inl ((sm_I M b_12 (x1).toNatClampNeg) - (sm_I M b_16 (x1).toNatClampNeg)), .inl x1, .inr (sm_R M a0 28)], M)) sm_a163_116 rfl rfl rfl ?_
        refine ru_go (t := (120, [some (.inr (some a0)), some (.inl x1), some (.inl x2), some (.inl 0), some (.inl ((sm_I M b_12 (x1).toNatClampNeg) - (sm_I M b_16 (x1).toNatClampNeg)))], [.inr (sm_R M a0 6), .inl ((sm_I M b_12 (x1).toNatClampNeg) - (sm_I M b_16 (x1).toNatClampNeg)), .inl x1, .inr (sm_R M a0 28)], M)) sm_a163_117 rfl rfl (st_getR h_6 rfl rfl) ?_
        refine ru_go (t := (121, [some (.inr (some a0)), some (.inl x1), some (.inl x2), some (.inl 0), some (.inl ((sm_I M b_12 (x1).toNatClampNeg) - (sm_I M b_16 (x1).toNatClampNeg)))], [.inl x1, .inr (sm_R M a0 6), .inl ((sm_I M b_12 (x1).toNatClampNeg) - (sm_I M b_16 (x1).toNatClampNeg)), .inl x1, .inr (sm_R M a0 28)], M)) sm_a163_120 rfl rfl rfl ?_
        obtain ⟨b_20, hb_21, h⟩ := h
        rw [hb_21]
        obtain ⟨h_22, h⟩ := h
        obtain ⟨h_23, h⟩ := h
        refine ru_go (t := (122, [some (.inr (some a0)), some (.inl x1), some (.inl x2), some (.inl 0), some (.inl ((sm_I M b_12 (x1).toNatClampNeg) - (sm_I M b_16 (x1).toNatClampNeg)))], [.inl (sm_I M b_20 (x1).toNatClampNeg), .inl ((sm_I M b_12 (x1).toNatClampNeg) - (sm_I M b_16 (x1).toNatClampNeg)), .inl x1, .inr (sm_R M a0 28)], M)) sm_a163_121 rfl rfl (st_iald h_22 h_23) ?_
        refine ru_icmp (pc := 122) (p := 130) (p2 := 125) sm_a163_122 (by decide) rfl ⟨fun hc_24 => ?_, fun hc_24 => ?_⟩
        · have h := h.1 hc_24
          refine ru_go (t := (131, [some (.inr (some a0)), some (.inl x1), some (.inl x2), some (.inl 0), some (.inl ((sm_I M b_12 (x1).toNatClampNeg) - (sm_I M b_16 (x1).toNatClampNeg)))], [.inr (some a0), .inl x1, .inr (sm_R M a0 28)], M)) sm_a163_130 rfl rfl rfl ?_
          refine ru_go (t := (134, [some (.inr (some a0)), some (.inl x1), some (.inl x2), some (.inl 0), some (.inl ((sm_I M b_12 (x1).toNatClampNeg) - (sm_I M b_16 (x1).toNatClampNeg)))], [.inr (sm_R M a0 6), .inl x1, .inr (sm_R M a0 28)], M)) sm_a163_131 rfl rfl (st_getR h_6 rfl rfl) ?_
          refine ru_go (t := (135, [some (.inr (some a0)), some (.inl x1), some (.inl x2), some (.inl 0), some (.inl ((sm_I M b_12 (x1).toNatClampNeg) - (sm_I M b_16 (x1).toNatClampNeg)))], [.inl x1, .inr (sm_R M a0 6), .inl x1, .inr (sm_R M a0 28)], M)) sm_a163_134 rfl rfl rfl ?_
          obtain ⟨b_25, hb_26, h⟩ := h
          rw [hb_26]
          obtain ⟨h_27, h⟩ := h
          obtain ⟨h_28, h⟩ := h
          refine ru_go (t := (136, [some (.inr (some a0)), some (.inl x1), some (.inl x2), some (.inl 0), some (.inl ((sm_I M b_12 (x1).toNatClampNeg) - (sm_I M b_16 (x1).toNatClampNeg)))], [.inl (sm_I M b_25 (x1).toNatClampNeg), .inl x1, .inr (sm_R M a0 28)], M)) sm_a163_135 rfl rfl (st_iald h_27 h_28) ?_
          obtain ⟨b_29, hb_30, h⟩ := h
          rw [hb_30]
          obtain ⟨h_31, h⟩ := h
          obtain ⟨h_32, h⟩ := h
          refine ru_go (t := (137, [some (.inr (some a0)), some (.inl x1), some (.inl x2), some (.inl 0), some (.inl ((sm_I M b_12 (x1).toNatClampNeg) - (sm_I M b_16 (x1).toNatClampNeg)))], [], sm_putI M b_29 (x1).toNatClampNeg (sm_I M b_25 (x1).toNatClampNeg))) sm_a163_136 rfl rfl (st_iast h_31 h_32) ?_
          refine ru_go (t := (138, [some (.inr (some a0)), some (.inl x1), some (.inl x2), some (.inl 0), some (.inl ((sm_I M b_12 (x1).toNatClampNeg) - (sm_I M b_16 (x1).toNatClampNeg)))], [.inl 0], sm_putI M b_29 (x1).toNatClampNeg (sm_I M b_25 (x1).toNatClampNeg))) sm_a163_137 rfl rfl (st_iconst (by decide)) ?_
          refine ru_go (t := (140, [some (.inr (some a0)), some (.inl x1), some (.inl x2), some (.inl 0), some (.inl 0)], [], sm_putI M b_29 (x1).toNatClampNeg (sm_I M b_25 (x1).toNatClampNeg))) sm_a163_138 rfl rfl rfl ?_
          exact h
        · have h := h.2 hc_24
          refine ru_go (t := (127, [some (.inr (some a0)), some (.inl x1), some (.inl x2), some (.inl 0), some (.inl ((sm_I M b_12 (x1).toNatClampNeg) - (sm_I M b_16 (x1).toNatClampNeg)))], [.inl ((sm_I M b_12 (x1).toNatClampNeg) - (sm_I M b_16 (x1).toNatClampNeg)), .inl x1, .inr (sm_R M a0 28)], M)) sm_a163_125 rfl rfl rfl ?_
          refine ru_go (t := (136, [some (.inr (some a0)), some (.inl x1), some (.inl x2), some (.inl 0), some (.inl ((sm_I M b_12 (x1).toNatClampNeg) - (sm_I M b_16 (x1).toNatClampNeg)))], [.inl ((sm_I M b_12 (x1).toNatClampNeg) - (sm_I M b_16 (x1).toNatClampNeg)), .inl x1, .inr (sm_R M a0 28)], M)) sm_a163_127 rfl rfl (st_goto (pc := 127) (by decide)) ?_
          obtain ⟨b_33, hb_34, h⟩ := h
          rw [hb_34]
          obtain ⟨h_35, h⟩ := h
          obtain ⟨h_36, h⟩ := h
          refine ru_go (t := (137, [some (.inr (some a0)), some (.inl x1), some (.inl x2), some (.inl 0), some (.inl ((sm_I M b_12 (x1).toNatClampNeg) - (sm_I M b_16 (x1).toNatClampNeg)))], [], sm_putI M b_33 (x1).toNatClampNeg ((sm_I M b_12 (x1).toNatClampNeg) - (sm_I M b_16 (x1).toNatClampNeg)))) sm_a163_136 rfl rfl (st_iast h_35 h_36) ?_
          refine ru_go (t := (138, [some (.inr (some a0)), some (.inl x1), some (.inl x2), some (.inl 0), some (.inl ((sm_I M b_12 (x1).toNatClampNeg) - (sm_I M b_16 (x1).toNatClampNeg)))], [.inl 0], sm_putI M b_33 (x1).toNatClampNeg ((sm_I M b_12 (x1).toNatClampNeg) - (sm_I M b_16 (x1).toNatClampNeg)))) sm_a163_137 rfl rfl (st_iconst (by decide)) ?_
          refine ru_go (t := (140, [some (.inr (some a0)), some (.inl x1), some (.inl x2), some (.inl 0), some (.inl 0)], [], sm_putI M b_33 (x1).toNatClampNeg ((sm_I M b_12 (x1).toNatClampNeg) - (sm_I M b_16 (x1).toNatClampNeg)))) sm_a163_138 rfl rfl rfl ?_
          exact h
theorem bb_163_61 {d : Nat} {M : sm_M} {Q : Option sm_V → sm_M → Prop} {a0 : Nat} {x1 : Int32} {x2 : Int32} {x3 : Int32} {z4 : Option sm_V}
    (h : sm_K M a0 = 39 ∧ ∃ b_2, sm_R M a0 21 = some b_2 ∧ sm_wA 1 M b_2 ∧ sm_in_ M b_2 x1 ∧ sm_Run d 160 0 (sm_ent 160 [.inr (some a0), .inl x1, .inl 14, .inl 0]) [] (sm_putI M b_2 (x1).toNatClampNeg 1) (fun v M1 => sm_Run (d + 1) 163 76 [some (.inr (some a0)), some (.inl x1), some (.inl x2), some (.inl x3), z4] (v.toList ++ []) M1 Q)) :
    sm_Run (d + 1) 163 61 [some (.inr (some a0)), some (.inl x1), some (.inl x2), some (.inl x3), z4] [] M Q := by
  refine ru_go (t := (62, [some (.inr (some a0)), some (.inl x1), some (.inl x2), some (.inl x3), z4], [.inr (some a0)], M)) sm_a163_61 rfl rfl rfl ?_
  obtain ⟨h_1, h⟩ := h
  refine ru_go (t := (65, [some (.inr (some a0)), some (.inl x1), some (.inl x2), some (.inl x3), z4], [.inr (sm_R M a0 21)], M)) sm_a163_62 rfl rfl (st_getR h_1 rfl rfl) ?_
  refine ru_go (t := (66, [some (.inr (some a0)), some (.inl x1), some (.inl x2), some (.inl x3), z4], [.inl x1, .inr (sm_R M a0 21)], M)) sm_a163_65 rfl rfl rfl ?_
  refine ru_go (t := (67, [some (.inr (some a0)), some (.inl x1), some (.inl x2), some (.inl x3), z4], [.inl 1, .inl x1, .inr (sm_R M a0 21)], M)) sm_a163_66 rfl rfl (st_iconst (by decide)) ?_
  obtain ⟨b_2, hb_3, h⟩ := h
  rw [hb_3]
  obtain ⟨h_4, h⟩ := h
  obtain ⟨h_5, h⟩ := h
  refine ru_go (t := (68, [some (.inr (some a0)), some (.inl x1), some (.inl x2), some (.inl x3), z4], [], sm_putI M b_2 (x1).toNatClampNeg 1)) sm_a163_67 rfl rfl (st_iast h_4 h_5) ?_
  refine ru_go (t := (69, [some (.inr (some a0)), some (.inl x1), some (.inl x2), some (.inl x3), z4], [.inr (some a0)], sm_putI M b_2 (x1).toNatClampNeg 1)) sm_a163_68 rfl rfl rfl ?_
  refine ru_go (t := (70, [some (.inr (some a0)), some (.inl x1), some (.inl x2), some (.inl x3), z4], [.inl x1, .inr (some a0)], sm_putI M b_2 (x1).toNatClampNeg 1)) sm_a163_69 rfl rfl rfl ?_
  refine ru_go (t := (72, [some (.inr (some a0)), some (.inl x1), some (.inl x2), some (.inl x3), z4], [.inl 14, .inl x1, .inr (some a0)], sm_putI M b_2 (x1).toNatClampNeg 1)) sm_a163_70 rfl rfl (st_bipush (by decide)) ?_
  refine ru_go (t := (73, [some (.inr (some a0)), some (.inl x1), some (.inl x2), some (.inl x3), z4], [.inl 0, .inl 14, .inl x1, .inr (some a0)], sm_putI M b_2 (x1).toNatClampNeg 1)) sm_a163_72 rfl rfl (st_iconst (by decide)) ?_
  exact ru_call (p := 76) sm_a163_73 rfl (sc_virt (Or.inl rfl) rfl rfl h_1 (Nat.le_of_ble_eq_true rfl)) rfl h
theorem bb_163_76 {d : Nat} {M : sm_M} {Q : Option sm_V → sm_M → Prop} {a0 : Nat} {x1 : Int32} {x2 : Int32} {x3 : Int32} {z4 : Option sm_V}
    (h : Q none M) :
    sm_Run (d + 1) 163 76 [some (.inr (some a0)), some (.inl x1), some (.inl x2), some (.inl x3), z4] [] M Q := by
  refine ru_go (t := (265, [some (.inr (some a0)), some (.inl x1), some (.inl x2), some (.inl x3), z4], [], M)) sm_a163_76 rfl rfl (st_goto (pc := 76) (by decide)) ?_
  exact ru_ret sm_a163_265 (sm_rvv rfl) h
theorem bb_163_140 {d : Nat} {M : sm_M} {Q : Option sm_V → sm_M → Prop} {a0 : Nat} {x1 : Int32} {x2 : Int32} {x3 : Int32} {x4 : Int32}
    (h : sm_K M a0 = 39 ∧ ∃ b_2, sm_R M a0 28 = some b_2 ∧ sm_iA M b_2 ∧ sm_in_ M b_2 x1 ∧ (((sm_I M b_2 (x1).toNatClampNeg) ≤ x4 → ∃ b_7, sm_R M a0 23 = some b_7 ∧ sm_iA M b_7 ∧ sm_in_ M b_7 x1 ∧ ((¬ (sm_I M b_7 (x1).toNatClampNeg) = 1 → ∃ b_12, sm_R M a0 28 = some b_12 ∧ sm_iA M b_12 ∧ sm_in_ M b_12 x1 ∧ sm_Run d 160 0 (sm_ent 160 [.inr (some a0), .inl x1, .inl 3, .inl (sm_I M b_12 (x1).toNatClampNeg)]) [] M (fun v M1 => sm_Run (d + 1) 163 210 [some (.inr (some a0)), some (.inl x1), some (.inl x2), some (.inl x3), some (.inl x4)] (v.toList ++ []) M1 Q)) ∧ (¬ (¬ (sm_I M b_7 (x1).toNatClampNeg) = 1) → ∃ b_16, sm_R M a0 28 = some b_16 ∧ sm_iA M b_16 ∧ sm_in_ M b_16 x1 ∧ sm_Run d 160 0 (sm_ent 160 [.inr (some a0), .inl x1, .inl 11, .inl (sm_I M b_16 (x1).toNatClampNeg)]) [] M (fun v M1 => sm_Run (d + 1) 163 210 [some (.inr (some a0)), some (.inl x1), some (.inl x2), some (.inl x3), some (.inl x4)] (v.toList ++ []) M1 Q)))) ∧ (¬ ((sm_I M b_2 (x1).toNatClampNeg) ≤ x4) → ∃ b_20, sm_R M a0 26 = some b_20 ∧ sm_iA M b_20 ∧ sm_in_ M b_20 x1 ∧ ∃ b_24, sm_R M a0 29 = some b_24 ∧ sm_iA M b_24 ∧ sm_in_ M b_24 (((100 * x1) + (sm_I M b_20 (x1).toNatClampNeg)) + x4) ∧ ∃ b_28, sm_R M a0 52 = some b_28 ∧ sm_wA 1 M b_28 ∧ sm_in_ M b_28 x4 ∧ sm_Run (d + 1) 163 140 [some (.inr (some a0)), some (.inl x1), some (.inl x2), some (.inl x3), some (.inl (x4 + 1))] [] (sm_putI M b_28 (x4).toNatClampNeg (sm_I M b_24 (((100 * x1) + (sm_I M b_20 (x1).toNatClampNeg)) + x4).toNatClampNeg)) Q))) :
    sm_Run (d + 1) 163 140 [some (.inr (some a0)), some (.inl x1), some (.inl x2), some (.inl x3), some (.inl x4)] [] M Q := by
  refine ru_go (t := (142, [some (.inr (some a0)), some (.inl x1), some (.inl x2), some (.inl x3), some (.inl x4)], [.inl x4], M)) sm_a163_140 rfl rfl rfl ?_
  refine ru_go (t := (143, [some (.inr (some a0)), some (.inl x1), some (.inl x2), some (.inl x3), some (.inl x4)], [.inr (some a0), .inl x4], M)) sm_a163_142 rfl rfl rfl ?_
  obtain ⟨h_1, h⟩ := h
  refine ru_go (t := (146, [some (.inr (some a0)), some (.inl x1), some (.inl x2), some (.inl x3), some (.inl x4)], [.inr (sm_R M a0 28), .inl x4], M)) sm_a163_143 rfl rfl (st_getR h_1 rfl rfl) ?_
  refine ru_go (t := (147, [some (.inr (some a0)), some (.inl x1), some (.inl x2), some (.inl x3), some (.inl x4)], [.inl x1, .inr (sm_R M a0 28), .inl x4], M)) sm_a163_146 rfl rfl rfl ?_
  obtain ⟨b_2, hb_3, h⟩ := h
  rw [hb_3]
  obtain ⟨h_4, h⟩ := h
  obtain ⟨h_5, h⟩ := h
  refine ru_go (t := (148, [some (.inr (some a0)), some (.inl x1), some (.inl x2), some (.inl x3), some (.inl x4)], [.inl (sm_I M b_2 (x1).toNatClampNeg), .inl x4], M)) sm_a163_147 rfl rfl (st_iald h_4 h_5) ?_
  refine ru_icmp (pc := 148) (p := 183) (p2 := 151) sm_a163_148 (by decide) rfl ⟨fun hc_6 => ?_, fun hc_6 => ?_⟩
  · have h := h.1 hc_6
    refine ru_go (t := (184, [some (.inr (some a0)), some (.inl x1), some (.inl x2), some (.inl x3), some (.inl x4)], [.inr (some a0)], M)) sm_a163_183 rfl rfl rfl ?_
    refine ru_go (t := (185, [some (.inr (some a0)), some (.inl x1), some (.inl x2), some (.inl x3), some (.inl x4)], [.inl x1, .inr (some a0)], M)) sm_a163_184 rfl rfl rfl ?_
    refine ru_go (t := (186, [some (.inr (some a0)), some (.inl x1), some (.inl x2), some (.inl x3), some (.inl x4)], [.inr (some a0), .inl x1, .inr (some a0)], M)) sm_a163_185 rfl rfl rfl ?_
    refine ru_go (t := (189, [some (.inr (some a0)), some (.inl x1), some (.inl x2), some (.inl x3), some (.inl x4)], [.inr (sm_R M a0 23), .inl x1, .inr (some a0)], M)) sm_a163_186 rfl rfl (st_getR h_1 rfl rfl) ?_
    refine ru_go (t := (190, [some (.inr (some a0)), some (.inl x1), some (.inl x2), some (.inl x3), some (.inl x4)], [.inl x1, .inr (sm_R M a0 23), .inl x1, .inr (some a0)], M)) sm_a163_189 rfl rfl rfl ?_
    obtain ⟨b_7, hb_8, h⟩ := h
    rw [hb_8]
    obtain ⟨h_9, h⟩ := h
    obtain ⟨h_10, h⟩ := h
    refine ru_go (t := (191, [some (.inr (some a0)), some (.inl x1), some (.inl x2), some (.inl x3), some (.inl x4)], [.inl (sm_I M b_7 (x1).toNatClampNeg), .inl x1, .inr (some a0)], M)) sm_a163_190 rfl rfl (st_iald h_9 h_10) ?_
    refine ru_go (t := (192, [some (.inr (some a0)), some (.inl x1), some (.inl x2), some (.inl x3), some (.inl x4)], [.inl 1, .inl (sm_I M b_7 (x1).toNatClampNeg), .inl x1, .inr (some a0)], M)) sm_a163_191 rfl rfl (st_iconst (by decide)) ?_
    refine ru_icmp (pc := 192) (p := 200) (p2 := 195) sm_a163_192 (by decide) rfl ⟨fun hc_11 => ?_, fun hc_11 => ?_⟩
    · have h := h.1 hc_11
      refine ru_go (t := (201, [some (.inr (some a0)), some (.inl x1), some (.inl x2), some (.inl x3), some (.inl x4)], [.inl 3, .inl x1, .inr (some a0)], M)) sm_a163_200 rfl rfl (st_iconst (by decide)) ?_
      refine ru_go (t := (202, [some (.inr (some a0)), some (.inl x1), some (.inl x2), some (.inl x3), some (.inl x4)], [.inr (some a0), .inl 3, .inl x1, .inr (some a0)], M)) sm_a163_201 rfl rfl rfl ?_
      refine ru_go (t := (205, [some (.inr (some a0)), some (.inl x1), some (.inl x2), some (.inl x3), some (.inl x4)], [.inr (sm_R M a0 28), .inl 3, .inl x1, .inr (some a0)], M)) sm_a163_202 rfl rfl (st_getR h_1 rfl rfl) ?_
      refine ru_go (t := (206, [some (.inr (some a0)), some (.inl x1), some (.inl x2), some (.inl x3), some (.inl x4)], [.inl x1, .inr (sm_R M a0 28), .inl 3, .inl x1, .inr (some a0)], M)) sm_a163_205 rfl rfl rfl ?_
      obtain ⟨b_12, hb_13, h⟩ := h
      rw [hb_13]
      obtain ⟨h_14, h⟩ := h
      obtain ⟨h_15, h⟩ := h
      refine ru_go (t := (207, [some (.inr (some a0)), some (.inl x1), some (.inl x2), some (.inl x3), some (.inl x4)], [.inl (sm_I M b_12 (x1).toNatClampNeg), .inl 3, .inl x1, .inr (some a0)], M)) sm_a163_206 rfl rfl (st_iald h_14 h_15) ?_
      exact ru_call (p := 210) sm_a163_207 rfl (sc_virt (Or.inl rfl) rfl rfl h_1 (Nat.le_of_ble_eq_true rfl)) rfl h
    · have h := h.2 hc_11
      refine ru_go (t := (197, [some (.inr (some a0)), some (.inl x1), some (.inl x2), some (.inl x3), some (.inl x4)], [.inl 11, .inl x1, .inr (some a0)], M)) sm_a163_195 rfl rfl (st_bipush (by decide)) ?_
      refine ru_go (t := (201, [some (.inr (some a0)), some (.inl x1), some (.inl x2), some (.inl x3), some (.inl x4)], [.inl 11, .inl x1, .inr (some a0)], M)) sm_a163_197 rfl rfl (st_goto (pc := 197) (by decide)) ?_
      refine ru_go (t := (202, [some (.inr (some a0)), some (.inl x1), some (.inl x2), some (.inl x3), some (.inl x4)], [.inr (some a0), .inl 11, .inl x1, .inr (some a0)], M)) sm_a163_201 rfl rfl rfl ?_
      refine ru_go (t := (205, [some (.inr (some a0)), some (.inl x1), some (.inl x2), some (.inl x3), some (.inl x4)], [.inr (sm_R M a0 28), .inl 11, .inl x1, .inr (some a0)], M)) sm_a163_202 rfl rfl (st_getR h_1 rfl rfl) ?_
      refine ru_go (t := (206, [some (.inr (some a0)), some (.inl x1), some (.inl x2), some (.inl x3), some (.inl x4)], [.inl x1, .inr (sm_R M a0 28), .inl 11, .inl x1, .inr (some a0)], M)) sm_a163_205 rfl rfl rfl ?_
      obtain ⟨b_16, hb_17, h⟩ := h
      rw [hb_17]
      obtain ⟨h_18, h⟩ := h
      obtain ⟨h_19, h⟩ := h
      refine ru_go (t := (207, [some (.inr (some a0)), some (.inl x1), some (.inl x2), some (.inl x3), some (.inl x4)], [.inl (sm_I M b_16 (x1).toNatClampNeg), .inl 11, .inl x1, .inr (some a0)], M)) sm_a163_206 rfl rfl (st_iald h_18 h_19) ?_
      exact ru_call (p := 210) sm_a163_207 rfl (sc_virt (Or.inl rfl) rfl rfl h_1 (Nat.le_of_ble_eq_true rfl)) rfl h
  · have h := h.2 hc_6
    refine ru_go (t := (152, [some (.inr (some a0)), some (.inl x1), some (.inl x2), some (.inl x3), some (.inl x4)], [.inr (some a0)], M)) sm_a163_151 rfl rfl rfl ?_
    refine ru_go (t := (155, [some (.inr (some a0)), some (.inl x1), some (.inl x2), some (.inl x3), some (.inl x4)], [.inr (sm_R M a0 52)], M)) sm_a163_152 rfl rfl (st_getR h_1 rfl rfl) ?_
    refine ru_go (t := (157, [some (.inr (some a0)), some (.inl x1), some (.inl x2), some (.inl x3), some (.inl x4)], [.inl x4, .inr (sm_R M a0 52)], M)) sm_a163_155 rfl rfl rfl ?_
    refine ru_go (t := (158, [some (.inr (some a0)), some (.inl x1), some (.inl x2), some (.inl x3), some (.inl x4)], [.inr (some a0), .inl x4, .inr (sm_R M a0 52)], M)) sm_a163_157 rfl rfl rfl ?_
    refine ru_go (t := (161, [some (.inr (some a0)), some (.inl x1), some (.inl x2), some (.inl x3), some (.inl x4)], [.inr (sm_R M a0 29), .inl x4, .inr (sm_R M a0 52)], M)) sm_a163_158 rfl rfl (st_getR h_1 rfl rfl) ?_
    refine ru_go (t := (163, [some (.inr (some a0)), some (.inl x1), some (.inl x2), some (.inl x3), some (.inl x4)], [.inl 100, .inr (sm_R M a0 29), .inl x4, .inr (sm_R M a0 52)], M)) sm_a163_161 rfl rfl (st_bipush (by decide)) ?_
    refine ru_go (t := (164, [some (.inr (some a0)), some (.inl x1), some (.inl x2), some (.inl x3), some (.inl x4)], [.inl x1, .inl 100, .inr (sm_R M a0 29), .inl x4, .inr (sm_R M a0 52)], M)) sm_a163_163 rfl rfl rfl ?_
    refine ru_go (t := (165, [some (.inr (some a0)), some (.inl x1), some (.inl x2), some (.inl x3), some (.inl x4)], [.inl (100 * x1), .inr (sm_R M a0 29), .inl x4, .inr (sm_R M a0 52)], M)) sm_a163_164 rfl rfl rfl ?_
    refine ru_go (t := (166, [some (.inr (some a0)), some (.inl x1), some (.inl x2), some (.inl x3), some (.inl x4)], [.inr (some a0), .inl (100 * x1), .inr (sm_R M a0 29), .inl x4, .inr (sm_R M a0 52)], M)) sm_a163_165 rfl rfl rfl ?_
    refine ru_go (t := (169, [some (.inr (some a0)), some (.inl x1), some (.inl x2), some (.inl x3), some (.inl x4)], [.inr (sm_R M a0 26), .inl (100 * x1), .inr (sm_R M a0 29), .inl x4, .inr (sm_R M a0 52)], M)) sm_a163_166 rfl rfl (st_getR h_1 rfl rfl) ?_
    refine ru_go (t := (170, [some (.inr (some a0)), some (.inl x1), some (.inl x2), some (.inl x3), some (.inl x4)], [.inl x1, .inr (sm_R M a0 26), .inl (100 * x1), .inr (sm_R M a0 29), .inl x4, .inr (sm_R M a0 52)], M)) sm_a163_169 rfl rfl rfl ?_
    obtain ⟨b_20, hb_21, h⟩ := h
    rw [hb_21]
    obtain ⟨h_22, h⟩ := h
    obtain ⟨h_23, h⟩ := h
    refine ru_go (t := (171, [some (.inr (some a0)), some (.inl x1), some (.inl x2), some (.inl x3), some (.inl x4)], [.inl (sm_I M b_20 (x1).toNatClampNeg), .inl (100 * x1), .inr (sm_R M a0 29), .inl x4, .inr (sm_R M a0 52)], M)) sm_a163_170 rfl rfl (st_iald h_22 h_23) ?_
    refine ru_go (t := (172, [some (.inr (some a0)), some (.inl x1), some (.inl x2), some (.inl x3), some (.inl x4)], [.inl ((100 * x1) + (sm_I M b_20 (x1).toNatClampNeg)), .inr (sm_R M a0 29), .inl x4, .inr (sm_R M a0 52)], M)) sm_a163_171 rfl rfl rfl ?_
    refine ru_go (t := (174, [some (.inr (some a0)), some (.inl x1), some (.inl x2), some (.inl x3), some (.inl x4)], [.inl x4, .inl ((100 * x1) + (sm_I M b_20 (x1).toNatClampNeg)), .inr (sm_R M a0 29), .inl x4, .inr (sm_R M a0 52)], M)) sm_a163_172 rfl rfl rfl ?_
    refine ru_go (t := (175, [some (.inr (some a0)), some (.inl x1), some (.inl x2), some (.inl x3), some (.inl x4)], [.inl (((100 * x1) + (sm_I M b_20 (x1).toNatClampNeg)) + x4), .inr (sm_R M a0 29), .inl x4, .inr (sm_R M a0 52)], M)) sm_a163_174 rfl rfl rfl ?_
    obtain ⟨b_24, hb_25, h⟩ := h
    rw [hb_25]
    obtain ⟨h_26, h⟩ := h
    obtain ⟨h_27, h⟩ := h
    refine ru_go (t := (176, [some (.inr (some a0)), some (.inl x1), some (.inl x2), some (.inl x3), some (.inl x4)], [.inl (sm_I M b_24 (((100 * x1) + (sm_I M b_20 (x1).toNatClampNeg)) + x4).toNatClampNeg), .inl x4, .inr (sm_R M a0 52)], M)) sm_a163_175 rfl rfl (st_iald h_26 h_27) ?_
    obtain ⟨b_28, hb_29, h⟩ := h
    rw [hb_29]
    obtain ⟨h_30, h⟩ := h
    obtain ⟨h_31, h⟩ := h
    refine ru_go (t := (177, [some (.inr (some a0)), some (.inl x1), some (.inl x2), some (.inl x3), some (.inl x4)], [], sm_putI M b_28 (x4).toNatClampNeg (sm_I M b_24 (((100 * x1) + (sm_I M b_20 (x1).toNatClampNeg)) + x4).toNatClampNeg))) sm_a163_176 rfl rfl (st_iast h_30 h_31) ?_
    refine ru_go (t := (180, [some (.inr (some a0)), some (.inl x1), some (.inl x2), some (.inl x3), some (.inl (x4 + 1))], [], sm_putI M b_28 (x4).toNatClampNeg (sm_I M b_24 (((100 * x1) + (sm_I M b_20 (x1).toNatClampNeg)) + x4).toNatClampNeg))) sm_a163_177 rfl rfl (st_iinc rfl (by decide)) ?_
    refine ru_go (t := (140, [some (.inr (some a0)), some (.inl x1), some (.inl x2), some (.inl x3), some (.inl (x4 + 1))], [], sm_putI M b_28 (x4).toNatClampNeg (sm_I M b_24 (((100 * x1) + (sm_I M b_20 (x1).toNatClampNeg)) + x4).toNatClampNeg))) sm_a163_180 rfl rfl (st_goto (pc := 180) (by decide)) ?_
    exact h
theorem bb_163_210 {d : Nat} {M : sm_M} {Q : Option sm_V → sm_M → Prop} {a0 : Nat} {x1 : Int32} {x2 : Int32} {x3 : Int32} {x4 : Int32}
    (h : sm_K M a0 = 39 ∧ ∃ b_2, sm_R M a0 19 = some b_2 ∧ sm_wA 1 M b_2 ∧ sm_in_ M b_2 x1 ∧ ∃ b_6, sm_R (sm_putI M b_2 (x1).toNatClampNeg 3) a0 20 = some b_6 ∧ sm_wA 1 M b_6 ∧ sm_in_ M b_6 x1 ∧ Q none (sm_putI (sm_putI M b_2 (x1).toNatClampNeg 3) b_6 (x1).toNatClampNeg 0)) :
    sm_Run (d + 1) 163 210 [some (.inr (some a0)), some (.inl x1), some (.inl x2), some (.inl x3), some (.inl x4)] [] M Q := by
  refine ru_go (t := (211, [some (.inr (some a0)), some (.inl x1), some (.inl x2), some (.inl x3), some (.inl x4)], [.inr (some a0)], M)) sm_a163_210 rfl rfl rfl ?_
  obtain ⟨h_1, h⟩ := h
  refine ru_go (t := (214, [some (.inr (some a0)), some (.inl x1), some (.inl x2), some (.inl x3), some (.inl x4)], [.inr (sm_R M a0 19)], M)) sm_a163_211 rfl rfl (st_getR h_1 rfl rfl) ?_
  refine ru_go (t := (215, [some (.inr (some a0)), some (.inl x1), some (.inl x2), some (.inl x3), some (.inl x4)], [.inl x1, .inr (sm_R M a0 19)], M)) sm_a163_214 rfl rfl rfl ?_
  refine ru_go (t := (216, [some (.inr (some a0)), some (.inl x1), some (.inl x2), some (.inl x3), some (.inl x4)], [.inl 3, .inl x1, .inr (sm_R M a0 19)], M)) sm_a163_215 rfl rfl (st_iconst (by decide)) ?_
  obtain ⟨b_2, hb_3, h⟩ := h
  rw [hb_3]
  obtain ⟨h_4, h⟩ := h
  obtain ⟨h_5, h⟩ := h
  refine ru_go (t := (217, [some (.inr (some a0)), some (.inl x1), some (.inl x2), some (.inl x3), some (.inl x4)], [], sm_putI M b_2 (x1).toNatClampNeg 3)) sm_a163_216 rfl rfl (st_iast h_4 h_5) ?_
  refine ru_go (t := (218, [some (.inr (some a0)), some (.inl x1), some (.inl x2), some (.inl x3), some (.inl x4)], [.inr (some a0)], sm_putI M b_2 (x1).toNatClampNeg 3)) sm_a163_217 rfl rfl rfl ?_
  refine ru_go (t := (221, [some (.inr (some a0)), some (.inl x1), some (.inl x2), some (.inl x3), some (.inl x4)], [.inr (sm_R (sm_putI M b_2 (x1).toNatClampNeg 3) a0 20)], sm_putI M b_2 (x1).toNatClampNeg 3)) sm_a163_218 rfl rfl (st_getR h_1 rfl rfl) ?_
  refine ru_go (t := (222, [some (.inr (some a0)), some (.inl x1), some (.inl x2), some (.inl x3), some (.inl x4)], [.inl x1, .inr (sm_R (sm_putI M b_2 (x1).toNatClampNeg 3) a0 20)], sm_putI M b_2 (x1).toNatClampNeg 3)) sm_a163_221 rfl rfl rfl ?_
  refine ru_go (t := (223, [some (.inr (some a0)), some (.inl x1), some (.inl x2), some (.inl x3), some (.inl x4)], [.inl 0, .inl x1, .inr (sm_R (sm_putI M b_2 (x1).toNatClampNeg 3) a0 20)], sm_putI M b_2 (x1).toNatClampNeg 3)) sm_a163_222 rfl rfl (st_iconst (by decide)) ?_
  obtain ⟨b_6, hb_7, h⟩ := h
  rw [hb_7]
  obtain ⟨h_8, h⟩ := h
  obtain ⟨h_9, h⟩ := h
  refine ru_go (t := (224, [some (.inr (some a0)), some (.inl x1), some (.inl x2), some (.inl x3), some (.inl x4)], [], sm_putI (sm_putI M b_2 (x1).toNatClampNeg 3) b_6 (x1).toNatClampNeg 0)) sm_a163_223 rfl rfl (st_iast h_8 h_9) ?_
  refine ru_go (t := (265, [some (.inr (some a0)), some (.inl x1), some (.inl x2), some (.inl x3), some (.inl x4)], [], sm_putI (sm_putI M b_2 (x1).toNatClampNeg 3) b_6 (x1).toNatClampNeg 0)) sm_a163_224 rfl rfl (st_goto (pc := 224) (by decide)) ?_
  exact ru_ret sm_a163_265 (sm_rvv rfl) h
theorem bb_163_240 {d : Nat} {M : sm_M} {Q : Option sm_V → sm_M → Prop} {a0 : Nat} {x1 : Int32} {x2 : Int32} {x3 : Int32} {z4 : Option sm_V}
    (h : sm_K M a0 = 39 ∧ ∃ b_2, sm_R M a0 19 = some b_2 ∧ sm_wA 1 M b_2 ∧ sm_in_ M b_2 x1 ∧ ∃ b_6, sm_R (sm_putI M b_2 (x1).toNatClampNeg 3) a0 20 = some b_6 ∧ sm_wA 1 M b_6 ∧ sm_in_ M b_6 x1 ∧ Q none (sm_putI (sm_putI M b_2 (x1).toNatClampNeg 3) b_6 (x1).toNatClampNeg 0)) :
    sm_Run (d + 1) 163 240 [some (.inr (some a0)), some (.inl x1), some (.inl x2), some (.inl x3), z4] [] M Q := by
  refine ru_go (t := (241, [some (.inr (some a0)), some (.inl x1), some (.inl x2), some (.inl x3), z4], [.inr (some a0)], M)) sm_a163_240 rfl rfl rfl ?_
  obtain ⟨h_1, h⟩ := h
  refine ru_go (t := (244, [some (.inr (some a0)), some (.inl x1), some (.inl x2), some (.inl x3), z4], [.inr (sm_R M a0 19)], M)) sm_a163_241 rfl rfl (st_getR h_1 rfl rfl) ?_
  refine ru_go (t := (245, [some (.inr (some a0)), some (.inl x1), some (.inl x2), some (.inl x3), z4], [.inl x1, .inr (sm_R M a0 19)], M)) sm_a163_244 rfl rfl rfl ?_
  refine ru_go (t := (246, [some (.inr (some a0)), some (.inl x1), some (.inl x2), some (.inl x3), z4], [.inl 3, .inl x1, .inr (sm_R M a0 19)], M)) sm_a163_245 rfl rfl (st_iconst (by decide)) ?_
  obtain ⟨b_2, hb_3, h⟩ := h
  rw [hb_3]
  obtain ⟨h_4, h⟩ := h
  obtain ⟨h_5, h⟩ := h
  refine ru_go (t := (247, [some (.inr (some a0)), some (.inl x1), some (.inl x2), some (.inl x3), z4], [], sm_putI M b_2 (x1).toNatClampNeg 3)) sm_a163_246 rfl rfl (st_iast h_4 h_5) ?_
  refine ru_go (t := (248, [some (.inr (some a0)), some (.inl x1), some (.inl x2), some (.inl x3), z4], [.inr (some a0)], sm_putI M b_2 (x1).toNatClampNeg 3)) sm_a163_247 rfl rfl rfl ?_
  refine ru_go (t := (251, [some (.inr (some a0)), some (.inl x1), some (.inl x2), some (.inl x3), z4], [.inr (sm_R (sm_putI M b_2 (x1).toNatClampNeg 3) a0 20)], sm_putI M b_2 (x1).toNatClampNeg 3)) sm_a163_248 rfl rfl (st_getR h_1 rfl rfl) ?_
  refine ru_go (t := (252, [some (.inr (some a0)), some (.inl x1), some (.inl x2), some (.inl x3), z4], [.inl x1, .inr (sm_R (sm_putI M b_2 (x1).toNatClampNeg 3) a0 20)], sm_putI M b_2 (x1).toNatClampNeg 3)) sm_a163_251 rfl rfl rfl ?_
  refine ru_go (t := (253, [some (.inr (some a0)), some (.inl x1), some (.inl x2), some (.inl x3), z4], [.inl 0, .inl x1, .inr (sm_R (sm_putI M b_2 (x1).toNatClampNeg 3) a0 20)], sm_putI M b_2 (x1).toNatClampNeg 3)) sm_a163_252 rfl rfl (st_iconst (by decide)) ?_
  obtain ⟨b_6, hb_7, h⟩ := h
  rw [hb_7]
  obtain ⟨h_8, h⟩ := h
  obtain ⟨h_9, h⟩ := h
  refine ru_go (t := (254, [some (.inr (some a0)), some (.inl x1), some (.inl x2), some (.inl x3), z4], [], sm_putI (sm_putI M b_2 (x1).toNatClampNeg 3) b_6 (x1).toNatClampNeg 0)) sm_a163_253 rfl rfl (st_iast h_8 h_9) ?_
  refine ru_go (t := (265, [some (.inr (some a0)), some (.inl x1), some (.inl x2), some (.inl x3), z4], [], sm_putI (sm_putI M b_2 (x1).toNatClampNeg 3) b_6 (x1).toNatClampNeg 0)) sm_a163_254 rfl rfl (st_goto (pc := 254) (by decide)) ?_
  exact ru_ret sm_a163_265 (sm_rvv rfl) h
theorem bb_163_265 {d : Nat} {M : sm_M} {Q : Option sm_V → sm_M → Prop} {a0 : Nat} {x1 : Int32} {x2 : Int32} {x3 : Int32} {z4 : Option sm_V}
    (h : Q none M) :
    sm_Run (d + 1) 163 265 [some (.inr (some a0)), some (.inl x1), some (.inl x2), some (.inl x3), z4] [] M Q := by
  exact ru_ret sm_a163_265 (sm_rvv rfl) h

/-! WireBusModel.acked:(II)V -/
theorem sm_a164_0 : sm_at 164 0 = some (.iload_n 2, 1, (0, 0, 0, 0)) := by decide +kernel
theorem sm_a164_1 : sm_at 164 1 = some (.ifCond .le 118, 3, (0, 0, 0, 0)) := by decide +kernel
theorem sm_a164_4 : sm_at 164 4 = some (.aload_n 0, 1, (0, 0, 0, 0)) := by decide +kernel
theorem sm_a164_5 : sm_at 164 5 = some (.iload_n 1, 1, (0, 0, 0, 0)) := by decide +kernel
theorem sm_a164_6 : sm_at 164 6 = some (.iload_n 2, 1, (0, 0, 0, 0)) := by decide +kernel
theorem sm_a164_7 : sm_at 164 7 = some (.invokevirtual 296, 3, (10, 155, 12, 1470)) := by decide +kernel
theorem sm_a164_10 : sm_at 164 10 = some (.istore_n 3, 1, (0, 0, 0, 0)) := by decide +kernel
theorem sm_a164_11 : sm_at 164 11 = some (.aload_n 0, 1, (0, 0, 0, 0)) := by decide +kernel
theorem sm_a164_12 : sm_at 164 12 = some (.getfield 53, 3, (12, 16, 0, 1199)) := by decide +kernel
theorem sm_a164_15 : sm_at 164 15 = some (.iload_n 3, 1, (0, 0, 0, 0)) := by decide +kernel
theorem sm_a164_16 : sm_at 164 16 = some (.iaload, 1, (0, 0, 0, 0)) := by decide +kernel
theorem sm_a164_17 : sm_at 164 17 = some (.iconst (-1), 1, (0, 0, 0, 0)) := by decide +kernel
theorem sm_a164_18 : sm_at 164 18 = some (.if_icmp .ne 4, 3, (0, 0, 0, 0)) := by decide +kernel
theorem sm_a164_21 : sm_at 164 21 = some (.return_, 1, (0, 0, 0, 0)) := by decide +kernel
theorem sm_a164_22 : sm_at 164 22 = some (.aload_n 0, 1, (0, 0, 0, 0)) := by decide +kernel
theorem sm_a164_23 : sm_at 164 23 = some (.getfield 53, 3, (12, 16, 0, 1199)) := by decide +kernel
theorem sm_a164_26 : sm_at 164 26 = some (.iload_n 3, 1, (0, 0, 0, 0)) := by decide +kernel
theorem sm_a164_27 : sm_at 164 27 = some (.iaload, 1, (0, 0, 0, 0)) := by decide +kernel
theorem sm_a164_28 : sm_at 164 28 = some (.istore 4, 2, (0, 0, 0, 0)) := by decide +kernel
theorem sm_a164_30 : sm_at 164 30 = some (.iload 4, 2, (0, 0, 0, 0)) := by decide +kernel
theorem sm_a164_32 : sm_at 164 32 = some (.aload_n 0, 1, (0, 0, 0, 0)) := by decide +kernel
theorem sm_a164_33 : sm_at 164 33 = some (.getfield 50, 3, (12, 15, 0, 1198)) := by decide +kernel
theorem sm_a164_36 : sm_at 164 36 = some (.iload_n 3, 1, (0, 0, 0, 0)) := by decide +kernel
theorem sm_a164_37 : sm_at 164 37 = some (.iaload, 1, (0, 0, 0, 0)) := by decide +kernel
theorem sm_a164_38 : sm_at 164 38 = some (.if_icmp .ge 42, 3, (0, 0, 0, 0)) := by decide +kernel
theorem sm_a164_41 : sm_at 164 41 = some (.aload_n 0, 1, (0, 0, 0, 0)) := by decide +kernel
theorem sm_a164_42 : sm_at 164 42 = some (.getfield 56, 3, (12, 17, 0, 1200)) := by decide +kernel
theorem sm_a164_45 : sm_at 164 45 = some (.sipush 256, 3, (0, 0, 0, 0)) := by decide +kernel
theorem sm_a164_48 : sm_at 164 48 = some (.iload_n 3, 1, (0, 0, 0, 0)) := by decide +kernel
theorem sm_a164_49 : sm_at 164 49 = some (.imul, 1, (0, 0, 0, 0)) := by decide +kernel
theorem sm_a164_50 : sm_at 164 50 = some (.iload 4, 2, (0, 0, 0, 0)) := by decide +kernel
theorem sm_a164_52 : sm_at 164 52 = some (.iadd, 1, (0, 0, 0, 0)) := by decide +kernel
theorem sm_a164_53 : sm_at 164 53 = some (.aload_n 0, 1, (0, 0, 0, 0)) := by decide +kernel
theorem sm_a164_54 : sm_at 164 54 = some (.getfield 53, 3, (12, 16, 0, 1199)) := by decide +kernel
theorem sm_a164_57 : sm_at 164 57 = some (.iload_n 3, 1, (0, 0, 0, 0)) := by decide +kernel
theorem sm_a164_58 : sm_at 164 58 = some (.iaload, 1, (0, 0, 0, 0)) := by decide +kernel
theorem sm_a164_59 : sm_at 164 59 = some (.isub, 1, (0, 0, 0, 0)) := by decide +kernel
theorem sm_a164_60 : sm_at 164 60 = some (.aload_n 0, 1, (0, 0, 0, 0)) := by decide +kernel
theorem sm_a164_61 : sm_at 164 61 = some (.getfield 56, 3, (12, 17, 0, 1200)) := by decide +kernel
theorem sm_a164_64 : sm_at 164 64 = some (.sipush 256, 3, (0, 0, 0, 0)) := by decide +kernel
theorem sm_a164_67 : sm_at 164 67 = some (.iload_n 3, 1, (0, 0, 0, 0)) := by decide +kernel
theorem sm_a164_68 : sm_at 164 68 = some (.imul, 1, (0, 0, 0, 0)) := by decide +kernel
theorem sm_a164_69 : sm_at 164 69 = some (.iload 4, 2, (0, 0, 0, 0)) := by decide +kernel
theorem sm_a164_71 : sm_at 164 71 = some (.iadd, 1, (0, 0, 0, 0)) := by decide +kernel
theorem sm_a164_72 : sm_at 164 72 = some (.iaload, 1, (0, 0, 0, 0)) := by decide +kernel
theorem sm_a164_73 : sm_at 164 73 = some (.iastore, 1, (1, 0, 0, 0)) := by decide +kernel
theorem sm_a164_74 : sm_at 164 74 = some (.iinc 4 1, 3, (0, 0, 0, 0)) := by decide +kernel
theorem sm_a164_77 : sm_at 164 77 = some (.goto (-47), 3, (0, 0, 0, 0)) := by decide +kernel
theorem sm_a164_80 : sm_at 164 80 = some (.aload_n 0, 1, (0, 0, 0, 0)) := by decide +kernel
theorem sm_a164_81 : sm_at 164 81 = some (.getfield 50, 3, (12, 15, 0, 1198)) := by decide +kernel
theorem sm_a164_84 : sm_at 164 84 = some (.iload_n 3, 1, (0, 0, 0, 0)) := by decide +kernel
theorem sm_a164_85 : sm_at 164 85 = some (.dup2, 1, (0, 0, 0, 0)) := by decide +kernel
theorem sm_a164_86 : sm_at 164 86 = some (.iaload, 1, (0, 0, 0, 0)) := by decide +kernel
theorem sm_a164_87 : sm_at 164 87 = some (.aload_n 0, 1, (0, 0, 0, 0)) := by decide +kernel
theorem sm_a164_88 : sm_at 164 88 = some (.getfield 53, 3, (12, 16, 0, 1199)) := by decide +kernel
theorem sm_a164_91 : sm_at 164 91 = some (.iload_n 3, 1, (0, 0, 0, 0)) := by decide +kernel
theorem sm_a164_92 : sm_at 164 92 = some (.iaload, 1, (0, 0, 0, 0)) := by decide +kernel
theorem sm_a164_93 : sm_at 164 93 = some (.isub, 1, (0, 0, 0, 0)) := by decide +kernel
theorem sm_a164_94 : sm_at 164 94 = some (.iastore, 1, (1, 0, 0, 0)) := by decide +kernel
theorem sm_a164_95 : sm_at 164 95 = some (.aload_n 0, 1, (0, 0, 0, 0)) := by decide +kernel
theorem sm_a164_96 : sm_at 164 96 = some (.getfield 53, 3, (12, 16, 0, 1199)) := by decide +kernel
theorem sm_a164_99 : sm_at 164 99 = some (.iload_n 3, 1, (0, 0, 0, 0)) := by decide +kernel
theorem sm_a164_100 : sm_at 164 100 = some (.iconst (-1), 1, (0, 0, 0, 0)) := by decide +kernel
theorem sm_a164_101 : sm_at 164 101 = some (.iastore, 1, (1, 0, 0, 0)) := by decide +kernel
theorem sm_a164_102 : sm_at 164 102 = some (.aload_n 0, 1, (0, 0, 0, 0)) := by decide +kernel
theorem sm_a164_103 : sm_at 164 103 = some (.getfield 43, 3, (12, 13, 0, 1196)) := by decide +kernel
theorem sm_a164_106 : sm_at 164 106 = some (.iload_n 3, 1, (0, 0, 0, 0)) := by decide +kernel
theorem sm_a164_107 : sm_at 164 107 = some (.iconst 1, 1, (0, 0, 0, 0)) := by decide +kernel
theorem sm_a164_108 : sm_at 164 108 = some (.aload_n 0, 1, (0, 0, 0, 0)) := by decide +kernel
theorem sm_a164_109 : sm_at 164 109 = some (.getfield 43, 3, (12, 13, 0, 1196)) := by decide +kernel
theorem sm_a164_112 : sm_at 164 112 = some (.iload_n 3, 1, (0, 0, 0, 0)) := by decide +kernel
theorem sm_a164_113 : sm_at 164 113 = some (.iaload, 1, (0, 0, 0, 0)) := by decide +kernel
theorem sm_a164_114 : sm_at 164 114 = some (.isub, 1, (0, 0, 0, 0)) := by decide +kernel
theorem sm_a164_115 : sm_at 164 115 = some (.iastore, 1, (1, 0, 0, 0)) := by decide +kernel
theorem sm_a164_116 : sm_at 164 116 = some (.goto 131, 3, (0, 0, 0, 0)) := by decide +kernel
theorem sm_a164_119 : sm_at 164 119 = some (.aload_n 0, 1, (0, 0, 0, 0)) := by decide +kernel
theorem sm_a164_120 : sm_at 164 120 = some (.getfield 68, 3, (12, 21, 0, 1204)) := by decide +kernel
theorem sm_a164_123 : sm_at 164 123 = some (.iload_n 1, 1, (0, 0, 0, 0)) := by decide +kernel
theorem sm_a164_124 : sm_at 164 124 = some (.iaload, 1, (0, 0, 0, 0)) := by decide +kernel
theorem sm_a164_125 : sm_at 164 125 = some (.iconst 2, 1, (0, 0, 0, 0)) := by decide +kernel
theorem sm_a164_126 : sm_at 164 126 = some (.if_icmp .ne 68, 3, (0, 0, 0, 0)) := by decide +kernel
theorem sm_a164_129 : sm_at 164 129 = some (.aload_n 0, 1, (0, 0, 0, 0)) := by decide +kernel
theorem sm_a164_130 : sm_at 164 130 = some (.getfield 83, 3, (12, 26, 0, 1209)) := by decide +kernel
theorem sm_a164_133 : sm_at 164 133 = some (.iload_n 1, 1, (0, 0, 0, 0)) := by decide +kernel
theorem sm_a164_134 : sm_at 164 134 = some (.dup2, 1, (0, 0, 0, 0)) := by decide +kernel
theorem sm_a164_135 : sm_at 164 135 = some (.iaload, 1, (0, 0, 0, 0)) := by decide +kernel
theorem sm_a164_136 : sm_at 164 136 = some (.aload_n 0, 1, (0, 0, 0, 0)) := by decide +kernel
theorem sm_a164_137 : sm_at 164 137 = some (.getfield 89, 3, (12, 28, 0, 1211)) := by decide +kernel
theorem sm_a164_140 : sm_at 164 140 = some (.iload_n 1, 1, (0, 0, 0, 0)) := by decide +kernel
theorem sm_a164_141 : sm_at 164 141 = some (.iaload, 1, (0, 0, 0, 0)) := by decide +kernel
theorem sm_a164_142 : sm_at 164 142 = some (.iadd, 1, (0, 0, 0, 0)) := by decide +kernel
theorem sm_a164_143 : sm_at 164 143 = some (.iastore, 1, (1, 0, 0, 0)) := by decide +kernel
theorem sm_a164_144 : sm_at 164 144 = some (.aload_n 0, 1, (0, 0, 0, 0)) := by decide +kernel
theorem sm_a164_145 : sm_at 164 145 = some (.getfield 86, 3, (12, 27, 0, 1210)) := by decide +kernel
theorem sm_a164_148 : sm_at 164 148 = some (.iload_n 1, 1, (0, 0, 0, 0)) := by decide +kernel
theorem sm_a164_149 : sm_at 164 149 = some (.aload_n 0, 1, (0, 0, 0, 0)) := by decide +kernel
theorem sm_a164_150 : sm_at 164 150 = some (.getfield 89, 3, (12, 28, 0, 1211)) := by decide +kernel
theorem sm_a164_153 : sm_at 164 153 = some (.iload_n 1, 1, (0, 0, 0, 0)) := by decide +kernel
theorem sm_a164_154 : sm_at 164 154 = some (.iaload, 1, (0, 0, 0, 0)) := by decide +kernel
theorem sm_a164_155 : sm_at 164 155 = some (.aload_n 0, 1, (0, 0, 0, 0)) := by decide +kernel
theorem sm_a164_156 : sm_at 164 156 = some (.getfield 22, 3, (12, 6, 0, 1189)) := by decide +kernel
theorem sm_a164_159 : sm_at 164 159 = some (.iload_n 1, 1, (0, 0, 0, 0)) := by decide +kernel
theorem sm_a164_160 : sm_at 164 160 = some (.iaload, 1, (0, 0, 0, 0)) := by decide +kernel
theorem sm_a164_161 : sm_at 164 161 = some (.if_icmp .ge 7, 3, (0, 0, 0, 0)) := by decide +kernel
theorem sm_a164_164 : sm_at 164 164 = some (.iconst 1, 1, (0, 0, 0, 0)) := by decide +kernel
theorem sm_a164_165 : sm_at 164 165 = some (.goto 4, 3, (0, 0, 0, 0)) := by decide +kernel
theorem sm_a164_168 : sm_at 164 168 = some (.iconst 0, 1, (0, 0, 0, 0)) := by decide +kernel
theorem sm_a164_169 : sm_at 164 169 = some (.bastore, 1, (1, 0, 0, 0)) := by decide +kernel
theorem sm_a164_170 : sm_at 164 170 = some (.aload_n 0, 1, (0, 0, 0, 0)) := by decide +kernel
theorem sm_a164_171 : sm_at 164 171 = some (.getfield 89, 3, (12, 28, 0, 1211)) := by decide +kernel
theorem sm_a164_174 : sm_at 164 174 = some (.iload_n 1, 1, (0, 0, 0, 0)) := by decide +kernel
theorem sm_a164_175 : sm_at 164 175 = some (.iconst (-1), 1, (0, 0, 0, 0)) := by decide +kernel
theorem sm_a164_176 : sm_at 164 176 = some (.iastore, 1, (1, 0, 0, 0)) := by decide +kernel
theorem sm_a164_177 : sm_at 164 177 = some (.aload_n 0, 1, (0, 0, 0, 0)) := by decide +kernel
theorem sm_a164_178 : sm_at 164 178 = some (.getfield 74, 3, (12, 23, 0, 1206)) := by decide +kernel
theorem sm_a164_181 : sm_at 164 181 = some (.iload_n 1, 1, (0, 0, 0, 0)) := by decide +kernel
theorem sm_a164_182 : sm_at 164 182 = some (.iconst 1, 1, (0, 0, 0, 0)) := by decide +kernel
theorem sm_a164_183 : sm_at 164 183 = some (.aload_n 0, 1, (0, 0, 0, 0)) := by decide +kernel
theorem sm_a164_184 : sm_at 164 184 = some (.getfield 74, 3, (12, 23, 0, 1206)) := by decide +kernel
theorem sm_a164_187 : sm_at 164 187 = some (.iload_n 1, 1, (0, 0, 0, 0)) := by decide +kernel
theorem sm_a164_188 : sm_at 164 188 = some (.iaload, 1, (0, 0, 0, 0)) := by decide +kernel
theorem sm_a164_189 : sm_at 164 189 = some (.isub, 1, (0, 0, 0, 0)) := by decide +kernel
theorem sm_a164_190 : sm_at 164 190 = some (.iastore, 1, (1, 0, 0, 0)) := by decide +kernel
theorem sm_a164_191 : sm_at 164 191 = some (.goto 56, 3, (0, 0, 0, 0)) := by decide +kernel
theorem sm_a164_194 : sm_at 164 194 = some (.aload_n 0, 1, (0, 0, 0, 0)) := by decide +kernel
theorem sm_a164_195 : sm_at 164 195 = some (.getfield 68, 3, (12, 21, 0, 1204)) := by decide +kernel
theorem sm_a164_198 : sm_at 164 198 = some (.iload_n 1, 1, (0, 0, 0, 0)) := by decide +kernel
theorem sm_a164_199 : sm_at 164 199 = some (.iaload, 1, (0, 0, 0, 0)) := by decide +kernel
theorem sm_a164_200 : sm_at 164 200 = some (.iconst 4, 1, (0, 0, 0, 0)) := by decide +kernel
theorem sm_a164_201 : sm_at 164 201 = some (.if_icmp .ne 46, 3, (0, 0, 0, 0)) := by decide +kernel
theorem sm_a164_204 : sm_at 164 204 = some (.aload_n 0, 1, (0, 0, 0, 0)) := by decide +kernel
theorem sm_a164_205 : sm_at 164 205 = some (.getfield 68, 3, (12, 21, 0, 1204)) := by decide +kernel
theorem sm_a164_208 : sm_at 164 208 = some (.iload_n 1, 1, (0, 0, 0, 0)) := by decide +kernel
theorem sm_a164_209 : sm_at 164 209 = some (.iconst 5, 1, (0, 0, 0, 0)) := by decide +kernel
theorem sm_a164_210 : sm_at 164 210 = some (.iastore, 1, (1, 0, 0, 0)) := by decide +kernel
theorem sm_a164_211 : sm_at 164 211 = some (.aload_n 0, 1, (0, 0, 0, 0)) := by decide +kernel
theorem sm_a164_212 : sm_at 164 212 = some (.getfield 95, 3, (12, 30, 0, 1213)) := by decide +kernel
theorem sm_a164_215 : sm_at 164 215 = some (.iload_n 1, 1, (0, 0, 0, 0)) := by decide +kernel
theorem sm_a164_216 : sm_at 164 216 = some (.iaload, 1, (0, 0, 0, 0)) := by decide +kernel
theorem sm_a164_217 : sm_at 164 217 = some (.iconst (-1), 1, (0, 0, 0, 0)) := by decide +kernel
theorem sm_a164_218 : sm_at 164 218 = some (.if_icmp .eq 29, 3, (0, 0, 0, 0)) := by decide +kernel
theorem sm_a164_221 : sm_at 164 221 = some (.aload_n 0, 1, (0, 0, 0, 0)) := by decide +kernel
theorem sm_a164_222 : sm_at 164 222 = some (.getfield 19, 3, (12, 5, 0, 1188)) := by decide +kernel
theorem sm_a164_225 : sm_at 164 225 = some (.iload_n 1, 1, (0, 0, 0, 0)) := by decide +kernel
theorem sm_a164_226 : sm_at 164 226 = some (.aload_n 0, 1, (0, 0, 0, 0)) := by decide +kernel
theorem sm_a164_227 : sm_at 164 227 = some (.getfield 95, 3, (12, 30, 0, 1213)) := by decide +kernel
theorem sm_a164_230 : sm_at 164 230 = some (.iload_n 1, 1, (0, 0, 0, 0)) := by decide +kernel
theorem sm_a164_231 : sm_at 164 231 = some (.iaload, 1, (0, 0, 0, 0)) := by decide +kernel
theorem sm_a164_232 : sm_at 164 232 = some (.iastore, 1, (1, 0, 0, 0)) := by decide +kernel
theorem sm_a164_233 : sm_at 164 233 = some (.aload_n 0, 1, (0, 0, 0, 0)) := by decide +kernel
theorem sm_a164_234 : sm_at 164 234 = some (.getfield 16, 3, (12, 4, 0, 1187)) := by decide +kernel
theorem sm_a164_237 : sm_at 164 237 = some (.iload_n 1, 1, (0, 0, 0, 0)) := by decide +kernel
theorem sm_a164_238 : sm_at 164 238 = some (.iconst 2, 1, (0, 0, 0, 0)) := by decide +kernel
theorem sm_a164_239 : sm_at 164 239 = some (.iastore, 1, (1, 0, 0, 0)) := by decide +kernel
theorem sm_a164_240 : sm_at 164 240 = some (.aload_n 0, 1, (0, 0, 0, 0)) := by decide +kernel
theorem sm_a164_241 : sm_at 164 241 = some (.getfield 95, 3, (12, 30, 0, 1213)) := by decide +kernel
theorem sm_a164_244 : sm_at 164 244 = some (.iload_n 1, 1, (0, 0, 0, 0)) := by decide +kernel
theorem sm_a164_245 : sm_at 164 245 = some (.iconst (-1), 1, (0, 0, 0, 0)) := by decide +kernel
theorem sm_a164_246 : sm_at 164 246 = some (.iastore, 1, (1, 0, 0, 0)) := by decide +kernel
theorem sm_a164_247 : sm_at 164 247 = some (.return_, 1, (0, 0, 0, 0)) := by decide +kernel
theorem bb_164_0 {d : Nat} {M : sm_M} {Q : Option sm_V → sm_M → Prop} {a0 : Nat} {x1 : Int32} {x2 : Int32} {z3 : Option sm_V} {z4 : Option sm_V}
    (h : ((x2 ≤ 0 → sm_K M a0 = 39 ∧ ∃ b_3, sm_R M a0 21 = some b_3 ∧ sm_iA M b_3 ∧ sm_in_ M b_3 x1 ∧ ((¬ (sm_I M b_3 (x1).toNatClampNeg) = 2 → ∃ b_8, sm_R M a0 21 = some b_8 ∧ sm_iA M b_8 ∧ sm_in_ M b_8 x1 ∧ ((¬ (sm_I M b_8 (x1).toNatClampNeg) = 4 → Q none M) ∧ (¬ (¬ (sm_I M b_8 (x1).toNatClampNeg) = 4) → ∃ b_13, sm_R M a0 21 = some b_13 ∧ sm_wA 1 M b_13 ∧ sm_in_ M b_13 x1 ∧ ∃ b_17, sm_R (sm_putI M b_13 (x1).toNatClampNeg 5) a0 30 = some b_17 ∧ sm_iA M b_17 ∧ sm_in_ M b_17 x1 ∧ (((sm_I (sm_putI M b_13 (x1).toNatClampNeg 5) b_17 (x1).toNatClampNeg) = (-1) → Q none (sm_putI M b_13 (x1).toNatClampNeg 5)) ∧ (¬ ((sm_I (sm_putI M b_13 (x1).toNatClampNeg 5) b_17 (x1).toNatClampNeg) = (-1)) → ∃ b_22, sm_R (sm_putI M b_13 (x1).toNatClampNeg 5) a0 30 = some b_22 ∧ sm_iA M b_22 ∧ sm_in_ M b_22 x1 ∧ ∃ b_26, sm_R (sm_putI M b_13 (x1).toNatClampNeg 5) a0 5 = some b_26 ∧ sm_wA 1 M b_26 ∧ sm_in_ M b_26 x1 ∧ ∃ b_30, sm_R (sm_putI (sm_putI M b_13 (x1).toNatClampNeg 5) b_26 (x1).toNatClampNeg (sm_I (sm_putI M b_13 (x1).toNatClampNeg 5) b_22 (x1).toNatClampNeg)) a0 4 = some b_30 ∧ sm_wA 1 M b_30 ∧ sm_in_ M b_30 x1 ∧ ∃ b_34, sm_R (sm_putI (sm_putI (sm_putI M b_13 (x1).toNatClampNeg 5) b_26 (x1).toNatClampNeg (sm_I (sm_putI M b_13 (x1).toNatClampNeg 5) b_22 (x1).toNatClampNeg)) b_30 (x1).toNatClampNeg 2) a0 30 = some b_34 ∧ sm_wA 1 M b_34 ∧ sm_in_ M b_34 x1 ∧ Q none (sm_putI (sm_putI (sm_putI (sm_putI M b_13 (x1).toNatClampNeg 5) b_26 (x1).toNatClampNeg (sm_I (sm_putI M b_13 (x1).toNatClampNeg 5) b_22 (x1).toNatClampNeg)) b_30 (x1).toNatClampNeg 2) b_34 (x1).toNatClampNeg (-1))))))) ∧ (¬ (¬ (sm_I M b_3 (x1).toNatClampNeg) = 2) → ∃ b_38, sm_R M a0 26 = some b_38 ∧ sm_iA M b_38 ∧ sm_in_ M b_38 x1 ∧ ∃ b_42, sm_R M a0 28 = some b_42 ∧ sm_iA M b_42 ∧ sm_in_ M b_42 x1 ∧ sm_wA 1 M b_38 ∧ ∃ b_47, sm_R (sm_putI M b_38 (x1).toNatClampNeg ((sm_I M b_38 (x1).toNatClampNeg) + (sm_I M b_42 (x1).toNatClampNeg))) a0 28 = some b_47 ∧ sm_iA M b_47 ∧ sm_in_ M b_47 x1 ∧ ∃ b_51, sm_R (sm_putI M b_38 (x1).toNatClampNeg ((sm_I M b_38 (x1).toNatClampNeg) + (sm_I M b_42 (x1).toNatClampNeg))) a0 6 = some b_51 ∧ sm_iA M b_51 ∧ sm_in_ M b_51 x1 ∧ (((sm_I (sm_putI M b_38 (x1).toNatClampNeg ((sm_I M b_38 (x1).toNatClampNeg) + (sm_I M b_42 (x1).toNatClampNeg))) b_51 (x1).toNatClampNeg) ≤ (sm_I (sm_putI M b_38 (x1).toNatClampNeg ((sm_I M b_38 (x1).toNatClampNeg) + (sm_I M b_42 (x1).toNatClampNeg))) b_47 (x1).toNatClampNeg) → ∃ b_56, sm_R (sm_putI M b_38 (x1).toNatClampNeg ((sm_I M b_38 (x1).toNatClampNeg) + (sm_I M b_42 (x1).toNatClampNeg))) a0 27 = some b_56 ∧ sm_wZ 1 M b_56 ∧ sm_in_ M b_56 x1 ∧ ∃ b_60, sm_R (sm_putI (sm_putI M b_38 (x1).toNatClampNeg ((sm_I M b_38 (x1).toNatClampNeg) + (sm_I M b_42 (x1).toNatClampNeg))) b_56 (x1).toNatClampNeg 0) a0 28 = some b_60 ∧ sm_wA 1 M b_60 ∧ sm_in_ M b_60 x1 ∧ ∃ b_64, sm_R (sm_putI (sm_putI (sm_putI M b_38 (x1).toNatClampNeg ((sm_I M b_38 (x1).toNatClampNeg) + (sm_I M b_42 (x1).toNatClampNeg))) b_56 (x1).toNatClampNeg 0) b_60 (x1).toNatClampNeg (-1)) a0 23 = some b_64 ∧ sm_iA M b_64 ∧ sm_in_ M b_64 x1 ∧ sm_wA 1 M b_64 ∧ sm_Run (d + 1) 164 191 [some (.inr (some a0)), some (.inl x1), some (.inl x2), z3, z4] [] (sm_putI (sm_putI (sm_putI (sm_putI M b_38 (x1).toNatClampNeg ((sm_I M b_38 (x1).toNatClampNeg) + (sm_I M b_42 (x1).toNatClampNeg))) b_56 (x1).toNatClampNeg 0) b_60 (x1).toNatClampNeg (-1)) b_64 (x1).toNatClampNeg (1 - (sm_I (sm_putI (sm_putI (sm_putI M b_38 (x1).toNatClampNeg ((sm_I M b_38 (x1).toNatClampNeg) + (sm_I M b_42 (x1).toNatClampNeg))) b_56 (x1).toNatClampNeg 0) b_60 (x1).toNatClampNeg (-1)) b_64 (x1).toNatClampNeg))) Q) ∧ (¬ ((sm_I (sm_putI M b_38 (x1).toNatClampNeg ((sm_I M b_38 (x1).toNatClampNeg) + (sm_I M b_42 (x1).toNatClampNeg))) b_51 (x1).toNatClampNeg) ≤ (sm_I (sm_putI M b_38 (x1).toNatClampNeg ((sm_I M b_38 (x1).toNatClampNeg) + (sm_I M b_42 (x1).toNatClampNeg))) b_47 (x1).toNatClampNeg)) → ∃ b_69, sm_R (sm_putI M b_38 (x1).toNatClampNeg ((sm_I M b_38 (x1).toNatClampNeg) + (sm_I M b_42 (x1).toNatClampNeg))) a0 27 = some b_69 ∧ sm_wZ 1 M b_69 ∧ sm_in_ M b_69 x1 ∧ ∃ b_73, sm_R (sm_putI (sm_putI M b_38 (x1).toNatClampNeg ((sm_I M b_38 (x1).toNatClampNeg) + (sm_I M b_42 (x1).toNatClampNeg))) b_69 (x1).toNatClampNeg 1) a0 28 = some b_73 ∧ sm_wA 1 M b_73 ∧ sm_in_ M b_73 x1 ∧ ∃ b_77, sm_R (sm_putI (sm_putI (sm_putI M b_38 (x1).toNatClampNeg ((sm_I M b_38 (x1).toNatClampNeg) + (sm_I M b_42 (x1).toNatClampNeg))) b_69 (x1).toNatClampNeg 1) b_73 (x1).toNatClampNeg (-1)) a0 23 = some b_77 ∧ sm_iA M b_77 ∧ sm_in_ M b_77 x1 ∧ sm_wA 1 M b_77 ∧ sm_Run (d + 1) 164 191 [some (.inr (some a0)), some (.inl x1), some (.inl x2), z3, z4] [] (sm_putI (sm_putI (sm_putI (sm_putI M b_38 (x1).toNatClampNeg ((sm_I M b_38 (x1).toNatClampNeg) + (sm_I M b_42 (x1).toNatClampNeg))) b_69 (x1).toNatClampNeg 1) b_73 (x1).toNatClampNeg (-1)) b_77 (x1).toNatClampNeg (1 - (sm_I (sm_putI (sm_putI (sm_putI M b_38 (x1).toNatClampNeg ((sm_I M b_38 (x1).toNatClampNeg) + (sm_I M b_42 (x1).toNatClampNeg))) b_69 (x1).toNatClampNeg 1) b_73 (x1).toNatClampNeg (-1)) b_77 (x1).toNatClampNeg))) Q))))) ∧ (¬ (x2 ≤ 0) → sm_K M a0 = 39 ∧ sm_Run d 155 0 (sm_ent 155 [.inr (some a0), .inl x1, .inl x2]) [] M (fun v M1 => sm_Run (d + 1) 164 10 [some (.inr (some a0)), some (.inl x1), some (.inl x2), z3, z4] (v.toList ++ []) M1 Q)))) :
    sm_Run (d + 1) 164 0 [some (.inr (some a0)), some (.inl x1), some (.inl x2), z3, z4] [] M Q := by
  refine ru_go (t := (1, [some (.inr (some a0)), some (.inl x1), some (.inl x2), z3, z4], [.inl x2], M)) sm_a164_0 rfl rfl rfl ?_
  refine ru_if (pc := 1) (p := 119) (p2 := 4) sm_a164_1 (by decide) rfl ⟨fun hc_1 => ?_, fun hc_1 => ?_⟩
  · have h := h.1 hc_1
    refine ru_go (t := (120, [some (.inr (some a0)), some (.inl x1), some (.inl x2), z3, z4], [.inr (some a0)], M)) sm_a164_119 rfl rfl rfl ?_
    obtain ⟨h_2, h⟩ := h
    refine ru_go (t := (123, [some (.inr (some a0)), some (.inl x1), some (.inl x2), z3, z4], [.inr (sm_R M a0 21)], M)) sm_a164_120 rfl rfl (st_getR h_2 rfl rfl) ?_
    refine ru_go (t := (124, [some (.inr (some a0)), some (.inl x1), some (.inl x2), z3, z4], [.inl x1, .inr (sm_R M a0 21)], M)) sm_a164_123 rfl rfl rfl ?_
    obtain ⟨b_3, hb_4, h⟩ := h
    rw [hb_4]
    obtain ⟨h_5, h⟩ := h
    obtain ⟨h_6, h⟩ := h
    refine ru_go (t := (125, [some (.inr (some a0)), some (.inl x1), some (.inl x2), z3, z4], [.inl (sm_I M b_3 (x1).toNatClampNeg)], M)) sm_a164_124 rfl rfl (st_iald h_5 h_6) ?_
    refine ru_go (t := (126, [some (.inr (some a0)), some (.inl x1), some (.inl x2), z3, z4], [.inl 2, .inl (sm_I M b_3 (x1).toNatClampNeg)], M)) sm_a164_125 rfl rfl (st_iconst (by decide)) ?_
    refine ru_icmp (pc := 126) (p := 194) (p2 := 129) sm_a164_126 (by decide) rfl ⟨fun hc_7 => ?_, fun hc_7 => ?_⟩
    · have h := h.1 hc_7
      refine ru_go (t := (195, [some (.inr (some a0)), some (.inl x1), some (.inl x2), z3, z4], [.inr (some a0)], M)) sm_a164_194 rfl rfl rfl ?_
      refine ru_go (t := (198, [some (.inr (some a0)), some (.inl x1), some (.inl x2), z3, z4], [.inr (sm_R M a0 21)], M)) sm_a164_195 rfl rfl (st_getR h_2 rfl rfl) ?_
      refine ru_go (t := (199, [some (.inr (some a0)), some (.inl x1), some (.inl x2), z3, z4], [.inl x1, .inr (sm_R M a0 21)], M)) sm_a164_198 rfl rfl rfl ?_
      obtain ⟨b_8, hb_9, h⟩ := h
      rw [hb_9]
      obtain ⟨h_10, h⟩ := h
      obtain ⟨h_11, h⟩ := h
      refine ru_go (t := (200, [some (.inr (some a0)), some (.inl x1), some (.inl x2), z3, z4], [.inl (sm_I M b_8 (x1).toNatClampNeg)], M)) sm_a164_199 rfl rfl (st_iald h_10 h_11) ?_
      refine ru_go (t := (201, [some (.inr (some a0)), some (.inl x1), some (.inl x2), z3, z4], [.inl 4, .inl (sm_I M b_8 (x1).toNatClampNeg)], M)) sm_a164_200 rfl rfl (st_iconst (by decide)) ?_
      refine ru_icmp (pc := 201) (p := 247) (p2 := 204) sm_a164_201 (by decide) rfl ⟨fun hc_12 => ?_, fun hc_12 => ?_⟩
      · have h := h.1 hc_12
        exact ru_ret sm_a164_247 (sm_rvv rfl) h
      · have h := h.2 hc_12
        refine ru_go (t := (205, [some (.inr (some a0)), some (.inl x1), some (.inl x2), z3, z4], [.inr (some a0)], M)) sm_a164_204 rfl rfl rfl ?_
        refine ru_go (t := (208, [some (.inr (some a0)), some (.inl x1), some (.inl x2), z3, z4], [.inr (sm_R M a0 21)], M)) sm_a164_205 rfl rfl (st_getR h_2 rfl rfl) ?_
        refine ru_go (t := (209, [some (.inr (some a0)), some (.inl x1), some (.inl x2), z3, z4], [.inl x1, .inr (sm_R M a0 21)], M)) sm_a164_208 rfl rfl rfl ?_
        refine ru_go (t := (210, [some (.inr (some a0)), some (.inl x1), some (.inl x2), z3, z4], [.inl 5, .inl x1, .inr (sm_R M a0 21)], M)) sm_a164_209 rfl rfl (st_iconst (by decide)) ?_
        obtain ⟨b_13, hb_14, h⟩ := h
        rw [hb_14]
        obtain ⟨h_15, h⟩ := h
        obtain ⟨h_16, h⟩ := h
        refine ru_go (t := (211, [some (.inr (some a0)), some (.inl x1), some (.inl x2), z3, z4], [], sm_putI M b_13 (x1).toNatClampNeg 5)) sm_a164_210 rfl rfl (st_iast h_15 h_16) ?_
        refine ru_go (t := (212, [some (.inr (some a0)), some (.inl x1), some (.inl x2), z3, z4], [.inr (some a0)], sm_putI M b_13 (x1).toNatClampNeg 5)) sm_a164_211 rfl rfl rfl ?_
        refine ru_go (t := (215, [some (.inr (some a0)), some (.inl x1), some (.inl x2), z3, z4], [.inr (sm_R (sm_putI M b_13 (x1).toNatClampNeg 5) a0 30)], sm_putI M b_13 (x1).toNatClampNeg 5)) sm_a164_212 rfl rfl (st_getR h_2 rfl rfl) ?_
        refine ru_go (t := (216, [some (.inr (some a0)), some (.inl x1), some (.inl x2), z3, z4], [.inl x1, .inr (sm_R (sm_putI M b_13 (x1).toNatClampNeg 5) a0 30)], sm_putI M b_13 (x1).toNatClampNeg 5)) sm_a164_215 rfl rfl rfl ?_
        obtain ⟨b_17, hb_18, h⟩ := h
        rw [hb_18]
        obtain ⟨h_19, h⟩ := h
        obtain ⟨h_20, h⟩ := h
        refine ru_go (t := (217, [some (.inr (some a0)), some (.inl x1), some (.inl x2), z3, z4], [.inl (sm_I (sm_putI M b_13 (x1).toNatClampNeg 5) b_17 (x1).toNatClampNeg)], sm_putI M b_13 (x1).toNatClampNeg 5)) sm_a164_216 rfl rfl (st_iald h_19 h_20) ?_
        refine ru_go (t := (218, [some (.inr (some a0)), some (.inl x1), some (.inl x2), z3, z4], [.inl (-1), .inl (sm_I (sm_putI M b_13 (x1).toNatClampNeg 5) b_17 (x1).toNatClampNeg)], sm_putI M b_13 (x1).toNatClampNeg 5)) sm_a164_217 rfl rfl (st_iconst (by decide)) ?_
        refine ru_icmp (pc := 218) (p := 247) (p2 := 221) sm_a164_218 (by decide) rfl ⟨fun hc_21 => ?_, fun hc_21 => ?_⟩
        · have h := h.1 hc_21
          exact ru_ret sm_a164_247 (sm_rvv rfl) h
        · have h := h.2 hc_21
          refine ru_go (t := (222, [some (.inr (some a0)), some (.inl x1), some (.inl x2), z3, z4], [.inr (some a0)], sm_putI M b_13 (x1).toNatClampNeg 5)) sm_a164_221 rfl rfl rfl ?_
          refine ru_go (t := (225, [some (.inr (some a0)), some (.inl x1), some (.inl x2), z3, z4], [.inr (sm_R (sm_putI M b_13 (x1).toNatClampNeg 5) a0 5)], sm_putI M b_13 (x1).toNatClampNeg 5)) sm_a164_222 rfl rfl (st_getR h_2 rfl rfl) ?_
          refine ru_go (t := (226, [some (.inr (some a0)), some (.inl x1), some (.inl x2), z3, z4], [.inl x1, .inr (sm_R (sm_putI M b_13 (x1).toNatClampNeg 5) a0 5)], sm_putI M b_13 (x1).toNatClampNeg 5)) sm_a164_225 rfl rfl rfl ?_
          refine ru_go (t := (227, [some (.inr (some a0)), some (.inl x1), some (.inl x2), z3, z4], [.inr (some a0), .inl x1, .inr (sm_R (sm_putI M b_13 (x1).toNatClampNeg 5) a0 5)], sm_putI M b_13 (x1).toNatClampNeg 5)) sm_a164_226 rfl rfl rfl ?_
          refine ru_go (t := (230, [some (.inr (some a0)), some (.inl x1), some (.inl x2), z3, z4], [.inr (sm_R (sm_putI M b_13 (x1).toNatClampNeg 5) a0 30), .inl x1, .inr (sm_R (sm_putI M b_13 (x1).toNatClampNeg 5) a0 5)], sm_putI M b_13 (x1).toNatClampNeg 5)) sm_a164_227 rfl rfl (st_getR h_2 rfl rfl) ?_
          refine ru_go (t := (231, [some (.inr (some a0)), some (.inl x1), some (.inl x2), z3, z4], [.inl x1, .inr (sm_R (sm_putI M b_13 (x1).toNatClampNeg 5) a0 30), .inl x1, .inr (sm_R (sm_putI M b_13 (x1).toNatClampNeg 5) a0 5)], sm_putI M b_13 (x1).toNatClampNeg 5)) sm_a164_230 rfl rfl rfl ?_
          obtain ⟨b_22, hb_23, h⟩ := h
          rw [hb_23]
          obtain ⟨h_24, h⟩ := h
          obtain ⟨h_25, h⟩ := h
          refine ru_go (t := (232, [some (.inr (some a0)), some (.inl x1), some (.inl x2), z3, z4], [.inl (sm_I (sm_putI M b_13 (x1).toNatClampNeg 5) b_22 (x1).toNatClampNeg), .inl x1, .inr (sm_R (sm_putI M b_13 (x1).toNatClampNeg 5) a0 5)], sm_putI M b_13 (x1).toNatClampNeg 5)) sm_a164_231 rfl rfl (st_iald h_24 h_25) ?_
          obtain ⟨b_26, hb_27, h⟩ := h
          rw [hb_27]
          obtain ⟨h_28, h⟩ := h
          obtain ⟨h_29, h⟩ := h
          refine ru_go (t := (233, [some (.inr (some a0)), some (.inl x1), some (.inl x2), z3, z4], [], sm_putI (sm_putI M b_13 (x1).toNatClampNeg 5) b_26 (x1).toNatClampNeg (sm_I (sm_putI M b_13 (x1).toNatClampNeg 5) b_22 (x1).toNatClampNeg))) sm_a164_232 rfl rfl (st_iast h_28 h_29) ?_
          refine ru_go (t := (234, [some (.inr (some a0)), some (.inl x1), some (.inl x2), z3, z4], [.inr (some a0)], sm_putI (sm_putI M b_13 (x1).toNatClampNeg 5) b_26 (x1).toNatClampNeg (sm_I (sm_putI M b_13 (x1).toNatClampNeg 5) b_22 (x1).toNatClampNeg))) sm_a164_233 rfl rfl rfl ?_
          refine ru_go (t := (237, [some (.inr (some a0)), some (.inl x1), some (.inl x2), z3, z4], [.inr (sm_R (sm_putI (sm_putI M b_13 (x1).toNatClampNeg 5) b_26 (x1).toNatClampNeg (sm_I (sm_putI M b_13 (x1).toNatClampNeg 5) b_22 (x1).toNatClampNeg)) a0 4)], sm_putI (sm_putI M b_13 (x1).toNatClampNeg 5) b_26 (x1).toNatClampNeg (sm_I (sm_putI M b_13 (x1).toNatClampNeg 5) b_22 (x1).toNatClampNeg))) sm_a164_234 rfl rfl (st_getR h_2 rfl rfl) ?_
          refine ru_go (t := (238, [some (.inr (some a0)), some (.inl x1), some (.inl x2), z3, z4], [.inl x1, .inr (sm_R (sm_putI (sm_putI M b_13 (x1).toNatClampNeg 5) b_26 (x1).toNatClampNeg (sm_I (sm_putI M b_13 (x1).toNatClampNeg 5) b_22 (x1).toNatClampNeg)) a0 4)], sm_putI (sm_putI M b_13 (x1).toNatClampNeg 5) b_26 (x1).toNatClampNeg (sm_I (sm_putI M b_13 (x1).toNatClampNeg 5) b_22 (x1).toNatClampNeg))) sm_a164_237 rfl rfl rfl ?_
          refine ru_go (t := (239, [some (.inr (some a0)), some (.inl x1), some (.inl x2), z3, z4], [.inl 2, .inl x1, .inr (sm_R (sm_putI (sm_putI M b_13 (x1).toNatClampNeg 5) b_26 (x1).toNatClampNeg (sm_I (sm_putI M b_13 (x1).toNatClampNeg 5) b_22 (x1).toNatClampNeg)) a0 4)], sm_putI (sm_putI M b_13 (x1).toNatClampNeg 5) b_26 (x1).toNatClampNeg (sm_I (sm_putI M b_13 (x1).toNatClampNeg 5) b_22 (x1).toNatClampNeg))) sm_a164_238 rfl rfl (st_iconst (by decide)) ?_
          obtain ⟨b_30, hb_31, h⟩ := h
          rw [hb_31]
          obtain ⟨h_32, h⟩ := h
          obtain ⟨h_33, h⟩ := h
          refine ru_go (t := (240, [some (.inr (some a0)), some (.inl x1), some (.inl x2), z3, z4], [], sm_putI (sm_putI (sm_putI M b_13 (x1).toNatClampNeg 5) b_26 (x1).toNatClampNeg (sm_I (sm_putI M b_13 (x1).toNatClampNeg 5) b_22 (x1).toNatClampNeg)) b_30 (x1).toNatClampNeg 2)) sm_a164_239 rfl rfl (st_iast h_32 h_33) ?_
          refine ru_go (t := (241, [some (.inr (some a0)), some (.inl x1), some (.inl x2), z3, z4], [.inr (some a0)], sm_putI (sm_putI (sm_putI M b_13 (x1).toNatClampNeg 5) b_26 (x1).toNatClampNeg (sm_I (sm_putI M b_13 (x1).toNatClampNeg 5) b_22 (x1).toNatClampNeg)) b_30 (x1).toNatClampNeg 2)) sm_a164_240 rfl rfl rfl ?_
          refine ru_go (t := (244, [some (.inr (some a0)), some (.inl x1), some (.inl x2), z3, z4], [.inr (sm_R (sm_putI (sm_putI (sm_putI M b_13 (x1).toNatClampNeg 5) b_26 (x1).toNatClampNeg (sm_I (sm_putI M b_13 (x1).toNatClampNeg 5) b_22 (x1).toNatClampNeg)) b_30 (x1).toNatClampNeg 2) a0 30)], sm_putI (sm_putI (sm_putI M b_13 (x1).toNatClampNeg 5) b_26 (x1).toNatClampNeg (sm_I (sm_putI M b_13 (x1).toNatClampNeg 5) b_22 (x1).toNatClampNeg)) b_30 (x1).toNatClampNeg 2)) sm_a164_241 rfl rfl (st_getR h_2 rfl rfl) ?_
          refine ru_go (t := (245, [some (.inr (some a0)), some (.inl x1), some (.inl x2), z3, z4], [.inl x1, .inr (sm_R (sm_putI (sm_putI (sm_putI M b_13 (x1).toNatClampNeg 5) b_26 (x1).toNatClampNeg (sm_I (sm_putI M b_13 (x1).toNatClampNeg 5) b_22 (x1).toNatClampNeg)) b_30 (x1).toNatClampNeg 2) a0 30)], sm_putI (sm_putI (sm_putI M b_13 (x1).toNatClampNeg 5) b_26 (x1).toNatClampNeg (sm_I (sm_putI M b_13 (x1).toNatClampNeg 5) b_22 (x1).toNatClampNeg)) b_30 (x1).toNatClampNeg 2)) sm_a164_244 rfl rfl rfl ?_
          refine ru_go (t := (246, [some (.inr (some a0)), some (.inl x1), some (.inl x2), z3, z4], [.inl (-1), .inl x1, .inr (sm_R (sm_putI (sm_putI (sm_putI M b_13 (x1).toNatClampNeg 5) b_26 (x1).toNatClampNeg (sm_I (sm_putI M b_13 (x1).toNatClampNeg 5) b_22 (x1).toNatClampNeg)) b_30 (x1).toNatClampNeg 2) a0 30)], sm_putI (sm_putI (sm_putI M b_13 (x1).toNatClampNeg 5) b_26 (x1).toNatClampNeg (sm_I (sm_putI M b_13 (x1).toNatClampNeg 5) b_22 (x1).toNatClampNeg)) b_30 (x1).toNatClampNeg 2)) sm_a164_245 rfl rfl (st_iconst (by decide)) ?_
          obtain ⟨b_34, hb_35, h⟩ := h
          rw [hb_35]
          obtain ⟨h_36, h⟩ := h
          obtain ⟨h_37, h⟩ := h
          refine ru_go (t := (247, [some (.inr (some a0)), some (.inl x1), some (.inl x2), z3, z4], [], sm_putI (sm_putI (sm_putI (sm_putI M b_13 (x1).toNatClampNeg 5) b_26 (x1).toNatClampNeg (sm_I (sm_putI M b_13 (x1).toNatClampNeg 5) b_22 (x1).toNatClampNeg)) b_30 (x1).toNatClampNeg 2) b_34 (x1).toNatClampNeg (-1))) sm_a164_246 rfl rfl (st_iast h_36 h_37) ?_
          exact ru_ret sm_a164_247 (sm_rvv rfl) h
    · have h := h.2 hc_7
      refine ru_go (t := (130, [some (.inr (some a0)), some (.inl x1), some (.inl x2), z3, z4], [.inr (some a0)], M)) sm_a164_129 rfl rfl rfl ?_
      refine ru_go (t := (133, [some (.inr (some a0)), some (.inl x1), some (.inl x2), z3, z4], [.inr (sm_R M a0 26)], M)) sm_a164_130 rfl rfl (st_getR h_2 rfl rfl) ?_
      refine ru_go (t := (134, [some (.inr (some a0)), some (.inl x1), some (.inl x2), z3, z4], [.inl x1, .inr (sm_R M a0 26)], M)) sm_a164_133 rfl rfl rfl ?_
      refine ru_go (t := (135, [some (.inr (some a0)), some (.inl x1), some (.inl x2), z3, z4], [.inl x1, .inr (sm_R M a0 26), .inl x1, .inr (sm_R M a0 26)], M)) sm_a164_134 rfl rfl rfl ?_
      obtain ⟨b_38, hb_39, h⟩ := h
      rw [hb_39]
      obtain ⟨h_40, h⟩ := h
      obtain ⟨h_41, h⟩ := h
      refine ru_go (t := (136, [some (.inr (some a0)), some (.inl x1), some (.inl x2), z3, z4], [.inl (sm_I M b_38 (x1).toNatClampNeg), .inl x1, .inr (some b_38)], M)) sm_a164_135 rfl rfl (st_iald h_40 h_41) ?_
      refine ru_go (t := (137, [some (.inr (some a0)), some (.inl x1), some (.inl x2), z3, z4], [.inr (some a0), .inl (sm_I M b_38 (x1).toNatClampNeg), .inl x1, .inr (some b_38)], M)) sm_a164_136 rfl rfl rfl ?_
      refine ru_go (t := (140, [some (.inr (some a0)), some (.inl x1), some (.inl x2), z3, z4], [.inr (sm_R M a0 28), .inl (sm_I M b_38 (x1).toNatClampNeg), .inl x1, .inr (some b_38)], M)) sm_a164_137 rfl rfl (st_getR h_2 rfl rfl) ?_
      refine ru_go (t := (141, [some (.inr (some a0)), some (.inl x1), some (.inl x2), z3, z4], [.inl x1, .inr (sm_R M a0 28), .inl (sm_I M b_38 (x1).toNatClampNeg), .inl x1, .inr (some b_38)], M)) sm_a164_140 rfl rfl rfl ?_
      obtain ⟨b_42, hb_43, h⟩ := h
      rw [hb_43]
      obtain ⟨h_44, h⟩ := h
      obtain ⟨h_45, h⟩ := h
      refine ru_go (t := (142, [some (.inr (some a0)), some (.inl x1), some (.inl x2), z3, z4], [.inl (sm_I M b_42 (x1).toNatClampNeg), .inl (sm_I M b_38 (x1).toNatClampNeg), .inl x1, .inr (some b_38)], M)) sm_a164_141 rfl rfl (st_iald h_44 h_45) ?_
      refine ru_go (t := (143, [some (.inr (some a0)), some (.inl x1), some (.inl x2), z3, z4], [.inl ((sm_I M b_38 (x1).toNatClampNeg) + (sm_I M b_42 (x1).toNatClampNeg)), .inl x1, .inr (some b_38)], M)) sm_a164_142 rfl rfl rfl ?_
      obtain ⟨h_46, h⟩ := h
      refine ru_go (t := (144, [some (.inr (some a0)), some (.inl x1), some (.inl x2), z3, z4], [], sm_putI M b_38 (x1).toNatClampNeg ((sm_I M b_38 (x1).toNatClampNeg) + (sm_I M b_42 (x1).toNatClampNeg)))) sm_a164_143 rfl rfl (st_iast h_46 h_41) ?_
      refine ru_go (t := (145, [some (.inr (some a0)), some (.inl x1), some (.inl x2), z3, z4], [.inr (some a0)], sm_putI M b_38 (x1).toNatClampNeg ((sm_I M b_38 (x1).toNatClampNeg) + (sm_I M b_42 (x1).toNatClampNeg)))) sm_a164_144 rfl rfl rfl ?_
      refine ru_go (t := (148, [some (.inr (some a0)), some (.inl x1), some (.inl x2), z3, z4], [.inr (sm_R (sm_putI M b_38 (x1).toNatClampNeg ((sm_I M b_38 (x1).toNatClampNeg) + (sm_I M b_42 (x1).toNatClampNeg))) a0 27)], sm_putI M b_38 (x1).toNatClampNeg ((sm_I M b_38 (x1).toNatClampNeg) + (sm_I M b_42 (x1).toNatClampNeg)))) sm_a164_145 rfl rfl (st_getR h_2 rfl rfl) ?_
      refine ru_go (t := (149, [some (.inr (some a0)), some (.inl x1), some (.inl x2), z3, z4], [.inl x1, .inr (sm_R (sm_putI M b_38 (x1).toNatClampNeg ((sm_I M b_38 (x1).toNatClampNeg) + (sm_I M b_42 (x1).toNatClampNeg))) a0 27)], sm_putI M b_38 (x1).toNatClampNeg ((sm_I M b_38 (x1).toNatClampNeg) + (sm_I M b_42 (x1).toNatClampNeg)))) sm_a164_148 rfl rfl rfl ?_
      refine ru_go (t := (150, [some (.inr (some a0)), some (.inl x1), some (.inl x2), z3, z4], [.inr (some a0), .inl x1, .inr (sm_R (sm_putI M b_38 (x1).toNatClampNeg ((sm_I M b_38 (x1).toNatClampNeg) + (sm_I M b_42 (x1).toNatClampNeg))) a0 27)], sm_putI M b_38 (x1).toNatClampNeg ((sm_I M b_38 (x1).toNatClampNeg) + (sm_I M b_42 (x1).toNatClampNeg)))) sm_a164_149 rfl rfl rfl ?_
      refine ru_go (t := (153, [some (.inr (some a0)), some (.inl x1), some (.inl x2), z3, z4], [.inr (sm_R (sm_putI M b_38 (x1).toNatClampNeg ((sm_I M b_38 (x1).toNatClampNeg) + (sm_I M b_42 (x1).toNatClampNeg))) a0 28), .inl x1, .inr (sm_R (sm_putI M b_38 (x1).toNatClampNeg ((sm_I M b_38 (x1).toNatClampNeg) + (sm_I M b_42 (x1).toNatClampNeg))) a0 27)], sm_putI M b_38 (x1).toNatClampNeg ((sm_I M b_38 (x1).toNatClampNeg) + (sm_I M b_42 (x1).toNatClampNeg)))) sm_a164_150 rfl rfl (st_getR h_2 rfl rfl) ?_
      refine ru_go (t := (154, [some (.inr (some a0)), some (.inl x1), some (.inl x2), z3, z4], [.inl x1, .inr (sm_R (sm_putI M b_38 (x1).toNatClampNeg ((sm_I M b_38 (x1).toNatClampNeg) + (sm_I M b_42 (x1).toNatClampNeg))) a0 28), .inl x1, .inr (sm_R (sm_putI M b_38 (x1).toNatClampNeg ((sm_I M b_38 (x1).toNatClampNeg) + (sm_I M b_42 (x1).toNatClampNeg))) a0 27)], sm_putI M b_38 (x1).toNatClampNeg ((sm_I M b_38 (x1).toNatClampNeg) + (sm_I M b_42 (x1).toNatClampNeg)))) sm_a164_153 rfl rfl rfl ?_
      obtain ⟨b_47, hb_48, h⟩ := h
      rw [hb_48]
      obtain ⟨h_49, h⟩ := h
      obtain ⟨h_50, h⟩ := h
      refine ru_go (t := (155, [some (.inr (some a0)), some (.inl x1), some (.inl x2), z3, z4], [.inl (sm_I (sm_putI M b_38 (x1).toNatClampNeg ((sm_I M b_38 (x1).toNatClampNeg) + (sm_I M b_42 (x1).toNatClampNeg))) b_47 (x1).toNatClampNeg), .inl x1, .inr (sm_R (sm_putI M b_38 (x1).toNatClampNeg ((sm_I M b_38 (x1).toNatClampNeg) + (sm_I M b_42 (x1).toNatClampNeg))) a0 27)], sm_putI M b_38 (x1).toNatClampNeg ((sm_I M b_38 (x1).toNatClampNeg) + (sm_I M b_42 (x1).toNatClampNeg)))) sm_a164_154 rfl rfl (st_iald h_49 h_50) ?_
      refine ru_go (t := (156, [some (.inr (some a0)), some (.inl x1), some (.inl x2), z3, z4], [.inr (some a0), .inl (sm_I (sm_putI M b_38 (x1).toNatClampNeg ((sm_I M b_38 (x1).toNatClampNeg) + (sm_I M b_42 (x1).toNatClampNeg))) b_47 (x1).toNatClampNeg), .inl x1, .inr (sm_R (sm_putI M b_38 (x1).toNatClampNeg ((sm_I M b_38 (x1).toNatClampNeg) + (sm_I M b_42 (x1).toNatClampNeg))) a0 27)], sm_putI M b_38 (x1).toNatClampNeg ((sm_I M b_38 (x1).toNatClampNeg) + (sm_I M b_42 (x1).toNatClampNeg)))) sm_a164_155 rfl rfl rfl ?_
      refine ru_go (t := (159, [some (.inr (some a0)), some (.inl x1), some (.inl x2), z3, z4], [.inr (sm_R (sm_putI M b_38 (x1).toNatClampNeg ((sm_I M b_38 (x1).toNatClampNeg) + (sm_I M b_42 (x1).toNatClampNeg))) a0 6), .inl (sm_I (sm_putI M b_38 (x1).toNatClampNeg ((sm_I M b_38 (x1).toNatClampNeg) + (sm_I M b_42 (x1).toNatClampNeg))) b_47 (x1).toNatClampNeg), .inl x1, .inr (sm_R (sm_putI M b_38 (x1).toNatClampNeg ((sm_I M b_38 (x1).toNatClampNeg) + (sm_I M b_42 (x1).toNatClampNeg))) a0 27)], sm_putI M b_38 (x1).toNatClampNeg ((sm_I M b_38 (x1).toNatClampNeg) + (sm_I M b_42 (x1).toNatClampNeg)))) sm_a164_156 rfl rfl (st_getR h_2 rfl rfl) ?_
      refine ru_go (t := (160, [some (.inr (some a0)), some (.inl x1), some (.inl x2), z3, z4], [.inl x1, .inr (sm_R (sm_putI M b_38 (x1).toNatClampNeg ((sm_I M b_38 (x1).toNatClampNeg) + (sm_I M b_42 (x1).toNatClampNeg))) a0 6), .inl (sm_I (sm_putI M b_38 (x1).toNatClampNeg ((sm_I M b_38 (x1).toNatClampNeg) + (sm_I M b_42 (x1).toNatClampNeg))) b_47 (x1).toNatClampNeg), .inl x1, .inr (sm_R (sm_putI M b_38 (x1).toNatClampNeg ((sm_I M b_38 (x1).toNatClampNeg) + (sm_I M b_42 (x1).toNatClampNeg))) a0 27)], sm_putI M b_38 (x1).toNatClampNeg ((sm_I M b_38 (x1).toNatClampNeg) + (sm_I M b_42 (x1).toNatClampNeg)))) sm_a164_159 rfl rfl rfl ?_
      obtain ⟨b_51, hb_52, h⟩ := h
      rw [hb_52]
      obtain ⟨h_53, h⟩ := h
      obtain ⟨h_54, h⟩ := h
      refine ru_go (t := (161, [some (.inr (some a0)), some (.inl x1), some (.inl x2), z3, z4], [.inl (sm_I (sm_putI M b_38 (x1).toNatClampNeg ((sm_I M b_38 (x1).toNatClampNeg) + (sm_I M b_42 (x1).toNatClampNeg))) b_51 (x1).toNatClampNeg), .inl (sm_I (sm_putI M b_38 (x1).toNatClampNeg ((sm_I M b_38 (x1).toNatClampNeg) + (sm_I M b_42 (x1).toNatClampNeg))) b_47 (x1).toNatClampNeg), .inl x1, .inr (sm_R (sm_putI M b_38 (x1).toNatClampNeg ((sm_I M b_38 (x1).toNatClampNeg) + (sm_I M b_42 (x1).toNatClampNeg))) a0 27)], sm_putI M b_38 (x1).toNatClampNeg ((sm_I M b_38 (x1).toNatClampNeg) + (sm_I M b_42 (x1).toNatClampNeg)))) sm_a164_160 rfl rfl (st_iald h_53 h_54) ?_
      refine ru_icmp (pc := 161) (p := 168) (p2 := 164) sm_a164_161 (by decide) rfl ⟨fun hc_55 => ?_, fun hc_55 => ?_⟩
      · have h := h.1 hc_55
        refine ru_go (t := (169, [some (.inr (some a0)), some (.inl x1), some (.inl x2), z3, z4], [.inl 0, .inl x1, .inr (sm_R (sm_putI M b_38 (x1).toNatClampNeg ((sm_I M b_38 (x1).toNatClampNeg) + (sm_I M b_42 (x1).toNatClampNeg))) a0 27)], sm_putI M b_38 (x1).toNatClampNeg ((sm_I M b_38 (x1).toNatClampNeg) + (sm_I M b_42 (x1).toNatClampNeg)))) sm_a164_168 rfl rfl (st_iconst (by decide)) ?_
        obtain ⟨b_56, hb_57, h⟩ := h
        rw [hb_57]
        obtain ⟨h_58, h⟩ := h
        obtain ⟨h_59, h⟩ := h
        refine ru_go (t := (170, [some (.inr (some a0)), some (.inl x1), some (.inl x2), z3, z4], [], sm_putI (sm_putI M b_38 (x1).toNatClampNeg ((sm_I M b_38 (x1).toNatClampNeg) + (sm_I M b_42 (x1).toNatClampNeg))) b_56 (x1).toNatClampNeg 0)) sm_a164_169 rfl rfl (st_zast h_58 h_59 (by decide)) ?_
        refine ru_go (t := (171, [some (.inr (some a0)), some (.inl x1), some (.inl x2), z3, z4], [.inr (some a0)], sm_putI (sm_putI M b_38 (x1).toNatClampNeg ((sm_I M b_38 (x1).toNatClampNeg) + (sm_I M b_42 (x1).toNatClampNeg))) b_56 (x1).toNatClampNeg 0)) sm_a164_170 rfl rfl rfl ?_
        refine ru_go (t := (174, [some (.inr (some a0)), some (.inl x1), some (.inl x2), z3, z4], [.inr (sm_R (sm_putI (sm_putI M b_38 (x1).toNatClampNeg ((sm_I M b_38 (x1).toNatClampNeg) + (sm_I M b_42 (x1).toNatClampNeg))) b_56 (x1).toNatClampNeg 0) a0 28)], sm_putI (sm_putI M b_38 (x1).toNatClampNeg ((sm_I M b_38 (x1).toNatClampNeg) + (sm_I M b_42 (x1).toNatClampNeg))) b_56 (x1).toNatClampNeg 0)) sm_a164_171 rfl rfl (st_getR h_2 rfl rfl) ?_
        refine ru_go (t := (175, [some (.inr (some a0)), some (.inl x1), some (.inl x2), z3, z4], [.inl x1, .inr (sm_R (sm_putI (sm_putI M b_38 (x1).toNatClampNeg ((sm_I M b_38 (x1).toNatClampNeg) + (sm_I M b_42 (x1).toNatClampNeg))) b_56 (x1).toNatClampNeg 0) a0 28)], sm_putI (sm_putI M b_38 (x1).toNatClampNeg ((sm_I M b_38 (x1).toNatClampNeg) + (sm_I M b_42 (x1).toNatClampNeg))) b_56 (x1).toNatClampNeg 0)) sm_a164_174 rfl rfl rfl ?_
        refine ru_go (t := (176, [some (.inr (some a0)), some (.inl x1), some (.inl x2), z3, z4], [.inl (-1), .inl x1, .inr (sm_R (sm_putI (sm_putI M b_38 (x1).toNatClampNeg ((sm_I M b_38 (x1).toNatClampNeg) + (sm_I M b_42 (x1).toNatClampNeg))) b_56 (x1).toNatClampNeg 0) a0 28)], sm_putI (sm_putI M b_38 (x1).toNatClampNeg ((sm_I M b_38 (x1).toNatClampNeg) + (sm_I M b_42 (x1).toNatClampNeg))) b_56 (x1).toNatClampNeg 0)) sm_a164_175 rfl rfl (st_iconst (by decide)) ?_
        obtain ⟨b_60, hb_61, h⟩ := h
        rw [hb_61]
        obtain ⟨h_62, h⟩ := h
        obtain ⟨h_63, h⟩ := h
        refine ru_go (t := (177, [some (.inr (some a0)), some (.inl x1), some (.inl x2), z3, z4], [], sm_putI (sm_putI (sm_putI M b_38 (x1).toNatClampNeg ((sm_I M b_38 (x1).toNatClampNeg) + (sm_I M b_42 (x1).toNatClampNeg))) b_56 (x1).toNatClampNeg 0) b_60 (x1).toNatClampNeg (-1))) sm_a164_176 rfl rfl (st_iast h_62 h_63) ?_
        refine ru_go (t := (178, [some (.inr (some a0)), some (.inl x1), some (.inl x2), z3, z4], [.inr (some a0)], sm_putI (sm_putI (sm_putI M b_38 (x1).toNatClampNeg ((sm_I M b_38 (x1).toNatClampNeg) + (sm_I M b_42 (x1).toNatClampNeg))) b_56 (x1).toNatClampNeg 0) b_60 (x1).toNatClampNeg (-1))) sm_a164_177 rfl rfl rfl ?_
        refine ru_go (t := (181, [some (.inr (some a0)), some (.inl x1), some (.inl x2), z3, z4], [.inr (sm_R (sm_putI (sm_putI (sm_putI M b_38 (x1).toNatClampNeg ((sm_I M b_38 (x1).toNatClampNeg) + (sm_I M b_42 (x1).toNatClampNeg))) b_56 (x1).toNatClampNeg 0) b_60 (x1).toNatClampNeg (-1)) a0 23)], sm_putI (sm_putI (sm_putI M b_38 (x1).toNatClampNeg ((sm_I M b_38 (x1).toNatClampNeg) + (sm_I M b_42 (x1).toNatClampNeg))) b_56 (x1).toNatClampNeg 0) b_60 (x1).toNatClampNeg (-1))) sm_a164_178 rfl rfl (st_getR h_2 rfl rfl) ?_
        refine ru_go (t := (182, [some (.inr (some a0)), some (.inl x1), some (.inl x2), z3, z4], [.inl x1, .inr (sm_R (sm_putI (sm_putI (sm_putI M b_38 (x1).toNatClampNeg ((sm_I M b_38 (x1).toNatClampNeg) + (sm_I M b_42 (x1).toNatClampNeg))) b_56 (x1).toNatClampNeg 0) b_60 (x1).toNatClampNeg (-1)) a0 23)], sm_putI (sm_putI (sm_putI M b_38 (x1).toNatClampNeg ((sm_I M b_38 (x1).toNatClampNeg) + (sm_I M b_42 (x1).toNatClampNeg))) b_56 (x1).toNatClampNeg 0) b_60 (x1).toNatClampNeg (-1))) sm_a164_181 rfl rfl rfl ?_
        refine ru_go (t := (183, [some (.inr (some a0)), some (.inl x1), some (.inl x2), z3, z4], [.inl 1, .inl x1, .inr (sm_R (sm_putI (sm_putI (sm_putI M b_38 (x1).toNatClampNeg ((sm_I M b_38 (x1).toNatClampNeg) + (sm_I M b_42 (x1).toNatClampNeg))) b_56 (x1).toNatClampNeg 0) b_60 (x1).toNatClampNeg (-1)) a0 23)], sm_putI (sm_putI (sm_putI M b_38 (x1).toNatClampNeg ((sm_I M b_38 (x1).toNatClampNeg) + (sm_I M b_42 (x1).toNatClampNeg))) b_56 (x1).toNatClampNeg 0) b_60 (x1).toNatClampNeg (-1))) sm_a164_182 rfl rfl (st_iconst (by decide)) ?_
        refine ru_go (t := (184, [some (.inr (some a0)), some (.inl x1), some (.inl x2), z3, z4], [.inr (some a0), .inl 1, .inl x1, .inr (sm_R (sm_putI (sm_putI (sm_putI M b_38 (x1).toNatClampNeg ((sm_I M b_38 (x1).toNatClampNeg) + (sm_I M b_42 (x1).toNatClampNeg))) b_56 (x1).toNatClampNeg 0) b_60 (x1).toNatClampNeg (-1)) a0 23)], sm_putI (sm_putI (sm_putI M b_38 (x1).toNatClampNeg ((sm_I M b_38 (x1).toNatClampNeg) + (sm_I M b_42 (x1).toNatClampNeg))) b_56 (x1).toNatClampNeg 0) b_60 (x1).toNatClampNeg (-1))) sm_a164_183 rfl rfl rfl ?_
        refine ru_go (t := (187, [some (.inr (some a0)), some (.inl x1), some (.inl x2), z3, z4], [.inr (sm_R (sm_putI (sm_putI (sm_putI M b_38 (x1).toNatClampNeg ((sm_I M b_38 (x1).toNatClampNeg) + (sm_I M b_42 (x1).toNatClampNeg))) b_56 (x1).toNatClampNeg 0) b_60 (x1).toNatClampNeg (-1)) a0 23), .inl 1, .inl x1, .inr (sm_R (sm_putI (sm_putI (sm_putI M b_38 (x1).toNatClampNeg ((sm_I M b_38 (x1).toNatClampNeg) + (sm_I M b_42 (x1).toNatClampNeg))) b_56 (x1).toNatClampNeg 0) b_60 (x1).toNatClampNeg (-1)) a0 23)], sm_putI (sm_putI (sm_putI M b_38 (x1).toNatClampNeg ((sm_I M b_38 (x1).toNatClampNeg) + (sm_I M b_42 (x1).toNatClampNeg))) b_56 (x1).toNatClampNeg 0) b_60 (x1).toNatClampNeg (-1))) sm_a164_184 rfl rfl (st_getR h_2 rfl rfl) ?_
        refine ru_go (t := (188, [some (.inr (some a0)), some (.inl x1), some (.inl x2), z3, z4], [.inl x1, .inr (sm_R (sm_putI (sm_putI (sm_putI M b_38 (x1).toNatClampNeg ((sm_I M b_38 (x1).toNatClampNeg) + (sm_I M b_42 (x1).toNatClampNeg))) b_56 (x1).toNatClampNeg 0) b_60 (x1).toNatClampNeg (-1)) a0 23), .inl 1, .inl x1, .inr (sm_R (sm_putI (sm_putI (sm_putI M b_38 (x1).toNatClampNeg ((sm_I M b_38 (x1).toNatClampNeg) + (sm_I M b_42 (x1).toNatClampNeg))) b_56 (x1).toNatClampNeg 0) b_60 (x1).toNatClampNeg (-1)) a0 23)], sm_putI (sm_putI (sm_putI M b_38 (x1).toNatClampNeg ((sm_I M b_38 (x1).toNatClampNeg) + (sm_I M b_42 (x1).toNatClampNeg))) b_56 (x1).toNatClampNeg 0) b_60 (x1).toNatClampNeg (-1))) sm_a164_187 rfl rfl rfl ?_
        obtain ⟨b_64, hb_65, h⟩ := h
        rw [hb_65]
        obtain ⟨h_66, h⟩ := h
        obtain ⟨h_67, h⟩ := h
        refine ru_go (t := (189, [some (.inr (some a0)), some (.inl x1), some (.inl x2), z3, z4], [.inl (sm_I (sm_putI (sm_putI (sm_putI M b_38 (x1).toNatClampNeg ((sm_I M b_38 (x1).toNatClampNeg) + (sm_I M b_42 (x1).toNatClampNeg))) b_56 (x1).toNatClampNeg 0) b_60 (x1).toNatClampNeg (-1)) b_64 (x1).toNatClampNeg), .inl 1, .inl x1, .inr (some b_64)], sm_putI (sm_putI (sm_putI M b_38 (x1).toNatClampNeg ((sm_I M b_38 (x1).toNatClampNeg) + (sm_I M b_42 (x1).toNatClampNeg))) b_56 (x1).toNatClampNeg 0) b_60 (x1).toNatClampNeg (-1))) sm_a164_188 rfl rfl (st_iald h_66 h_67) ?_
        refine ru_go (t := (190, [some (.inr (some a0)), some (.inl x1), some (.inl x2), z3, z4], [.inl (1 - (sm_I (sm_putI (sm_putI (sm_putI M b_38 (x1).toNatClampNeg ((sm_I M b_38 (x1).toNatClampNeg) + (sm_I M b_42 (x1).toNatClampNeg))) b_56 (x1).toNatClampNeg 0) b_60 (x1).toNatClampNeg (-1)) b_64 (x1).toNatClampNeg)), .inl x1, .inr (some b_64)], sm_putI (sm_putI (sm_putI M b_38 (x1).toNatClampNeg ((sm_I M b_38 (x1).toNatClampNeg) + (sm_I M b_42 (x1).toNatClampNeg))) b_56 (x1).toNatClampNeg 0) b_60 (x1).toNatClampNeg (-1))) sm_a164_189 rfl rfl rfl ?_
        obtain ⟨h_68, h⟩ := h
        refine ru_go (t := (191, [some (.inr (some a0)), some (.inl x1), some (.inl x2), z3, z4], [], sm_putI (sm_putI (sm_putI (sm_putI M b_38 (x1).toNatClampNeg ((sm_I M b_38 (x1).toNatClampNeg) + (sm_I M b_42 (x1).toNatClampNeg))) b_56 (x1).toNatClampNeg 0) b_60 (x1).toNatClampNeg (-1)) b_64 (x1).toNatClampNeg (1 - (sm_I (sm_putI (sm_putI (sm_putI M b_38 (x1).toNatClampNeg ((sm_I M b_38 (x1).toNatClampNeg) + (sm_I M b_42 (x1).toNatClampNeg))) b_56 (x1).toNatClampNeg 0) b_60 (x1).toNatClampNeg (-1)) b_64 (x1).toNatClampNeg)))) sm_a164_190 rfl rfl (st_iast h_68 h_67) ?_
        exact h
      · have h := h.2 hc_55
        refine ru_go (t := (165, [some (.inr (some a0)), some (.inl x1), some (.inl x2), z3, z4], [.inl 1, .inl x1, .inr (sm_R (sm_putI M b_38 (x1).toNatClampNeg ((sm_I M b_38 (x1).toNatClampNeg) + (sm_I M b_42 (x1).toNatClampNeg))) a0 27)], sm_putI M b_38 (x1).toNatClampNeg ((sm_I M b_38 (x1).toNatClampNeg) + (sm_I M b_42 (x1).toNatClampNeg)))) sm_a164_164 rfl rfl (st_iconst (by decide)) ?_
        refine ru_go (t := (169, [some (.inr (some a0)), some (.inl x1), some (.inl x2), z3, z4], [.inl 1, .inl x1, .inr (sm_R (sm_putI M b_38 (x1).toNatClampNeg ((sm_I M b_38 (x1).toNatClampNeg) + (sm_I M b_42 (x1).toNatClampNeg))) a0 27)], sm_putI M b_38 (x1).toNatClampNeg ((sm_I M b_38 (x1).toNatClampNeg) + (sm_I M b_42 (x1).toNatClampNeg)))) sm_a164_165 rfl rfl (st_goto (pc := 165) (by decide)) ?_
        obtain ⟨b_69, hb_70, h⟩ := h
        rw [hb_70]
        obtain ⟨h_71, h⟩ := h
        obtain ⟨h_72, h⟩ := h
        refine ru_go (t := (170, [some (.inr (some a0)), some (.inl x1), some (.inl x2), z3, z4], [], sm_putI (sm_putI M b_38 (x1).toNatClampNeg ((sm_I M b_38 (x1).toNatClampNeg) + (sm_I M b_42 (x1).toNatClampNeg))) b_69 (x1).toNatClampNeg 1)) sm_a164_169 rfl rfl (st_zast h_71 h_72 (by decide)) ?_
        refine ru_go (t := (171, [some (.inr (some a0)), some (.inl x1), some (.inl x2), z3, z4], [.inr (some a0)], sm_putI (sm_putI M b_38 (x1).toNatClampNeg ((sm_I M b_38 (x1).toNatClampNeg) + (sm_I M b_42 (x1).toNatClampNeg))) b_69 (x1).toNatClampNeg 1)) sm_a164_170 rfl rfl rfl ?_
        refine ru_go (t := (174, [some (.inr (some a0)), some (.inl x1), some (.inl x2), z3, z4], [.inr (sm_R (sm_putI (sm_putI M b_38 (x1).toNatClampNeg ((sm_I M b_38 (x1).toNatClampNeg) + (sm_I M b_42 (x1).toNatClampNeg))) b_69 (x1).toNatClampNeg 1) a0 28)], sm_putI (sm_putI M b_38 (x1).toNatClampNeg ((sm_I M b_38 (x1).toNatClampNeg) + (sm_I M b_42 (x1).toNatClampNeg))) b_69 (x1).toNatClampNeg 1)) sm_a164_171 rfl rfl (st_getR h_2 rfl rfl) ?_
        refine ru_go (t := (175, [some (.inr (some a0)), some (.inl x1), some (.inl x2), z3, z4], [.inl x1, .inr (sm_R (sm_putI (sm_putI M b_38 (x1).toNatClampNeg ((sm_I M b_38 (x1).toNatClampNeg) + (sm_I M b_42 (x1).toNatClampNeg))) b_69 (x1).toNatClampNeg 1) a0 28)], sm_putI (sm_putI M b_38 (x1).toNatClampNeg ((sm_I M b_38 (x1).toNatClampNeg) + (sm_I M b_42 (x1).toNatClampNeg))) b_69 (x1).toNatClampNeg 1)) sm_a164_174 rfl rfl rfl ?_
        refine ru_go (t := (176, [some (.inr (some a0)), some (.inl x1), some (.inl x2), z3, z4], [.inl (-1), .inl x1, .inr (sm_R (sm_putI (sm_putI M b_38 (x1).toNatClampNeg ((sm_I M b_38 (x1).toNatClampNeg) + (sm_I M b_42 (x1).toNatClampNeg))) b_69 (x1).toNatClampNeg 1) a0 28)], sm_putI (sm_putI M b_38 (x1).toNatClampNeg ((sm_I M b_38 (x1).toNatClampNeg) + (sm_I M b_42 (x1).toNatClampNeg))) b_69 (x1).toNatClampNeg 1)) sm_a164_175 rfl rfl (st_iconst (by decide)) ?_
        obtain ⟨b_73, hb_74, h⟩ := h
        rw [hb_74]
        obtain ⟨h_75, h⟩ := h
        obtain ⟨h_76, h⟩ := h
        refine ru_go (t := (177, [some (.inr (some a0)), some (.inl x1), some (.inl x2), z3, z4], [], sm_putI (sm_putI (sm_putI M b_38 (x1).toNatClampNeg ((sm_I M b_38 (x1).toNatClampNeg) + (sm_I M b_42 (x1).toNatClampNeg))) b_69 (x1).toNatClampNeg 1) b_73 (x1).toNatClampNeg (-1))) sm_a164_176 rfl rfl (st_iast h_75 h_76) ?_
        refine ru_go (t := (178, [some (.inr (some a0)), some (.inl x1), some (.inl x2), z3, z4], [.inr (some a0)], sm_putI (sm_putI (sm_putI M b_38 (x1).toNatClampNeg ((sm_I M b_38 (x1).toNatClampNeg) + (sm_I M b_42 (x1).toNatClampNeg))) b_69 (x1).toNatClampNeg 1) b_73 (x1).toNatClampNeg (-1))) sm_a164_177 rfl rfl rfl ?_
        refine ru_go (t := (181, [some (.inr (some a0)), some (.inl x1), some (.inl x2), z3, z4], [.inr (sm_R (sm_putI (sm_putI (sm_putI M b_38 (x1).toNatClampNeg ((sm_I M b_38 (x1).toNatClampNeg) + (sm_I M b_42 (x1).toNatClampNeg))) b_69 (x1).toNatClampNeg 1) b_73 (x1).toNatClampNeg (-1)) a0 23)], sm_putI (sm_putI (sm_putI M b_38 (x1).toNatClampNeg ((sm_I M b_38 (x1).toNatClampNeg) + (sm_I M b_42 (x1).toNatClampNeg))) b_69 (x1).toNatClampNeg 1) b_73 (x1).toNatClampNeg (-1))) sm_a164_178 rfl rfl (st_getR h_2 rfl rfl) ?_
        refine ru_go (t := (182, [some (.inr (some a0)), some (.inl x1), some (.inl x2), z3, z4], [.inl x1, .inr (sm_R (sm_putI (sm_putI (sm_putI M b_38 (x1).toNatClampNeg ((sm_I M b_38 (x1).toNatClampNeg) + (sm_I M b_42 (x1).toNatClampNeg))) b_69 (x1).toNatClampNeg 1) b_73 (x1).toNatClampNeg (-1)) a0 23)], sm_putI (sm_putI (sm_putI M b_38 (x1).toNatClampNeg ((sm_I M b_38 (x1).toNatClampNeg) + (sm_I M b_42 (x1).toNatClampNeg))) b_69 (x1).toNatClampNeg 1) b_73 (x1).toNatClampNeg (-1))) sm_a164_181 rfl rfl rfl ?_
        refine ru_go (t := (183, [some (.inr (some a0)), some (.inl x1), some (.inl x2), z3, z4], [.inl 1, .inl x1, .inr (sm_R (sm_putI (sm_putI (sm_putI M b_38 (x1).toNatClampNeg ((sm_I M b_38 (x1).toNatClampNeg) + (sm_I M b_42 (x1).toNatClampNeg))) b_69 (x1).toNatClampNeg 1) b_73 (x1).toNatClampNeg (-1)) a0 23)], sm_putI (sm_putI (sm_putI M b_38 (x1).toNatClampNeg ((sm_I M b_38 (x1).toNatClampNeg) + (sm_I M b_42 (x1).toNatClampNeg))) b_69 (x1).toNatClampNeg 1) b_73 (x1).toNatClampNeg (-1))) sm_a164_182 rfl rfl (st_iconst (by decide)) ?_
        refine ru_go (t := (184, [some (.inr (some a0)), some (.inl x1), some (.inl x2), z3, z4], [.inr (some a0), .inl 1, .inl x1, .inr (sm_R (sm_putI (sm_putI (sm_putI M b_38 (x1).toNatClampNeg ((sm_I M b_38 (x1).toNatClampNeg) + (sm_I M b_42 (x1).toNatClampNeg))) b_69 (x1).toNatClampNeg 1) b_73 (x1).toNatClampNeg (-1)) a0 23)], sm_putI (sm_putI (sm_putI M b_38 (x1).toNatClampNeg ((sm_I M b_38 (x1).toNatClampNeg) + (sm_I M b_42 (x1).toNatClampNeg))) b_69 (x1).toNatClampNeg 1) b_73 (x1).toNatClampNeg (-1))) sm_a164_183 rfl rfl rfl ?_
        refine ru_go (t := (187, [some (.inr (some a0)), some (.inl x1), some (.inl x2), z3, z4], [.inr (sm_R (sm_putI (sm_putI (sm_putI M b_38 (x1).toNatClampNeg ((sm_I M b_38 (x1).toNatClampNeg) + (sm_I M b_42 (x1).toNatClampNeg))) b_69 (x1).toNatClampNeg 1) b_73 (x1).toNatClampNeg (-1)) a0 23), .inl 1, .inl x1, .inr (sm_R (sm_putI (sm_putI (sm_putI M b_38 (x1).toNatClampNeg ((sm_I M b_38 (x1).toNatClampNeg) + (sm_I M b_42 (x1).toNatClampNeg))) b_69 (x1).toNatClampNeg 1) b_73 (x1).toNatClampNeg (-1)) a0 23)], sm_putI (sm_putI (sm_putI M b_38 (x1).toNatClampNeg ((sm_I M b_38 (x1).toNatClampNeg) + (sm_I M b_42 (x1).toNatClampNeg))) b_69 (x1).toNatClampNeg 1) b_73 (x1).toNatClampNeg (-1))) sm_a164_184 rfl rfl (st_getR h_2 rfl rfl) ?_
        refine ru_go (t := (188, [some (.inr (some a0)), some (.inl x1), some (.inl x2), z3, z4], [.inl x1, .inr (sm_R (sm_putI (sm_putI (sm_putI M b_38 (x1).toNatClampNeg ((sm_I M b_38 (x1).toNatClampNeg) + (sm_I M b_42 (x1).toNatClampNeg))) b_69 (x1).toNatClampNeg 1) b_73 (x1).toNatClampNeg (-1)) a0 23), .inl 1, .inl x1, .inr (sm_R (sm_putI (sm_putI (sm_putI M b_38 (x1).toNatClampNeg ((sm_I M b_38 (x1).toNatClampNeg) + (sm_I M b_42 (x1).toNatClampNeg))) b_69 (x1).toNatClampNeg 1) b_73 (x1).toNatClampNeg (-1)) a0 23)], sm_putI (sm_putI (sm_putI M b_38 (x1).toNatClampNeg ((sm_I M b_38 (x1).toNatClampNeg) + (sm_I M b_42 (x1).toNatClampNeg))) b_69 (x1).toNatClampNeg 1) b_73 (x1).toNatClampNeg (-1))) sm_a164_187 rfl rfl rfl ?_
        obtain ⟨b_77, hb_78, h⟩ := h
        rw [hb_78]
        obtain ⟨h_79, h⟩ := h
        obtain ⟨h_80, h⟩ := h
        refine ru_go (t := (189, [some (.inr (some a0)), some (.inl x1), some (.inl x2), z3, z4], [.inl (sm_I (sm_putI (sm_putI (sm_putI M b_38 (x1).toNatClampNeg ((sm_I M b_38 (x1).toNatClampNeg) + (sm_I M b_42 (x1).toNatClampNeg))) b_69 (x1).toNatClampNeg 1) b_73 (x1).toNatClampNeg (-1)) b_77 (x1).toNatClampNeg), .inl 1, .inl x1, .inr (some b_77)], sm_putI (sm_putI (sm_putI M b_38 (x1).toNatClampNeg ((sm_I M b_38 (x1).toNatClampNeg) + (sm_I M b_42 (x1).toNatClampNeg))) b_69 (x1).toNatClampNeg 1) b_73 (x1).toNatClampNeg (-1))) sm_a164_188 rfl rfl (st_iald h_79 h_80) ?_
        refine ru_go (t := (190, [some (.inr (some a0)), some (.inl x1), some (.inl x2), z3, z4], [.inl (1 - (sm_I (sm_putI (sm_putI (sm_putI M b_38 (x1).toNatClampNeg ((sm_I M b_38 (x1).toNatClampNeg) + (sm_I M b_42 (x1).toNatClampNeg))) b_69 (x1).toNatClampNeg 1) b_73 (x1).toNatClampNeg (-1)) b_77 (x1).toNatClampNeg)), .inl x1, .inr (some b_77)], sm_putI (sm_putI (sm_putI M b_38 (x1).toNatClampNeg ((sm_I M b_38 (x1).toNatClampNeg) + (sm_I M b_42 (x1).toNatClampNeg))) b_69 (x1).toNatClampNeg 1) b_73 (x1).toNatClampNeg (-1))) sm_a164_189 rfl rfl rfl ?_
        obtain ⟨h_81, h⟩ := h
        refine ru_go (t := (191, [some (.inr (some a0)), some (.inl x1), some (.inl x2), z3, z4], [], sm_putI (sm_putI (sm_putI (sm_putI M b_38 (x1).toNatClampNeg ((sm_I M b_38 (x1).toNatClampNeg) + (sm_I M b_42 (x1).toNatClampNeg))) b_69 (x1).toNatClampNeg 1) b_73 (x1).toNatClampNeg (-1)) b_77 (x1).toNatClampNeg (1 - (sm_I (sm_putI (sm_putI (sm_putI M b_38 (x1).toNatClampNeg ((sm_I M b_38 (x1).toNatClampNeg) + (sm_I M b_42 (x1).toNatClampNeg))) b_69 (x1).toNatClampNeg 1) b_73 (x1).toNatClampNeg (-1)) b_77 (x1).toNatClampNeg)))) sm_a164_190 rfl rfl (st_iast h_81 h_80) ?_
        exact h
  · have h := h.2 hc_1
    refine ru_go (t := (5, [some (.inr (some a0)), some (.inl x1), some (.inl x2), z3, z4], [.inr (some a0)], M)) sm_a164_4 rfl rfl rfl ?_
    refine ru_go (t := (6, [some (.inr (some a0)), some (.inl x1), some (.inl x2), z3, z4], [.inl x1, .inr (some a0)], M)) sm_a164_5 rfl rfl rfl ?_
    refine ru_go (t := (7, [some (.inr (some a0)), some (.inl x1), some (.inl x2), z3, z4], [.inl x2, .inl x1, .inr (some a0)], M)) sm_a164_6 rfl rfl rfl ?_
    obtain ⟨h_82, h⟩ := h
    exact ru_call (p := 10) sm_a164_7 rfl (sc_virt (Or.inl rfl) rfl rfl h_82 (Nat.le_of_ble_eq_true rfl)) rfl h
theorem bb_164_10 {d : Nat} {M : sm_M} {Q : Option sm_V → sm_M → Prop} {a0 : Nat} {x1 : Int32} {x2 : Int32} {z3 : Option sm_V} {z4 : Option sm_V} {y0 : Int32}
    (h : sm_K M a0 = 39 ∧ ∃ b_2, sm_R M a0 16 = some b_2 ∧ sm_iA M b_2 ∧ sm_in_ M b_2 y0 ∧ ((¬ (sm_I M b_2 (y0).toNatClampNeg) = (-1) → ∃ b_7, sm_R M a0 16 = some b_7 ∧ sm_iA M b_7 ∧ sm_in_ M b_7 y0 ∧ sm_Run (d + 1) 164 30 [some (.inr (some a0)), some (.inl x1), some (.inl x2), some (.inl y0), some (.inl (sm_I M b_7 (y0).toNatClampNeg))] [] M Q) ∧ (¬ (¬ (sm_I M b_2 (y0).toNatClampNeg) = (-1)) → Q none M))) :
    sm_Run (d + 1) 164 10 [some (.inr (some a0)), some (.inl x1), some (.inl x2), z3, z4] [.inl y0] M Q := by
  refine ru_go (t := (11, [some (.inr (some a0)), some (.inl x1), some (.inl x2), some (.inl y0), z4], [], M)) sm_a164_10 rfl rfl rfl ?_
  refine ru_go (t := (12, [some (.inr (some a0)), some (.inl x1), some (.inl x2), some (.inl y0), z4], [.inr (some a0)], M)) sm_a164_11 rfl rfl rfl ?_
  obtain ⟨h_1, h⟩ := h
  refine ru_go (t := (15, [some (.inr (some a0)), some (.inl x1), some (.inl x2), some (.inl y0), z4], [.inr (sm_R M a0 16)], M)) sm_a164_12 rfl rfl (st_getR h_1 rfl rfl) ?_
  refine ru_go (t := (16, [some (.inr (some a0)), some (.inl x1), some (.inl x2), some (.inl y0), z4], [.inl y0, .inr (sm_R M a0 16)], M)) sm_a164_15 rfl rfl rfl ?_
  obtain ⟨b_2, hb_3, h⟩ := h
  rw [hb_3]
  obtain ⟨h_4, h⟩ := h
  obtain ⟨h_5, h⟩ := h
  refine ru_go (t := (17, [some (.inr (some a0)), some (.inl x1), some (.inl x2), some (.inl y0), z4], [.inl (sm_I M b_2 (y0).toNatClampNeg)], M)) sm_a164_16 rfl rfl (st_iald h_4 h_5) ?_
  refine ru_go (t := (18, [some (.inr (some a0)), some (.inl x1), some (.inl x2), some (.inl y0), z4], [.inl (-1), .inl (sm_I M b_2 (y0).toNatClampNeg)], M)) sm_a164_17 rfl rfl (st_iconst (by decide)) ?_
  refine ru_icmp (pc := 18) (p := 22) (p2 := 21) sm_a164_18 (by decide) rfl ⟨fun hc_6 => ?_, fun hc_6 => ?_⟩
  · have h := h.1 hc_6
    refine ru_go (t := (23, [some (.inr (some a0)), some (.inl x1), some (.inl x2), some (.inl y0), z4], [.inr (some a0)], M)) sm_a164_22 rfl rfl rfl ?_
    refine ru_go (t := (26, [some (.inr (some a0)), some (.inl x1), some (.inl x2), some (.inl y0), z4], [.inr (sm_R M a0 16)], M)) sm_a164_23 rfl rfl (st_getR h_1 rfl rfl) ?_
    refine ru_go (t := (27, [some (.inr (some a0)), some (.inl x1), some (.inl x2), some (.inl y0), z4], [.inl y0, .inr (sm_R M a0 16)], M)) sm_a164_26 rfl rfl rfl ?_
    obtain ⟨b_7, hb_8, h⟩ := h
    rw [hb_8]
    obtain ⟨h_9, h⟩ := h
    obtain ⟨h_10, h⟩ := h
    refine ru_go (t := (28, [some (.inr (some a0)), some (.inl x1), some (.inl x2), some (.inl y0), z4], [.inl (sm_I M b_7 (y0).toNatClampNeg)], M)) sm_a164_27 rfl rfl (st_iald h_9 h_10) ?_
    refine ru_go (t := (30, [some (.inr (some a0)), some (.inl x1), some (.inl x2), some (.inl y0), some (.inl (sm_I M b_7 (y0).toNatClampNeg))], [], M)) sm_a164_28 rfl rfl rfl ?_
    exact h
  · have h := h.2 hc_6
    exact ru_ret sm_a164_21 (sm_rvv rfl) h
theorem bb_164_30 {d : Nat} {M : sm_M} {Q : Option sm_V → sm_M → Prop} {a0 : Nat} {x1 : Int32} {x2 : Int32} {x3 : Int32} {x4 : Int32}
    (h : sm_K M a0 = 39 ∧ ∃ b_2, sm_R M a0 15 = some b_2 ∧ sm_iA M b_2 ∧ sm_in_ M b_2 x3 ∧ (((sm_I M b_2 (x3).toNatClampNeg) ≤ x4 → ∃ b_7, sm_R M a0 15 = some b_7 ∧ sm_iA M b_7 ∧ sm_in_ M b_7 x3 ∧ ∃ b_11, sm_R M a0 16 = some b_11 ∧ sm_iA M b_11 ∧ sm_in_ M b_11 x3 ∧ sm_wA 1 M b_7 ∧ ∃ b_16, sm_R (sm_putI M b_7 (x3).toNatClampNeg ((sm_I M b_7 (x3).toNatClampNeg) - (sm_I M b_11 (x3).toNatClampNeg))) a0 16 = some b_16 ∧ sm_wA 1 M b_16 ∧ sm_in_ M b_16 x3 ∧ ∃ b_20, sm_R (sm_putI (sm_putI M b_7 (x3).toNatClampNeg ((sm_I M b_7 (x3).toNatClampNeg) - (sm_I M b_11 (x3).toNatClampNeg))) b_16 (x3).toNatClampNeg (-1)) a0 13 = some b_20 ∧ sm_iA M b_20 ∧ sm_in_ M b_20 x3 ∧ sm_wA 1 M b_20 ∧ sm_Run (d + 1) 164 116 [some (.inr (some a0)), some (.inl x1), some (.inl x2), some (.inl x3), some (.inl x4)] [] (sm_putI (sm_putI (sm_putI M b_7 (x3).toNatClampNeg ((sm_I M b_7 (x3).toNatClampNeg) - (sm_I M b_11 (x3).toNatClampNeg))) b_16 (x3).toNatClampNeg (-1)) b_20 (x3).toNatClampNeg (1 - (sm_I (sm_putI (sm_putI M b_7 (x3).toNatClampNeg ((sm_I M b_7 (x3).toNatClampNeg) - (sm_I M b_11 (x3).toNatClampNeg))) b_16 (x3).toNatClampNeg (-1)) b_20 (x3).toNatClampNeg))) Q) ∧ (¬ ((sm_I M b_2 (x3).toNatClampNeg) ≤ x4) → ∃ b_25, sm_R M a0 16 = some b_25 ∧ sm_iA M b_25 ∧ sm_in_ M b_25 x3 ∧ ∃ b_29, sm_R M a0 17 = some b_29 ∧ sm_iA M b_29 ∧ sm_in_ M b_29 ((256 * x3) + x4) ∧ sm_wA 1 M b_29 ∧ sm_in_ M b_29 (((256 * x3) + x4) - (sm_I M b_25 (x3).toNatClampNeg)) ∧ sm_Run (d + 1) 164 30 [some (.inr (some a0)), some (.inl x1), some (.inl x2), some (.inl x3), some (.inl (x4 + 1))] [] (sm_putI M b_29 (((256 * x3) + x4) - (sm_I M b_25 (x3).toNatClampNeg)).toNatClampNeg (sm_I M b_29 ((256 * x3) + x4).toNatClampNeg)) Q))) :
    sm_Run (d + 1) 164 30 [some (.inr (some a0)), some (.inl x1), some (.inl x2), some (.inl x3), some (.inl x4)] [] M Q := by
  refine ru_go (t := (32, [some (.inr (some a0)), some (.inl x1), some (.inl x2), some (.inl x3), some (.inl x4)], [.inl x4], M)) sm_a164_30 rfl rfl rfl ?_
  refine ru_go (t := (33, [some (.inr (some a0)), some (.inl x1), some (.inl x2), some (.inl x3), some (.inl x4)], [.inr (some a0), .inl x4], M)) sm_a164_32 rfl rfl rfl ?_
  obtain ⟨h_1, h⟩ := h
  refine ru_go (t := (36, [some (.inr (some a0)), some (.inl x1), some (.inl x2), some (.inl x3), some (.inl x4)], [.inr (sm_R M a0 15), .inl x4], M)) sm_a164_33 rfl rfl (st_getR h_1 rfl rfl) ?_
  refine ru_go (t := (37, [some (.inr (some a0)), some (.inl x1), some (.inl x2), some (.inl x3), some (.inl x4)], [.inl x3, .inr (sm_R M a0 15), .inl x4], M)) sm_a164_36 rfl rfl rfl ?_
  obtain ⟨b_2, hb_3, h⟩ := h
  rw [hb_3]
  obtain ⟨h_4, h⟩ := h
  obtain ⟨h_5, h⟩ := h
  refine ru_go (t := (38, [some (.inr (some a0)), some (.inl x1), some (.inl x2), some (.inl x3), some (.inl x4)], [.inl (sm_I M b_2 (x3).toNatClampNeg), .inl x4], M)) sm_a164_37 rfl rfl (st_iald h_4 h_5) ?_
  refine ru_icmp (pc := 38) (p := 80) (p2 := 41) sm_a164_38 (by decide) rfl ⟨fun hc_6 => ?_, fun hc_6 => ?_⟩
  · have h := h.1 hc_6
    refine ru_go (t := (81, [some (.inr (some a0)), some (.inl x1), some (.inl x2), some (.inl x3), some (.inl x4)], [.inr (some a0)], M)) sm_a164_80 rfl rfl rfl ?_
    refine ru_go (t := (84, [some (.inr (some a0)), some (.inl x1), some (.inl x2), some (.inl x3), some (.inl x4)], [.inr (sm_R M a0 15)], M)) sm_a164_81 rfl rfl (st_getR h_1 rfl rfl) ?_
    refine ru_go (t := (85, [some (.inr (some a0)), some (.inl x1), some (.inl x2), some (.inl x3), some (.inl x4)], [.inl x3, .inr (sm_R M a0 15)], M)) sm_a164_84 rfl rfl rfl ?_
    refine ru_go (t := (86, [some (.inr (some a0)), some (.inl x1), some (.inl x2), some (.inl x3), some (.inl x4)], [.inl x3, .inr (sm_R M a0 15), .inl x3, .inr (sm_R M a0 15)], M)) sm_a164_85 rfl rfl rfl ?_
    obtain ⟨b_7, hb_8, h⟩ := h
    rw [hb_8]
    obtain ⟨h_9, h⟩ := h
    obtain ⟨h_10, h⟩ := h
    refine ru_go (t := (87, [some (.inr (some a0)), some (.inl x1), some (.inl x2), some (.inl x3), some (.inl x4)], [.inl (sm_I M b_7 (x3).toNatClampNeg), .inl x3, .inr (some b_7)], M)) sm_a164_86 rfl rfl (st_iald h_9 h_10) ?_
    refine ru_go (t := (88, [some (.inr (some a0)), some (.inl x1), some (.inl x2), some (.inl x3), some (.inl x4)], [.inr (some a0), .inl (sm_I M b_7 (x3).toNatClampNeg), .inl x3, .inr (some b_7)], M)) sm_a164_87 rfl rfl rfl ?_
    refine ru_go (t := (91, [some (.inr (some a0)), some (.inl x1), some (.inl x2), some (.inl x3), some (.inl x4)], [.inr (sm_R M a0 16), .inl (sm_I M b_7 (x3).toNatClampNeg), .inl x3, .inr (some b_7)], M)) sm_a164_88 rfl rfl (st_getR h_1 rfl rfl) ?_
    refine ru_go (t := (92, [some (.inr (some a0)), some (.inl x1), some (.inl x2), some (.inl x3), some (.inl x4)], [.inl x3, .inr (sm_R M a0 16), .inl (sm_I M b_7 (x3).toNatClampNeg), .inl x3, .inr (some b_7)], M)) sm_a164_91 rfl rfl rfl ?_
    obtain ⟨b_11, hb_12, h⟩ := h
    rw [hb_12]
    obtain ⟨h_13, h⟩ := h
    obtain ⟨h_14, h⟩ := h
    refine ru_go (t := (93, [some (.inr (some a0)), some (.inl x1), some (.inl x2), some (.inl x3), some (.inl x4)], [.inl (sm_I M b_11 (x3).toNatClampNeg), .inl (sm_I M b_7 (x3).toNatClampNeg), .inl x3, .inr (some b_7)], M)) sm_a164_92 rfl rfl (st_iald h_13 h_14) ?_
    refine ru_go (t := (94, [some (.inr (some a0)), some (.inl x1), some (.inl x2), some (.inl x3), some (.inl x4)], [.inl ((sm_I M b_7 (x3).toNatClampNeg) - (sm_I M b_11 (x3).toNatClampNeg)), .inl x3, .inr (some b_7)], M)) sm_a164_93 rfl rfl rfl ?_
    obtain ⟨h_15, h⟩ := h
    refine ru_go (t := (95, [some (.inr (some a0)), some (.inl x1), some (.inl x2), some (.inl x3), some (.inl x4)], [], sm_putI M b_7 (x3).toNatClampNeg ((sm_I M b_7 (x3).toNatClampNeg) - (sm_I M b_11 (x3).toNatClampNeg)))) sm_a164_94 rfl rfl (st_iast h_15 h_10) ?_
    refine ru_go (t := (96, [some (.inr (some a0)), some (.inl x1), some (.inl x2), some (.inl x3), some (.inl x4)], [.inr (some a0)], sm_putI M b_7 (x3).toNatClampNeg ((sm_I M b_7 (x3).toNatClampNeg) - (sm_I M b_11 (x3).toNatClampNeg)))) sm_a164_95 rfl rfl rfl ?_
    refine ru_go (t := (99, [some (.inr (some a0)), some (.inl x1), some (.inl x2), some (.inl x3), some (.inl x4)], [.inr (sm_R (sm_putI M b_7 (x3).toNatClampNeg ((sm_I M b_7 (x3).toNatClampNeg) - (sm_I M b_11 (x3).toNatClampNeg))) a0 16)], sm_putI M b_7 (x3).toNatClampNeg ((sm_I M b_7 (x3).toNatClampNeg) - (sm_I M b_11 (x3).toNatClampNeg)))) sm_a164_96 rfl rfl (st_getR h_1 rfl rfl) ?_
    refine ru_go (t := (100, [some (.inr (some a0)), some (.inl x1), some (.inl x2), some (.inl x3), some (.inl x4)], [.inl x3, .inr (sm_R (sm_putI M b_7 (x3).toNatClampNeg ((sm_I M b_7 (x3).toNatClampNeg) - (sm_I M b_11 (x3).toNatClampNeg))) a0 16)], sm_putI M b_7 (x3).toNatClampNeg ((sm_I M b_7 (x3).toNatClampNeg) - (sm_I M b_11 (x3).toNatClampNeg)))) sm_a164_99 rfl rfl rfl ?_
    refine ru_go (t := (101, [some (.inr (some a0)), some (.inl x1), some (.inl x2), some (.inl x3), some (.inl x4)], [.inl (-1), .inl x3, .inr (sm_R (sm_putI M b_7 (x3).toNatClampNeg ((sm_I M b_7 (x3).toNatClampNeg) - (sm_I M b_11 (x3).toNatClampNeg))) a0 16)], sm_putI M b_7 (x3).toNatClampNeg ((sm_I M b_7 (x3).toNatClampNeg) - (sm_I M b_11 (x3).toNatClampNeg)))) sm_a164_100 rfl rfl (st_iconst (by decide)) ?_
    obtain ⟨b_16, hb_17, h⟩ := h
    rw [hb_17]
    obtain ⟨h_18, h⟩ := h
    obtain ⟨h_19, h⟩ := h
    refine ru_go (t := (102, [some (.inr (some a0)), some (.inl x1), some (.inl x2), some (.inl x3), some (.inl x4)], [], sm_putI (sm_putI M b_7 (x3).toNatClampNeg ((sm_I M b_7 (x3).toNatClampNeg) - (sm_I M b_11 (x3).toNatClampNeg))) b_16 (x3).toNatClampNeg (-1))) sm_a164_101 rfl rfl (st_iast h_18 h_19) ?_
    refine ru_go (t := (103, [some (.inr (some a0)), some (.inl x1), some (.inl x2), some (.inl x3), some (.inl x4)], [.inr (some a0)], sm_putI (sm_putI M b_7 (x3).toNatClampNeg ((sm_I M b_7 (x3).toNatClampNeg) - (sm_I M b_11 (x3).toNatClampNeg))) b_16 (x3).toNatClampNeg (-1))) sm_a164_102 rfl rfl rfl ?_
    refine ru_go (t := (106, [some (.inr (some a0)), some (.inl x1), some (.inl x2), some (.inl x3), some (.inl x4)], [.inr (sm_R (sm_putI (sm_putI M b_7 (x3).toNatClampNeg ((sm_I M b_7 (x3).toNatClampNeg) - (sm_I M b_11 (x3).toNatClampNeg))) b_16 (x3).toNatClampNeg (-1)) a0 13)], sm_putI (sm_putI M b_7 (x3).toNatClampNeg ((sm_I M b_7 (x3).toNatClampNeg) - (sm_I M b_11 (x3).toNatClampNeg))) b_16 (x3).toNatClampNeg (-1))) sm_a164_103 rfl rfl (st_getR h_1 rfl rfl) ?_
    refine ru_go (t := (107, [some (.inr (some a0)), some (.inl x1), some (.inl x2), some (.inl x3), some (.inl x4)], [.inl x3, .inr (sm_R (sm_putI (sm_putI M b_7 (x3).toNatClampNeg ((sm_I M b_7 (x3).toNatClampNeg) - (sm_I M b_11 (x3).toNatClampNeg))) b_16 (x3).toNatClampNeg (-1)) a0 13)], sm_putI (sm_putI M b_7 (x3).toNatClampNeg ((sm_I M b_7 (x3).toNatClampNeg) - (sm_I M b_11 (x3).toNatClampNeg))) b_16 (x3).toNatClampNeg (-1))) sm_a164_106 rfl rfl rfl ?_
    refine ru_go (t := (108, [some (.inr (some a0)), some (.inl x1), some (.inl x2), some (.inl x3), some (.inl x4)], [.inl 1, .inl x3, .inr (sm_R (sm_putI (sm_putI M b_7 (x3).toNatClampNeg ((sm_I M b_7 (x3).toNatClampNeg) - (sm_I M b_11 (x3).toNatClampNeg))) b_16 (x3).toNatClampNeg (-1)) a0 13)], sm_putI (sm_putI M b_7 (x3).toNatClampNeg ((sm_I M b_7 (x3).toNatClampNeg) - (sm_I M b_11 (x3).toNatClampNeg))) b_16 (x3).toNatClampNeg (-1))) sm_a164_107 rfl rfl (st_iconst (by decide)) ?_
    refine ru_go (t := (109, [some (.inr (some a0)), some (.inl x1), some (.inl x2), some (.inl x3), some (.inl x4)], [.inr (some a0), .inl 1, .inl x3, .inr (sm_R (sm_putI (sm_putI M b_7 (x3).toNatClampNeg ((sm_I M b_7 (x3).toNatClampNeg) - (sm_I M b_11 (x3).toNatClampNeg))) b_16 (x3).toNatClampNeg (-1)) a0 13)], sm_putI (sm_putI M b_7 (x3).toNatClampNeg ((sm_I M b_7 (x3).toNatClampNeg) - (sm_I M b_11 (x3).toNatClampNeg))) b_16 (x3).toNatClampNeg (-1))) sm_a164_108 rfl rfl rfl ?_
    refine ru_go (t := (112, [some (.inr (some a0)), some (.inl x1), some (.inl x2), some (.inl x3), some (.inl x4)], [.inr (sm_R (sm_putI (sm_putI M b_7 (x3).toNatClampNeg ((sm_I M b_7 (x3).toNatClampNeg) - (sm_I M b_11 (x3).toNatClampNeg))) b_16 (x3).toNatClampNeg (-1)) a0 13), .inl 1, .inl x3, .inr (sm_R (sm_putI (sm_putI M b_7 (x3).toNatClampNeg ((sm_I M b_7 (x3).toNatClampNeg) - (sm_I M b_11 (x3).toNatClampNeg))) b_16 (x3).toNatClampNeg (-1)) a0 13)], sm_putI (sm_putI M b_7 (x3).toNatClampNeg ((sm_I M b_7 (x3).toNatClampNeg) - (sm_I M b_11 (x3).toNatClampNeg))) b_16 (x3).toNatClampNeg (-1))) sm_a164_109 rfl rfl (st_getR h_1 rfl rfl) ?_
    refine ru_go (t := (113, [some (.inr (some a0)), some (.inl x1), some (.inl x2), some (.inl x3), some (.inl x4)], [.inl x3, .inr (sm_R (sm_putI (sm_putI M b_7 (x3).toNatClampNeg ((sm_I M b_7 (x3).toNatClampNeg) - (sm_I M b_11 (x3).toNatClampNeg))) b_16 (x3).toNatClampNeg (-1)) a0 13), .inl 1, .inl x3, .inr (sm_R (sm_putI (sm_putI M b_7 (x3).toNatClampNeg ((sm_I M b_7 (x3).toNatClampNeg) - (sm_I M b_11 (x3).toNatClampNeg))) b_16 (x3).toNatClampNeg (-1)) a0 13)], sm_putI (sm_putI M b_7 (x3).toNatClampNeg ((sm_I M b_7 (x3).toNatClampNeg) - (sm_I M b_11 (x3).toNatClampNeg))) b_16 (x3).toNatClampNeg (-1))) sm_a164_112 rfl rfl rfl ?_
    obtain ⟨b_20, hb_21, h⟩ := h
    rw [hb_21]
    obtain ⟨h_22, h⟩ := h
    obtain ⟨h_23, h⟩ := h
    refine ru_go (t := (114, [some (.inr (some a0)), some (.inl x1), some (.inl x2), some (.inl x3), some (.inl x4)], [.inl (sm_I (sm_putI (sm_putI M b_7 (x3).toNatClampNeg ((sm_I M b_7 (x3).toNatClampNeg) - (sm_I M b_11 (x3).toNatClampNeg))) b_16 (x3).toNatClampNeg (-1)) b_20 (x3).toNatClampNeg), .inl 1, .inl x3, .inr (some b_20)], sm_putI (sm_putI M b_7 (x3).toNatClampNeg ((sm_I M b_7 (x3).toNatClampNeg) - (sm_I M b_11 (x3).toNatClampNeg))) b_16 (x3).toNatClampNeg (-1))) sm_a164_113 rfl rfl (st_iald h_22 h_23) ?_
    refine ru_go (t := (115, [some (.inr (some a0)), some (.inl x1), some (.inl x2), some (.inl x3), some (.inl x4)], [.inl (1 - (sm_I (sm_putI (sm_putI M b_7 (x3).toNatClampNeg ((sm_I M b_7 (x3).toNatClampNeg) - (sm_I M b_11 (x3).toNatClampNeg))) b_16 (x3).toNatClampNeg (-1)) b_20 (x3).toNatClampNeg)), .inl x3, .inr (some b_20)], sm_putI (sm_putI M b_7 (x3).toNatClampNeg ((sm_I M b_7 (x3).toNatClampNeg) - (sm_I M b_11 (x3).toNatClampNeg))) b_16 (x3).toNatClampNeg (-1))) sm_a164_114 rfl rfl rfl ?_
    obtain ⟨h_24, h⟩ := h
    refine ru_go (t := (116, [some (.inr (some a0)), some (.inl x1), some (.inl x2), some (.inl x3), some (.inl x4)], [], sm_putI (sm_putI (sm_putI M b_7 (x3).toNatClampNeg ((sm_I M b_7 (x3).toNatClampNeg) - (sm_I M b_11 (x3).toNatClampNeg))) b_16 (x3).toNatClampNeg (-1)) b_20 (x3).toNatClampNeg (1 - (sm_I (sm_putI (sm_putI M b_7 (x3).toNatClampNeg ((sm_I M b_7 (x3).toNatClampNeg) - (sm_I M b_11 (x3).toNatClampNeg))) b_16 (x3).toNatClampNeg (-1)) b_20 (x3).toNatClampNeg)))) sm_a164_115 rfl rfl (st_iast h_24 h_23) ?_
    exact h
  · have h := h.2 hc_6
    refine ru_go (t := (42, [some (.inr (some a0)), some (.inl x1), some (.inl x2), some (.inl x3), some (.inl x4)], [.inr (some a0)], M)) sm_a164_41 rfl rfl rfl ?_
    refine ru_go (t := (45, [some (.inr (some a0)), some (.inl x1), some (.inl x2), some (.inl x3), some (.inl x4)], [.inr (sm_R M a0 17)], M)) sm_a164_42 rfl rfl (st_getR h_1 rfl rfl) ?_
    refine ru_go (t := (48, [some (.inr (some a0)), some (.inl x1), some (.inl x2), some (.inl x3), some (.inl x4)], [.inl 256, .inr (sm_R M a0 17)], M)) sm_a164_45 rfl rfl (st_sipush (by decide)) ?_
    refine ru_go (t := (49, [some (.inr (some a0)), some (.inl x1), some (.inl x2), some (.inl x3), some (.inl x4)], [.inl x3, .inl 256, .inr (sm_R M a0 17)], M)) sm_a164_48 rfl rfl rfl ?_
    refine ru_go (t := (50, [some (.inr (some a0)), some (.inl x1), some (.inl x2), some (.inl x3), some (.inl x4)], [.inl (256 * x3), .inr (sm_R M a0 17)], M)) sm_a164_49 rfl rfl rfl ?_
    refine ru_go (t := (52, [some (.inr (some a0)), some (.inl x1), some (.inl x2), some (.inl x3), some (.inl x4)], [.inl x4, .inl (256 * x3), .inr (sm_R M a0 17)], M)) sm_a164_50 rfl rfl rfl ?_
    refine ru_go (t := (53, [some (.inr (some a0)), some (.inl x1), some (.inl x2), some (.inl x3), some (.inl x4)], [.inl ((256 * x3) + x4), .inr (sm_R M a0 17)], M)) sm_a164_52 rfl rfl rfl ?_
    refine ru_go (t := (54, [some (.inr (some a0)), some (.inl x1), some (.inl x2), some (.inl x3), some (.inl x4)], [.inr (some a0), .inl ((256 * x3) + x4), .inr (sm_R M a0 17)], M)) sm_a164_53 rfl rfl rfl ?_
    refine ru_go (t := (57, [some (.inr (some a0)), some (.inl x1), some (.inl x2), some (.inl x3), some (.inl x4)], [.inr (sm_R M a0 16), .inl ((256 * x3) + x4), .inr (sm_R M a0 17)], M)) sm_a164_54 rfl rfl (st_getR h_1 rfl rfl) ?_
    refine ru_go (t := (58, [some (.inr (some a0)), some (.inl x1), some (.inl x2), some (.inl x3), some (.inl x4)], [.inl x3, .inr (sm_R M a0 16), .inl ((256 * x3) + x4), .inr (sm_R M a0 17)], M)) sm_a164_57 rfl rfl rfl ?_
    obtain ⟨b_25, hb_26, h⟩ := h
    rw [hb_26]
    obtain ⟨h_27, h⟩ := h
    obtain ⟨h_28, h⟩ := h
    refine ru_go (t := (59, [some (.inr (some a0)), some (.inl x1), some (.inl x2), some (.inl x3), some (.inl x4)], [.inl (sm_I M b_25 (x3).toNatClampNeg), .inl ((256 * x3) + x4), .inr (sm_R M a0 17)], M)) sm_a164_58 rfl rfl (st_iald h_27 h_28) ?_
    refine ru_go (t := (60, [some (.inr (some a0)), some (.inl x1), some (.inl x2), some (.inl x3), some (.inl x4)], [.inl (((256 * x3) + x4) - (sm_I M b_25 (x3).toNatClampNeg)), .inr (sm_R M a0 17)], M)) sm_a164_59 rfl rfl rfl ?_
    refine ru_go (t := (61, [some (.inr (some a0)), some (.inl x1), some (.inl x2), some (.inl x3), some (.inl x4)], [.inr (some a0), .inl (((256 * x3) + x4) - (sm_I M b_25 (x3).toNatClampNeg)), .inr (sm_R M a0 17)], M)) sm_a164_60 rfl rfl rfl ?_
    refine ru_go (t := (64, [some (.inr (some a0)), some (.inl x1), some (.inl x2), some (.inl x3), some (.inl x4)], [.inr (sm_R M a0 17), .inl (((256 * x3) + x4) - (sm_I M b_25 (x3).toNatClampNeg)), .inr (sm_R M a0 17)], M)) sm_a164_61 rfl rfl (st_getR h_1 rfl rfl) ?_
    refine ru_go (t := (67, [some (.inr (some a0)), some (.inl x1), some (.inl x2), some (.inl x3), some (.inl x4)], [.inl 256, .inr (sm_R M a0 17), .inl (((256 * x3) + x4) - (sm_I M b_25 (x3).toNatClampNeg)), .inr (sm_R M a0 17)], M)) sm_a164_64 rfl rfl (st_sipush (by decide)) ?_
    refine ru_go (t := (68, [some (.inr (some a0)), some (.inl x1), some (.inl x2), some (.inl x3), some (.inl x4)], [.inl x3, .inl 256, .inr (sm_R M a0 17), .inl (((256 * x3) + x4) - (sm_I M b_25 (x3).toNatClampNeg)), .inr (sm_R M a0 17)], M)) sm_a164_67 rfl rfl rfl ?_
    refine ru_go (t := (69, [some (.inr (some a0)), some (.inl x1), some (.inl x2), some (.inl x3), some (.inl x4)], [.inl (256 * x3), .inr (sm_R M a0 17), .inl (((256 * x3) + x4) - (sm_I M b_25 (x3).toNatClampNeg)), .inr (sm_R M a0 17)], M)) sm_a164_68 rfl rfl rfl ?_
    refine ru_go (t := (71, [some (.inr (some a0)), some (.inl x1), some (.inl x2), some (.inl x3), some (.inl x4)], [.inl x4, .inl (256 * x3), .inr (sm_R M a0 17), .inl (((256 * x3) + x4) - (sm_I M b_25 (x3).toNatClampNeg)), .inr (sm_R M a0 17)], M)) sm_a164_69 rfl rfl rfl ?_
    refine ru_go (t := (72, [some (.inr (some a0)), some (.inl x1), some (.inl x2), some (.inl x3), some (.inl x4)], [.inl ((256 * x3) + x4), .inr (sm_R M a0 17), .inl (((256 * x3) + x4) - (sm_I M b_25 (x3).toNatClampNeg)), .inr (sm_R M a0 17)], M)) sm_a164_71 rfl rfl rfl ?_
    obtain ⟨b_29, hb_30, h⟩ := h
    rw [hb_30]
    obtain ⟨h_31, h⟩ := h
    obtain ⟨h_32, h⟩ := h
    refine ru_go (t := (73, [some (.inr (some a0)), some (.inl x1), some (.inl x2), some (.inl x3), some (.inl x4)], [.inl (sm_I M b_29 ((256 * x3) + x4).toNatClampNeg), .inl (((256 * x3) + x4) - (sm_I M b_25 (x3).toNatClampNeg)), .inr (some b_29)], M)) sm_a164_72 rfl rfl (st_iald h_31 h_32) ?_
    obtain ⟨h_33, h⟩ := h
    obtain ⟨h_34, h⟩ := h
    refine ru_go (t := (74, [some (.inr (some a0)), some (.inl x1), some (.inl x2), some (.inl x3), some (.inl x4)], [], sm_putI M b_29 (((256 * x3) + x4) - (sm_I M b_25 (x3).toNatClampNeg)).toNatClampNeg (sm_I M b_29 ((256 * x3) + x4).toNatClampNeg))) sm_a164_73 rfl rfl (st_iast h_33 h_34) ?_
    refine ru_go (t := (77, [some (.inr (some a0)), some (.inl x1), some (.inl x2), some (.inl x3), some (.inl (x4 + 1))], [], sm_putI M b_29 (((256 * x3) + x4) - (sm_I M b_25 (x3).toNatClampNeg)).toNatClampNeg (sm_I M b_29 ((256 * x3) + x4).toNatClampNeg))) sm_a164_74 rfl rfl (st_iinc rfl (by decide)) ?_
    refine ru_go (t := (30, [some (.inr (some a0)), some (.inl x1), some (.inl x2), some (.inl x3), some (.inl (x4 + 1))], [], sm_putI M b_29 (((256 * x3) + x4) - (sm_I M b_25 (x3).toNatClampNeg)).toNatClampNeg (sm_I M b_29 ((256 * x3) + x4).toNatClampNeg))) sm_a164_77 rfl rfl (st_goto (pc := 77) (by decide)) ?_
    exact h
theorem bb_164_116 {d : Nat} {M : sm_M} {Q : Option sm_V → sm_M → Prop} {a0 : Nat} {x1 : Int32} {x2 : Int32} {x3 : Int32} {x4 : Int32}
    (h : Q none M) :
    sm_Run (d + 1) 164 116 [some (.inr (some a0)), some (.inl x1), some (.inl x2), some (.inl x3), some (.inl x4)] [] M Q := by
  refine ru_go (t := (247, [some (.inr (some a0)), some (.inl x1), some (.inl x2), some (.inl x3), some (.inl x4)], [], M)) sm_a164_116 rfl rfl (st_goto (pc := 116) (by decide)) ?_
  exact ru_ret sm_a164_247 (sm_rvv rfl) h
theorem bb_164_191 {d : Nat} {M : sm_M} {Q : Option sm_V → sm_M → Prop} {a0 : Nat} {x1 : Int32} {x2 : Int32} {z3 : Option sm_V} {z4 : Option sm_V}
    (h : Q none M) :
    sm_Run (d + 1) 164 191 [some (.inr (some a0)), some (.inl x1), some (.inl x2), z3, z4] [] M Q := by
  refine ru_go (t := (247, [some (.inr (some a0)), some (.inl x1), some (.inl x2), z3, z4], [], M)) sm_a164_191 rfl rfl (st_goto (pc := 191) (by decide)) ?_
  exact ru_ret sm_a164_247 (sm_rvv rfl) h

/-! WireBusModel.given:(III)V -/
theorem sm_a165_0 : sm_at 165 0 = some (.aload_n 0, 1, (0, 0, 0, 0)) := by decide +kernel
theorem sm_a165_1 : sm_at 165 1 = some (.getfield 122, 3, (12, 41, 0, 1224)) := by decide +kernel
theorem sm_a165_4 : sm_at 165 4 = some (.aload_n 0, 1, (0, 0, 0, 0)) := by decide +kernel
theorem sm_a165_5 : sm_at 165 5 = some (.getfield 266, 3, (12, 50, 0, 1233)) := by decide +kernel
theorem sm_a165_8 : sm_at 165 8 = some (.iaload, 1, (0, 0, 0, 0)) := by decide +kernel
theorem sm_a165_9 : sm_at 165 9 = some (.istore 4, 2, (0, 0, 0, 0)) := by decide +kernel
theorem sm_a165_11 : sm_at 165 11 = some (.iload_n 2, 1, (0, 0, 0, 0)) := by decide +kernel
theorem sm_a165_12 : sm_at 165 12 = some (.ifCond .ne 12, 3, (0, 0, 0, 0)) := by decide +kernel
theorem sm_a165_15 : sm_at 165 15 = some (.aload_n 0, 1, (0, 0, 0, 0)) := by decide +kernel
theorem sm_a165_16 : sm_at 165 16 = some (.iload_n 1, 1, (0, 0, 0, 0)) := by decide +kernel
theorem sm_a165_17 : sm_at 165 17 = some (.iload_n 3, 1, (0, 0, 0, 0)) := by decide +kernel
theorem sm_a165_18 : sm_at 165 18 = some (.iload 4, 2, (0, 0, 0, 0)) := by decide +kernel
theorem sm_a165_20 : sm_at 165 20 = some (.invokevirtual 300, 3, (10, 167, 12, 1596)) := by decide +kernel
theorem sm_a165_23 : sm_at 165 23 = some (.return_, 1, (0, 0, 0, 0)) := by decide +kernel
theorem sm_a165_24 : sm_at 165 24 = some (.aload_n 0, 1, (0, 0, 0, 0)) := by decide +kernel
theorem sm_a165_25 : sm_at 165 25 = some (.iload_n 1, 1, (0, 0, 0, 0)) := by decide +kernel
theorem sm_a165_26 : sm_at 165 26 = some (.iload_n 2, 1, (0, 0, 0, 0)) := by decide +kernel
theorem sm_a165_27 : sm_at 165 27 = some (.invokevirtual 296, 3, (10, 155, 12, 1470)) := by decide +kernel
theorem sm_a165_30 : sm_at 165 30 = some (.istore 5, 2, (0, 0, 0, 0)) := by decide +kernel
theorem sm_a165_32 : sm_at 165 32 = some (.iload 5, 2, (0, 0, 0, 0)) := by decide +kernel
theorem sm_a165_34 : sm_at 165 34 = some (.iconst (-1), 1, (0, 0, 0, 0)) := by decide +kernel
theorem sm_a165_35 : sm_at 165 35 = some (.if_icmp .eq 13, 3, (0, 0, 0, 0)) := by decide +kernel
theorem sm_a165_38 : sm_at 165 38 = some (.aload_n 0, 1, (0, 0, 0, 0)) := by decide +kernel
theorem sm_a165_39 : sm_at 165 39 = some (.getfield 16, 3, (12, 4, 0, 1187)) := by decide +kernel
theorem sm_a165_42 : sm_at 165 42 = some (.iload_n 1, 1, (0, 0, 0, 0)) := by decide +kernel
theorem sm_a165_43 : sm_at 165 43 = some (.iaload, 1, (0, 0, 0, 0)) := by decide +kernel
theorem sm_a165_44 : sm_at 165 44 = some (.iconst 3, 1, (0, 0, 0, 0)) := by decide +kernel
theorem sm_a165_45 : sm_at 165 45 = some (.if_icmp .eq 4, 3, (0, 0, 0, 0)) := by decide +kernel
theorem sm_a165_48 : sm_at 165 48 = some (.return_, 1, (0, 0, 0, 0)) := by decide +kernel
theorem sm_a165_49 : sm_at 165 49 = some (.aload_n 0, 1, (0, 0, 0, 0)) := by decide +kernel
theorem sm_a165_50 : sm_at 165 50 = some (.getfield 46, 3, (12, 14, 0, 1197)) := by decide +kernel
theorem sm_a165_53 : sm_at 165 53 = some (.iload 5, 2, (0, 0, 0, 0)) := by decide +kernel
theorem sm_a165_55 : sm_at 165 55 = some (.baload, 1, (0, 0, 0, 0)) := by decide +kernel
theorem sm_a165_56 : sm_at 165 56 = some (.ifCond .eq 14, 3, (0, 0, 0, 0)) := by decide +kernel
theorem sm_a165_59 : sm_at 165 59 = some (.aload_n 0, 1, (0, 0, 0, 0)) := by decide +kernel
theorem sm_a165_60 : sm_at 165 60 = some (.iload_n 1, 1, (0, 0, 0, 0)) := by decide +kernel
theorem sm_a165_61 : sm_at 165 61 = some (.bipush 14, 2, (0, 0, 0, 0)) := by decide +kernel
theorem sm_a165_63 : sm_at 165 63 = some (.iconst 0, 1, (0, 0, 0, 0)) := by decide +kernel
theorem sm_a165_64 : sm_at 165 64 = some (.invokevirtual 284, 3, (10, 160, 12, 1556)) := by decide +kernel
theorem sm_a165_67 : sm_at 165 67 = some (.goto 151, 3, (0, 0, 0, 0)) := by decide +kernel
theorem sm_a165_70 : sm_at 165 70 = some (.iload_n 3, 1, (0, 0, 0, 0)) := by decide +kernel
theorem sm_a165_71 : sm_at 165 71 = some (.aload_n 0, 1, (0, 0, 0, 0)) := by decide +kernel
theorem sm_a165_72 : sm_at 165 72 = some (.getfield 43, 3, (12, 13, 0, 1196)) := by decide +kernel
theorem sm_a165_75 : sm_at 165 75 = some (.iload 5, 2, (0, 0, 0, 0)) := by decide +kernel
theorem sm_a165_77 : sm_at 165 77 = some (.iaload, 1, (0, 0, 0, 0)) := by decide +kernel
theorem sm_a165_78 : sm_at 165 78 = some (.if_icmp .eq 13, 3, (0, 0, 0, 0)) := by decide +kernel
theorem sm_a165_81 : sm_at 165 81 = some (.aload_n 0, 1, (0, 0, 0, 0)) := by decide +kernel
theorem sm_a165_82 : sm_at 165 82 = some (.iload_n 1, 1, (0, 0, 0, 0)) := by decide +kernel
theorem sm_a165_83 : sm_at 165 83 = some (.iconst 2, 1, (0, 0, 0, 0)) := by decide +kernel
theorem sm_a165_84 : sm_at 165 84 = some (.iconst 0, 1, (0, 0, 0, 0)) := by decide +kernel
theorem sm_a165_85 : sm_at 165 85 = some (.invokevirtual 284, 3, (10, 160, 12, 1556)) := by decide +kernel
theorem sm_a165_88 : sm_at 165 88 = some (.goto 130, 3, (0, 0, 0, 0)) := by decide +kernel
theorem sm_a165_91 : sm_at 165 91 = some (.iload 4, 2, (0, 0, 0, 0)) := by decide +kernel
theorem sm_a165_93 : sm_at 165 93 = some (.aload_n 0, 1, (0, 0, 0, 0)) := by decide +kernel
theorem sm_a165_94 : sm_at 165 94 = some (.getfield 37, 3, (12, 11, 0, 1194)) := by decide +kernel
theorem sm_a165_97 : sm_at 165 97 = some (.iload 5, 2, (0, 0, 0, 0)) := by decide +kernel
theorem sm_a165_99 : sm_at 165 99 = some (.iaload, 1, (0, 0, 0, 0)) := by decide +kernel
theorem sm_a165_100 : sm_at 165 100 = some (.if_icmp .gt 19, 3, (0, 0, 0, 0)) := by decide +kernel
theorem sm_a165_103 : sm_at 165 103 = some (.aload_n 0, 1, (0, 0, 0, 0)) := by decide +kernel
theorem sm_a165_104 : sm_at 165 104 = some (.getfield 50, 3, (12, 15, 0, 1198)) := by decide +kernel
theorem sm_a165_107 : sm_at 165 107 = some (.iload 5, 2, (0, 0, 0, 0)) := by decide +kernel
theorem sm_a165_109 : sm_at 165 109 = some (.iaload, 1, (0, 0, 0, 0)) := by decide +kernel
theorem sm_a165_110 : sm_at 165 110 = some (.iload 4, 2, (0, 0, 0, 0)) := by decide +kernel
theorem sm_a165_112 : sm_at 165 112 = some (.iadd, 1, (0, 0, 0, 0)) := by decide +kernel
theorem sm_a165_113 : sm_at 165 113 = some (.sipush 256, 3, (0, 0, 0, 0)) := by decide +kernel
theorem sm_a165_116 : sm_at 165 116 = some (.if_icmp .le 14, 3, (0, 0, 0, 0)) := by decide +kernel
theorem sm_a165_119 : sm_at 165 119 = some (.aload_n 0, 1, (0, 0, 0, 0)) := by decide +kernel
theorem sm_a165_120 : sm_at 165 120 = some (.iload_n 1, 1, (0, 0, 0, 0)) := by decide +kernel
theorem sm_a165_121 : sm_at 165 121 = some (.bipush 10, 2, (0, 0, 0, 0)) := by decide +kernel
theorem sm_a165_123 : sm_at 165 123 = some (.iconst 0, 1, (0, 0, 0, 0)) := by decide +kernel
theorem sm_a165_124 : sm_at 165 124 = some (.invokevirtual 284, 3, (10, 160, 12, 1556)) := by decide +kernel
theorem sm_a165_127 : sm_at 165 127 = some (.goto 91, 3, (0, 0, 0, 0)) := by decide +kernel
theorem sm_a165_130 : sm_at 165 130 = some (.iconst 0, 1, (0, 0, 0, 0)) := by decide +kernel
theorem sm_a165_131 : sm_at 165 131 = some (.istore 6, 2, (0, 0, 0, 0)) := by decide +kernel
theorem sm_a165_133 : sm_at 165 133 = some (.iload 6, 2, (0, 0, 0, 0)) := by decide +kernel
theorem sm_a165_135 : sm_at 165 135 = some (.iload 4, 2, (0, 0, 0, 0)) := by decide +kernel
theorem sm_a165_137 : sm_at 165 137 = some (.if_icmp .ge 46, 3, (0, 0, 0, 0)) := by decide +kernel
theorem sm_a165_140 : sm_at 165 140 = some (.aload_n 0, 1, (0, 0, 0, 0)) := by decide +kernel
theorem sm_a165_141 : sm_at 165 141 = some (.getfield 56, 3, (12, 17, 0, 1200)) := by decide +kernel
theorem sm_a165_144 : sm_at 165 144 = some (.sipush 256, 3, (0, 0, 0, 0)) := by decide +kernel
theorem sm_a165_147 : sm_at 165 147 = some (.iload 5, 2, (0, 0, 0, 0)) := by decide +kernel
theorem sm_a165_149 : sm_at 165 149 = some (.imul, 1, (0, 0, 0, 0)) := by decide +kernel
theorem sm_a165_150 : sm_at 165 150 = some (.aload_n 0, 1, (0, 0, 0, 0)) := by decide +kernel
theorem sm_a165_151 : sm_at 165 151 = some (.getfield 50, 3, (12, 15, 0, 1198)) := by decide +kernel
theorem sm_a165_154 : sm_at 165 154 = some (.iload 5, 2, (0, 0, 0, 0)) := by decide +kernel
theorem sm_a165_156 : sm_at 165 156 = some (.iaload, 1, (0, 0, 0, 0)) := by decide +kernel
theorem sm_a165_157 : sm_at 165 157 = some (.iadd, 1, (0, 0, 0, 0)) := by decide +kernel
theorem sm_a165_158 : sm_at 165 158 = some (.iload 6, 2, (0, 0, 0, 0)) := by decide +kernel
theorem sm_a165_160 : sm_at 165 160 = some (.iadd, 1, (0, 0, 0, 0)) := by decide +kernel
theorem sm_a165_161 : sm_at 165 161 = some (.aload_n 0, 1, (0, 0, 0, 0)) := by decide +kernel
theorem sm_a165_162 : sm_at 165 162 = some (.getfield 125, 3, (12, 42, 0, 1225)) := by decide +kernel
theorem sm_a165_165 : sm_at 165 165 = some (.bipush 100, 2, (0, 0, 0, 0)) := by decide +kernel
theorem sm_a165_167 : sm_at 165 167 = some (.aload_n 0, 1, (0, 0, 0, 0)) := by decide +kernel
theorem sm_a165_168 : sm_at 165 168 = some (.getfield 266, 3, (12, 50, 0, 1233)) := by decide +kernel
theorem sm_a165_171 : sm_at 165 171 = some (.imul, 1, (0, 0, 0, 0)) := by decide +kernel
theorem sm_a165_172 : sm_at 165 172 = some (.iload 6, 2, (0, 0, 0, 0)) := by decide +kernel
theorem sm_a165_174 : sm_at 165 174 = some (.iadd, 1, (0, 0, 0, 0)) := by decide +kernel
theorem sm_a165_175 : sm_at 165 175 = some (.iaload, 1, (0, 0, 0, 0)) := by decide +kernel
theorem sm_a165_176 : sm_at 165 176 = some (.iastore, 1, (1, 0, 0, 0)) := by decide +kernel
theorem sm_a165_177 : sm_at 165 177 = some (.iinc 6 1, 3, (0, 0, 0, 0)) := by decide +kernel
theorem sm_a165_180 : sm_at 165 180 = some (.goto (-47), 3, (0, 0, 0, 0)) := by decide +kernel
theorem sm_a165_183 : sm_at 165 183 = some (.aload_n 0, 1, (0, 0, 0, 0)) := by decide +kernel
theorem sm_a165_184 : sm_at 165 184 = some (.getfield 50, 3, (12, 15, 0, 1198)) := by decide +kernel
theorem sm_a165_187 : sm_at 165 187 = some (.iload 5, 2, (0, 0, 0, 0)) := by decide +kernel
theorem sm_a165_189 : sm_at 165 189 = some (.dup2, 1, (0, 0, 0, 0)) := by decide +kernel
theorem sm_a165_190 : sm_at 165 190 = some (.iaload, 1, (0, 0, 0, 0)) := by decide +kernel
theorem sm_a165_191 : sm_at 165 191 = some (.iload 4, 2, (0, 0, 0, 0)) := by decide +kernel
theorem sm_a165_193 : sm_at 165 193 = some (.iadd, 1, (0, 0, 0, 0)) := by decide +kernel
theorem sm_a165_194 : sm_at 165 194 = some (.iastore, 1, (1, 0, 0, 0)) := by decide +kernel
theorem sm_a165_195 : sm_at 165 195 = some (.aload_n 0, 1, (0, 0, 0, 0)) := by decide +kernel
theorem sm_a165_196 : sm_at 165 196 = some (.getfield 43, 3, (12, 13, 0, 1196)) := by decide +kernel
theorem sm_a165_199 : sm_at 165 199 = some (.iload 5, 2, (0, 0, 0, 0)) := by decide +kernel
theorem sm_a165_201 : sm_at 165 201 = some (.iconst 1, 1, (0, 0, 0, 0)) := by decide +kernel
theorem sm_a165_202 : sm_at 165 202 = some (.aload_n 0, 1, (0, 0, 0, 0)) := by decide +kernel
theorem sm_a165_203 : sm_at 165 203 = some (.getfield 43, 3, (12, 13, 0, 1196)) := by decide +kernel
theorem sm_a165_206 : sm_at 165 206 = some (.iload 5, 2, (0, 0, 0, 0)) := by decide +kernel
theorem sm_a165_208 : sm_at 165 208 = some (.iaload, 1, (0, 0, 0, 0)) := by decide +kernel
theorem sm_a165_209 : sm_at 165 209 = some (.isub, 1, (0, 0, 0, 0)) := by decide +kernel
theorem sm_a165_210 : sm_at 165 210 = some (.iastore, 1, (1, 0, 0, 0)) := by decide +kernel
theorem sm_a165_211 : sm_at 165 211 = some (.aload_n 0, 1, (0, 0, 0, 0)) := by decide +kernel
theorem sm_a165_212 : sm_at 165 212 = some (.iload_n 1, 1, (0, 0, 0, 0)) := by decide +kernel
theorem sm_a165_213 : sm_at 165 213 = some (.iconst 2, 1, (0, 0, 0, 0)) := by decide +kernel
theorem sm_a165_214 : sm_at 165 214 = some (.iconst 0, 1, (0, 0, 0, 0)) := by decide +kernel
theorem sm_a165_215 : sm_at 165 215 = some (.invokevirtual 284, 3, (10, 160, 12, 1556)) := by decide +kernel
theorem sm_a165_218 : sm_at 165 218 = some (.return_, 1, (0, 0, 0, 0)) := by decide +kernel
theorem bb_165_0 {d : Nat} {M : sm_M} {Q : Option sm_V → sm_M → Prop} {a0 : Nat} {x1 : Int32} {x2 : Int32} {x3 : Int32} {z4 : Option sm_V} {z5 : Option sm_V} {z6 : Option sm_V}
    (h : sm_K M a0 = 39 ∧ ∃ b_2, sm_R M a0 41 = some b_2 ∧ sm_iA M b_2 ∧ sm_in_ M b_2 (sm_I M a0 50) ∧ ((¬ x2 = 0 → sm_Run d 155 0 (sm_ent 155 [.inr (some a0), .inl x1, .inl x2]) [] M (fun v M1 => sm_Run (d + 1) 165 30 [some (.inr (some a0)), some (.inl x1), some (.inl x2), some (.inl x3), some (.inl (sm_I M b_2 (sm_I M a0 50).toNatClampNeg)), z5, z6] (v.toList ++ []) M1 Q)) ∧ (¬ (¬ x2 = 0) → sm_Run d 167 0 (sm_ent 167 [.inr (some a0), .inl x1, .inl x3, .inl (sm_I M b_2 (sm_I M a0 50).toNatClampNeg)]) [] M (fun v M1 => sm_Run (d + 1) 165 23 [some (.inr (some a0)), some (.inl x1), some (.inl x2), some (.inl x3), some (.inl (sm_I M b_2 (sm_I M a0 50).toNatClampNeg)), z5, z6] (v.toList ++ []) M1 Q)))) :
    sm_Run (d + 1) 165 0 [some (.inr (some a0)), some (.inl x1), some (.inl x2), some (.inl x3), z4, z5, z6] [] M Q := by
  refine ru_go (t := (1, [some (.inr (some a0)), some (.inl x1), some (.inl x2), some (.inl x3), z4, z5, z6], [.inr (some a0)], M)) sm_a165_0 rfl rfl rfl ?_
  obtain ⟨h_1, h⟩ := h
  refine ru_go (t := (4, [some (.inr (some a0)), some (.inl x1), some (.inl x2), some (.inl x3), z4, z5, z6], [.inr (sm_R M a0 41)], M)) sm_a165_1 rfl rfl (st_getR h_1 rfl rfl) ?_
  refine ru_go (t := (5, [some (.inr (some a0)), some (.inl x1), some (.inl x2), some (.inl x3), z4, z5, z6], [.inr (some a0), .inr (sm_R M a0 41)], M)) sm_a165_4 rfl rfl rfl ?_
  refine ru_go (t := (8, [some (.inr (some a0)), some (.inl x1), some (.inl x2), some (.inl x3), z4, z5, z6], [.inl (sm_I M a0 50), .inr (sm_R M a0 41)], M)) sm_a165_5 rfl rfl (st_getI h_1 rfl) ?_
  obtain ⟨b_2, hb_3, h⟩ := h
  rw [hb_3]
  obtain ⟨h_4, h⟩ := h
  obtain ⟨h_5, h⟩ := h
  refine ru_go (t := (9, [some (.inr (some a0)), some (.inl x1), some (.inl x2), some (.inl x3), z4, z5, z6], [.inl (sm_I M b_2 (sm_I M a0 50).toNatClampNeg)], M)) sm_a165_8 rfl rfl (st_iald h_4 h_5) ?_
  refine ru_go (t := (11, [some (.inr (some a0)), some (.inl x1), some (.inl x2), some (.inl x3), some (.inl (sm_I M b_2 (sm_I M a0 50).toNatClampNeg)), z5, z6], [], M)) sm_a165_9 rfl rfl rfl ?_
  refine ru_go (t := (12, [some (.inr (some a0)), some (.inl x1), some (.inl x2), some (.inl x3), some (.inl (sm_I M b_2 (sm_I M a0 50).toNatClampNeg)), z5, z6], [.inl x2], M)) sm_a165_11 rfl rfl rfl ?_
  refine ru_if (pc := 12) (p := 24) (p2 := 15) sm_a165_12 (by decide) rfl ⟨fun hc_6 => ?_, fun hc_6 => ?_⟩
  · have h := h.1 hc_6
    refine ru_go (t := (25, [some (.inr (some a0)), some (.inl x1), some (.inl x2), some (.inl x3), some (.inl (sm_I M b_2 (sm_I M a0 50).toNatClampNeg)), z5, z6], [.inr (some a0)], M)) sm_a165_24 rfl rfl rfl ?_
    refine ru_go (t := (26, [some (.inr (some a0)), some (.inl x1), some (.inl x2), some (.inl x3), some (.inl (sm_I M b_2 (sm_I M a0 50).toNatClampNeg)), z5, z6], [.inl x1, .inr (some a0)], M)) sm_a165_25 rfl rfl rfl ?_
    refine ru_go (t := (27, [some (.inr (some a0)), some (.inl x1), some (.inl x2), some (.inl x3), some (.inl (sm_I M b_2 (sm_I M a0 50).toNatClampNeg)), z5, z6], [.inl x2, .inl x1, .inr (some a0)], M)) sm_a165_26 rfl rfl rfl ?_
    exact ru_call (p := 30) sm_a165_27 rfl (sc_virt (Or.inl rfl) rfl rfl h_1 (Nat.le_of_ble_eq_true rfl)) rfl h
  · have h := h.2 hc_6
    refine ru_go (t := (16, [some (.inr (some a0)), some (.inl x1), some (.inl x2), some (.inl x3), some (.inl (sm_I M b_2 (sm_I M a0 50).toNatClampNeg)), z5, z6], [.inr (some a0)], M)) sm_a165_15 rfl rfl rfl ?_
    refine ru_go (t := (17, [some (.inr (some a0)), some (.inl x1), some (.inl x2), some (.inl x3), some (.inl (sm_I M b_2 (sm_I M a0 50).toNatClampNeg)), z5, z6], [.inl x1, .inr (some a0)], M)) sm_a165_16 rfl rfl rfl ?_
    refine ru_go (t := (18, [some (.inr (some a0)), some (.inl x1), some (.inl x2), some (.inl x3), some (.inl (sm_I M b_2 (sm_I M a0 50).toNatClampNeg)), z5, z6], [.inl x3, .inl x1, .inr (some a0)], M)) sm_a165_17 rfl rfl rfl ?_
    refine ru_go (t := (20, [some (.inr (some a0)), some (.inl x1), some (.inl x2), some (.inl x3), some (.inl (sm_I M b_2 (sm_I M a0 50).toNatClampNeg)), z5, z6], [.inl (sm_I M b_2 (sm_I M a0 50).toNatClampNeg), .inl x3, .inl x1, .inr (some a0)], M)) sm_a165_18 rfl rfl rfl ?_
    exact ru_call (p := 23) sm_a165_20 rfl (sc_virt (Or.inl rfl) rfl rfl h_1 (Nat.le_of_ble_eq_true rfl)) rfl h
theorem bb_165_23 {d : Nat} {M : sm_M} {Q : Option sm_V → sm_M → Prop} {a0 : Nat} {x1 : Int32} {x2 : Int32} {x3 : Int32} {x4 : Int32} {z5 : Option sm_V} {z6 : Option sm_V}
    (h : Q none M) :
    sm_Run (d + 1) 165 23 [some (.inr (some a0)), some (.inl x1), some (.inl x2), some (.inl x3), some (.inl x4), z5, z6] [] M Q := by
  exact ru_ret sm_a165_23 (sm_rvv rfl) h
theorem bb_165_30 {d : Nat} {M : sm_M} {Q : Option sm_V → sm_M → Prop} {a0 : Nat} {x1 : Int32} {x2 : Int32} {x3 : Int32} {x4 : Int32} {z5 : Option sm_V} {z6 : Option sm_V} {y0 : Int32}
    (h : ((y0 = (-1) → Q none M) ∧ (¬ (y0 = (-1)) → sm_K M a0 = 39 ∧ ∃ b_3, sm_R M a0 4 = some b_3 ∧ sm_iA M b_3 ∧ sm_in_ M b_3 x1 ∧ (((sm_I M b_3 (x1).toNatClampNeg) = 3 → ∃ b_8, sm_R M a0 14 = some b_8 ∧ sm_wZ 1 M b_8 ∧ sm_in_ M b_8 y0 ∧ (((sm_I M b_8 (y0).toNatClampNeg) = 0 → ∃ b_13, sm_R M a0 13 = some b_13 ∧ sm_iA M b_13 ∧ sm_in_ M b_13 y0 ∧ ((x3 = (sm_I M b_13 (y0).toNatClampNeg) → ∃ b_18, sm_R M a0 11 = some b_18 ∧ sm_iA M b_18 ∧ sm_in_ M b_18 y0 ∧ (((sm_I M b_18 (y0).toNatClampNeg) < x4 → sm_Run d 160 0 (sm_ent 160 [.inr (some a0), .inl x1, .inl 10, .inl 0]) [] M (fun v M1 => sm_Run (d + 1) 165 127 [some (.inr (some a0)), some (.inl x1), some (.inl x2), some (.inl x3), some (.inl x4), some (.inl y0), z6] (v.toList ++ []) M1 Q)) ∧ (¬ ((sm_I M b_18 (y0).toNatClampNeg) < x4) → ∃ b_23, sm_R M a0 15 = some b_23 ∧ sm_iA M b_23 ∧ sm_in_ M b_23 y0 ∧ ((((sm_I M b_23 (y0).toNatClampNeg) + x4) ≤ 256 → sm_Run (d + 1) 165 133 [some (.inr (some a0)), some (.inl x1), some (.inl x2), some (.inl x3), some (.inl x4), some (.inl y0), some (.inl 0)] [] M Q) ∧ (¬ (((sm_I M b_23 (y0).toNatClampNeg) + x4) ≤ 256) → sm_Run d 160 0 (sm_ent 160 [.inr (some a0), .inl x1, .inl 10, .inl 0]) [] M (fun v M1 => sm_Run (d + 1) 165 127 [some (.inr (some a0)), some (.inl x1), some (.inl x2), some (.inl x3), some (.inl x4), some (.inl y0), z6] (v.toList ++ []) M1 Q)))))) ∧ (¬ (x3 = (sm_I M b_13 (y0).toNatClampNeg)) → sm_Run d 160 0 (sm_ent 160 [.inr (some a0), .inl x1, .inl 2, .inl 0]) [] M (fun v M1 => sm_Run (d + 1) 165 88 [some (.inr (some a0)), some (.inl x1), some (.inl x2), some (.inl x3), some (.inl x4), some (.inl y0), z6] (v.toList ++ []) M1 Q)))) ∧ (¬ ((sm_I M b_8 (y0).toNatClampNeg) = 0) → sm_Run d 160 0 (sm_ent 160 [.inr (some a0), .inl x1, .inl 14, .inl 0]) [] M (fun v M1 => sm_Run (d + 1) 165 67 [some (.inr (some a0)), some (.inl x1), some (.inl x2), some (.inl x3), some (.inl x4), some (.inl y0), z6] (v.toList ++ []) M1 Q)))) ∧ (¬ ((sm_I M b_3 (x1).toNatClampNeg) = 3) → Q none M))))) :
    sm_Run (d + 1) 165 30 [some (.inr (some a0)), some (.inl x1), some (.inl x2), some (.inl x3), some (.inl x4), z5, z6] [.inl y0] M Q := by
  refine ru_go (t := (32, [some (.inr (some a0)), some (.inl x1), some (.inl x2), some (.inl x3), some (.inl x4), some (.inl y0), z6], [], M)) sm_a165_30 rfl rfl rfl ?_
  refine ru_go (t := (34, [some (.inr (some a0)), some (.inl x1), some (.inl x2), some (.inl x3), some (.inl x4), some (.inl y0), z6], [.inl y0], M)) sm_a165_32 rfl rfl rfl ?_
  refine ru_go (t := (35, [some (.inr (some a0)), some (.inl x1), some (.inl x2), some (.inl x3), some (.inl x4), some (.inl y0), z6], [.inl (-1), .inl y0], M)) sm_a165_34 rfl rfl (st_iconst (by decide)) ?_
  refine ru_icmp (pc := 35) (p := 48) (p2 := 38) sm_a165_35 (by decide) rfl ⟨fun hc_1 => ?_, fun hc_1 => ?_⟩
  · have h := h.1 hc_1
    exact ru_ret sm_a165_48 (sm_rvv rfl) h
  · have h := h.2 hc_1
    refine ru_go (t := (39, [some (.inr (some a0)), some (.inl x1), some (.inl x2), some (.inl x3), some (.inl x4), some (.inl y0), z6], [.inr (some a0)], M)) sm_a165_38 rfl rfl rfl ?_
    obtain ⟨h_2, h⟩ := h
    refine ru_go (t := (42, [some (.inr (some a0)), some (.inl x1), some (.inl x2), some (.inl x3), some (.inl x4), some (.inl y0), z6], [.inr (sm_R M a0 4)], M)) sm_a165_39 rfl rfl (st_getR h_2 rfl rfl) ?_
    refine ru_go (t := (43, [some (.inr (some a0)), some (.inl x1), some (.inl x2), some (.inl x3), some (.inl x4), some (.inl y0), z6], [.inl x1, .inr (sm_R M a0 4)], M)) sm_a165_42 rfl rfl rfl ?_
    obtain ⟨b_3, hb_4, h⟩ := h
    rw [hb_4]
    obtain ⟨h_5, h⟩ := h
    obtain ⟨h_6, h⟩ := h
    refine ru_go (t := (44, [some (.inr (some a0)), some (.inl x1), some (.inl x2), some (.inl x3), some (.inl x4), some (.inl y0), z6], [.inl (sm_I M b_3 (x1).toNatClampNeg)], M)) sm_a165_43 rfl rfl (st_iald h_5 h_6) ?_
    refine ru_go (t := (45, [some (.inr (some a0)), some (.inl x1), some (.inl x2), some (.inl x3), some (.inl x4), some (.inl y0), z6], [.inl 3, .inl (sm_I M b_3 (x1).toNatClampNeg)], M)) sm_a165_44 rfl rfl (st_iconst (by decide)) ?_
    refine ru_icmp (pc := 45) (p := 49) (p2 := 48) sm_a165_45 (by decide) rfl ⟨fun hc_7 => ?_, fun hc_7 => ?_⟩
    · have h := h.1 hc_7
      refine ru_go (t := (50, [some (.inr (some a0)), some (.inl x1), some (.inl x2), some (.inl x3), some (.inl x4), some (.inl y0), z6], [.inr (some a0)], M)) sm_a165_49 rfl rfl rfl ?_
      refine ru_go (t := (53, [some (.inr (some a0)), some (.inl x1), some (.inl x2), some (.inl x3), some (.inl x4), some (.inl y0), z6], [.inr (sm_R M a0 14)], M)) sm_a165_50 rfl rfl (st_getR h_2 rfl rfl) ?_
      refine ru_go (t := (55, [some (.inr (some a0)), some (.inl x1), some (.inl x2), some (.inl x3), some (.inl x4), some (.inl y0), z6], [.inl y0, .inr (sm_R M a0 14)], M)) sm_a165_53 rfl rfl rfl ?_
      obtain ⟨b_8, hb_9, h⟩ := h
      rw [hb_9]
      obtain ⟨h_10, h⟩ := h
      obtain ⟨h_11, h⟩ := h
      refine ru_go (t := (56, [some (.inr (some a0)), some (.inl x1), some (.inl x2), some (.inl x3), some (.inl x4), some (.inl y0), z6], [.inl (sm_I M b_8 (y0).toNatClampNeg)], M)) sm_a165_55 rfl rfl (st_zald h_10 h_11) ?_
      refine ru_if (pc := 56) (p := 70) (p2 := 59) sm_a165_56 (by decide) rfl ⟨fun hc_12 => ?_, fun hc_12 => ?_⟩
      · have h := h.1 hc_12
        refine ru_go (t := (71, [some (.inr (some a0)), some (.inl x1), some (.inl x2), some (.inl x3), some (.inl x4), some (.inl y0), z6], [.inl x3], M)) sm_a165_70 rfl rfl rfl ?_
        refine ru_go (t := (72, [some (.inr (some a0)), some (.inl x1), some (.inl x2), some (.inl x3), some (.inl x4), some (.inl y0), z6], [.inr (some a0), .inl x3], M)) sm_a165_71 rfl rfl rfl ?_
        refine ru_go (t := (75, [some (.inr (some a0)), some (.inl x1), some (.inl x2), some (.inl x3), some (.inl x4), some (.inl y0), z6], [.inr (sm_R M a0 13), .inl x3], M)) sm_a165_72 rfl rfl (st_getR h_2 rfl rfl) ?_
        refine ru_go (t := (77, [some (.inr (some a0)), some (.inl x1), some (.inl x2), some (.inl x3), some (.inl x4), some (.inl y0), z6], [.inl y0, .inr (sm_R M a0 13), .inl x3], M)) sm_a165_75 rfl rfl rfl ?_
        obtain ⟨b_13, hb_14, h⟩ := h
        rw [hb_14]
        obtain ⟨h_15, h⟩ := h
        obtain ⟨h_16, h⟩ := h
        refine ru_go (t := (78, [some (.inr (some a0)), some (.inl x1), some (.inl x2), some (.inl x3), some (.inl x4), some (.inl y0), z6], [.inl (sm_I M b_13 (y0).toNatClampNeg), .inl x3], M)) sm_a165_77 rfl rfl (st_iald h_15 h_16) ?_
        refine ru_icmp (pc := 78) (p := 91) (p2 := 81) sm_a165_78 (by decide) rfl ⟨fun hc_17 => ?_, fun hc_17 => ?_⟩
        · have h := h.1 hc_17
          refine ru_go (t := (93, [some (.inr (some a0)), some (.inl x1), some (.inl x2), some (.inl x3), some (.inl x4), some (.inl y0), z6], [.inl x4], M)) sm_a165_91 rfl rfl rfl ?_
          refine ru_go (t := (94, [some (.inr (some a0)), some (.inl x1), some (.inl x2), some (.inl x3), some (.inl x4), some (.inl y0), z6], [.inr (some a0), .inl x4], M)) sm_a165_93 rfl rfl rfl ?_
          refine ru_go (t := (97, [some (.inr (some a0)), some (.inl x1), some (.inl x2), some (.inl x3), some (.inl x4), some (.inl y0), z6], [.inr (sm_R M a0 11), .inl x4], M)) sm_a165_94 rfl rfl (st_getR h_2 rfl rfl) ?_
          refine ru_go (t := (99, [some (.inr (some a0)), some (.inl x1), some (.inl x2), some (.inl x3), some (.inl x4), some (.inl y0), z6], [.inl y0, .inr (sm_R M a0 11), .inl x4], M)) sm_a165_97 rfl rfl rfl ?_
          obtain ⟨b_18, hb_19, h⟩ := h
          rw [hb_19]
          obtain ⟨h_20, h⟩ := h
          obtain ⟨h_21, h⟩ := h
          refine ru_go (t := (100, [some (.inr (some a0)), some (.inl x1), some (.inl x2), some (.inl x3), some (.inl x4), some (.inl y0), z6], [.inl (sm_I M b_18 (y0).toNatClampNeg), .inl x4], M)) sm_a165_99 rfl rfl (st_iald h_20 h_21) ?_
          refine ru_icmp (pc := 100) (p := 119) (p2 := 103) sm_a165_100 (by decide) rfl ⟨fun hc_22 => ?_, fun hc_22 => ?_⟩
          · have h := h.1 hc_22
            refine ru_go (t := (120, [some (.inr (some a0)), some (.inl x1), some (.inl x2), some (.inl x3), some (.inl x4), some (.inl y0), z6], [.inr (some a0)], M)) sm_a165_119 rfl rfl rfl ?_
            refine ru_go (t := (121, [some (.inr (some a0)), some (.inl x1), some (.inl x2), some (.inl x3), some (.inl x4), some (.inl y0), z6], [.inl x1, .inr (some a0)], M)) sm_a165_120 rfl rfl rfl ?_
            refine ru_go (t := (123, [some (.inr (some a0)), some (.inl x1), some (.inl x2), some (.inl x3), some (.inl x4), some (.inl y0), z6], [.inl 10, .inl x1, .inr (some a0)], M)) sm_a165_121 rfl rfl (st_bipush (by decide)) ?_
            refine ru_go (t := (124, [some (.inr (some a0)), some (.inl x1), some (.inl x2), some (.inl x3), some (.inl x4), some (.inl y0), z6], [.inl 0, .inl 10, .inl x1, .inr (some a0)], M)) sm_a165_123 rfl rfl (st_iconst (by decide)) ?_
            exact ru_call (p := 127) sm_a165_124 rfl (sc_virt (Or.inl rfl) rfl rfl h_2 (Nat.le_of_ble_eq_true rfl)) rfl h
          · have h := h.2 hc_22
            refine ru_go (t := (104, [some (.inr (some a0)), some (.inl x1), some (.inl x2), some (.inl x3), some (.inl x4), some (.inl y0), z6], [.inr (some a0)], M)) sm_a165_103 rfl rfl rfl ?_
            refine ru_go (t := (107, [some (.inr (some a0)), some (.inl x1), some (.inl x2), some (.inl x3), some (.inl x4), some (.inl y0), z6], [.inr (sm_R M a0 15)], M)) sm_a165_104 rfl rfl (st_getR h_2 rfl rfl) ?_
            refine ru_go (t := (109, [some (.inr (some a0)), some (.inl x1), some (.inl x2), some (.inl x3), some (.inl x4), some (.inl y0), z6], [.inl y0, .inr (sm_R M a0 15)], M)) sm_a165_107 rfl rfl rfl ?_
            obtain ⟨b_23, hb_24, h⟩ := h
            rw [hb_24]
            obtain ⟨h_25, h⟩ := h
            obtain ⟨h_26, h⟩ := h
            refine ru_go (t := (110, [some (.inr (some a0)), some (.inl x1), some (.inl x2), some (.inl x3), some (.inl x4), some (.inl y0), z6], [.inl (sm_I M b_23 (y0).toNatClampNeg)], M)) sm_a165_109 rfl rfl (st_iald h_25 h_26) ?_
            refine ru_go (t := (112, [some (.inr (some a0)), some (.inl x1), some (.inl x2), some (.inl x3), some (.inl x4), some (.inl y0), z6], [.inl x4, .inl (sm_I M b_23 (y0).toNatClampNeg)], M)) sm_a165_110 rfl rfl rfl ?_
            refine ru_go (t := (113, [some (.inr (some a0)), some (.inl x1), some (.inl x2), some (.inl x3), some (.inl x4), some (.inl y0), z6], [.inl ((sm_I M b_23 (y0).toNatClampNeg) + x4)], M)) sm_a165_112 rfl rfl rfl ?_
            refine ru_go (t := (116, [some (.inr (some a0)), some (.inl x1), some (.inl x2), some (.inl x3), some (.inl x4), some (.inl y0), z6], [.inl 256, .inl ((sm_I M b_23 (y0).toNatClampNeg) + x4)], M)) sm_a165_113 rfl rfl (st_sipush (by decide)) ?_
            refine ru_icmp (pc := 116) (p := 130) (p2 := 119) sm_a165_116 (by decide) rfl ⟨fun hc_27 => ?_, fun hc_27 => ?_⟩
            · have h := h.1 hc_27
              refine ru_go (t := (131, [some (.inr (some a0)), some (.inl x1), some (.inl x2), some (.inl x3), some (.inl x4), some (.inl y0), z6], [.inl 0], M)) sm_a165_130 rfl rfl (st_iconst (by decide)) ?_
              refine ru_go (t := (133, [some (.inr (some a0)), some (.inl x1), some (.inl x2), some (.inl x3), some (.inl x4), some (.inl y0), some (.inl 0)], [], M)) sm_a165_131 rfl rfl rfl ?_
              exact h
            · have h := h.2 hc_27
              refine ru_go (t := (120, [some (.inr (some a0)), some (.inl x1), some (.inl x2), some (.inl x3), some (.inl x4), some (.inl y0), z6], [.inr (some a0)], M)) sm_a165_119 rfl rfl rfl ?_
              refine ru_go (t := (121, [some (.inr (some a0)), some (.inl x1), some (.inl x2), some (.inl x3), some (.inl x4), some (.inl y0), z6], [.inl x1, .inr (some a0)], M)) sm_a165_120 rfl rfl rfl ?_
              refine ru_go (t := (123, [some (.inr (some a0)), some (.inl x1), some (.inl x2), some (.inl x3), some (.inl x4), some (.inl y0), z6], [.inl 10, .inl x1, .inr (some a0)], M)) sm_a165_121 rfl rfl (st_bipush (by decide)) ?_
              refine ru_go (t := (124, [some (.inr (some a0)), some (.inl x1), some (.inl x2), some (.inl x3), some (.inl x4), some (.inl y0), z6], [.inl 0, .inl 10, .inl x1, .inr (some a0)], M)) sm_a165_123 rfl rfl (st_iconst (by decide)) ?_
              exact ru_call (p := 127) sm_a165_124 rfl (sc_virt (Or.inl rfl) rfl rfl h_2 (Nat.le_of_ble_eq_true rfl)) rfl h
        · have h := h.2 hc_17
          refine ru_go (t := (82, [some (.inr (some a0)), some (.inl x1), some (.inl x2), some (.inl x3), some (.inl x4), some (.inl y0), z6], [.inr (some a0)], M)) sm_a165_81 rfl rfl rfl ?_
          refine ru_go (t := (83, [some (.inr (some a0)), some (.inl x1), some (.inl x2), some (.inl x3), some (.inl x4), some (.inl y0), z6], [.inl x1, .inr (some a0)], M)) sm_a165_82 rfl rfl rfl ?_
          refine ru_go (t := (84, [some (.inr (some a0)), some (.inl x1), some (.inl x2), some (.inl x3), some (.inl x4), some (.inl y0), z6], [.inl 2, .inl x1, .inr (some a0)], M)) sm_a165_83 rfl rfl (st_iconst (by decide)) ?_
          refine ru_go (t := (85, [some (.inr (some a0)), some (.inl x1), some (.inl x2), some (.inl x3), some (.inl x4), some (.inl y0), z6], [.inl 0, .inl 2, .inl x1, .inr (some a0)], M)) sm_a165_84 rfl rfl (st_iconst (by decide)) ?_
          exact ru_call (p := 88) sm_a165_85 rfl (sc_virt (Or.inl rfl) rfl rfl h_2 (Nat.le_of_ble_eq_true rfl)) rfl h
      · have h := h.2 hc_12
        refine ru_go (t := (60, [some (.inr (some a0)), some (.inl x1), some (.inl x2), some (.inl x3), some (.inl x4), some (.inl y0), z6], [.inr (some a0)], M)) sm_a165_59 rfl rfl rfl ?_
        refine ru_go (t := (61, [some (.inr (some a0)), some (.inl x1), some (.inl x2), some (.inl x3), some (.inl x4), some (.inl y0), z6], [.inl x1, .inr (some a0)], M)) sm_a165_60 rfl rfl rfl ?_
        refine ru_go (t := (63, [some (.inr (some a0)), some (.inl x1), some (.inl x2), some (.inl x3), some (.inl x4), some (.inl y0), z6], [.inl 14, .inl x1, .inr (some a0)], M)) sm_a165_61 rfl rfl (st_bipush (by decide)) ?_
        refine ru_go (t := (64, [some (.inr (some a0)), some (.inl x1), some (.inl x2), some (.inl x3), some (.inl x4), some (.inl y0), z6], [.inl 0, .inl 14, .inl x1, .inr (some a0)], M)) sm_a165_63 rfl rfl (st_iconst (by decide)) ?_
        exact ru_call (p := 67) sm_a165_64 rfl (sc_virt (Or.inl rfl) rfl rfl h_2 (Nat.le_of_ble_eq_true rfl)) rfl h
    · have h := h.2 hc_7
      exact ru_ret sm_a165_48 (sm_rvv rfl) h
theorem bb_165_67 {d : Nat} {M : sm_M} {Q : Option sm_V → sm_M → Prop} {a0 : Nat} {x1 : Int32} {x2 : Int32} {x3 : Int32} {x4 : Int32} {x5 : Int32} {z6 : Option sm_V}
    (h : Q none M) :
    sm_Run (d + 1) 165 67 [some (.inr (some a0)), some (.inl x1), some (.inl x2), some (.inl x3), some (.inl x4), some (.inl x5), z6] [] M Q := by
  refine ru_go (t := (218, [some (.inr (some a0)), some (.inl x1), some (.inl x2), some (.inl x3), some (.inl x4), some (.inl x5), z6], [], M)) sm_a165_67 rfl rfl (st_goto (pc := 67) (by decide)) ?_
  exact ru_ret sm_a165_218 (sm_rvv rfl) h
theorem bb_165_88 {d : Nat} {M : sm_M} {Q : Option sm_V → sm_M → Prop} {a0 : Nat} {x1 : Int32} {x2 : Int32} {x3 : Int32} {x4 : Int32} {x5 : Int32} {z6 : Option sm_V}
    (h : Q none M) :
    sm_Run (d + 1) 165 88 [some (.inr (some a0)), some (.inl x1), some (.inl x2), some (.inl x3), some (.inl x4), some (.inl x5), z6] [] M Q := by
  refine ru_go (t := (218, [some (.inr (some a0)), some (.inl x1), some (.inl x2), some (.inl x3), some (.inl x4), some (.inl x5), z6], [], M)) sm_a165_88 rfl rfl (st_goto (pc := 88) (by decide)) ?_
  exact ru_ret sm_a165_218 (sm_rvv rfl) h
theorem bb_165_127 {d : Nat} {M : sm_M} {Q : Option sm_V → sm_M → Prop} {a0 : Nat} {x1 : Int32} {x2 : Int32} {x3 : Int32} {x4 : Int32} {x5 : Int32} {z6 : Option sm_V}
    (h : Q none M) :
    sm_Run (d + 1) 165 127 [some (.inr (some a0)), some (.inl x1), some (.inl x2), some (.inl x3), some (.inl x4), some (.inl x5), z6] [] M Q := by
  refine ru_go (t := (218, [some (.inr (some a0)), some (.inl x1), some (.inl x2), some (.inl x3), some (.inl x4), some (.inl x5), z6], [], M)) sm_a165_127 rfl rfl (st_goto (pc := 127) (by decide)) ?_
  exact ru_ret sm_a165_218 (sm_rvv rfl) h
theorem bb_165_133 {d : Nat} {M : sm_M} {Q : Option sm_V → sm_M → Prop} {a0 : Nat} {x1 : Int32} {x2 : Int32} {x3 : Int32} {x4 : Int32} {x5 : Int32} {x6 : Int32}
    (h : ((x4 ≤ x6 → sm_K M a0 = 39 ∧ ∃ b_3, sm_R M a0 15 = some b_3 ∧ sm_iA M b_3 ∧ sm_in_ M b_3 x5 ∧ sm_wA 1 M b_3 ∧ ∃ b_8, sm_R (sm_putI M b_3 (x5).toNatClampNeg ((sm_I M b_3 (x5).toNatClampNeg) + x4)) a0 13 = some b_8 ∧ sm_iA M b_8 ∧ sm_in_ M b_8 x5 ∧ sm_wA 1 M b_8 ∧ sm_Run d 160 0 (sm_ent 160 [.inr (some a0), .inl x1, .inl 2, .inl 0]) [] (sm_putI (sm_putI M b_3 (x5).toNatClampNeg ((sm_I M b_3 (x5).toNatClampNeg) + x4)) b_8 (x5).toNatClampNeg (1 - (sm_I (sm_putI M b_3 (x5).toNatClampNeg ((sm_I M b_3 (x5).toNatClampNeg) + x4)) b_8 (x5).toNatClampNeg))) (fun v M1 => sm_Run (d + 1) 165 218 [some (.inr (some a0)), some (.inl x1), some (.inl x2), some (.inl x3), some (.inl x4), some (.inl x5), some (.inl x6)] (v.toList ++ []) M1 Q)) ∧ (¬ (x4 ≤ x6) → sm_K M a0 = 39 ∧ ∃ b_14, sm_R M a0 15 = some b_14 ∧ sm_iA M b_14 ∧ sm_in_ M b_14 x5 ∧ ∃ b_18, sm_R M a0 42 = some b_18 ∧ sm_iA M b_18 ∧ sm_in_ M b_18 ((100 * (sm_I M a0 50)) + x6) ∧ ∃ b_22, sm_R M a0 17 = some b_22 ∧ sm_wA 1 M b_22 ∧ sm_in_ M b_22 (((256 * x5) + (sm_I M b_14 (x5).toNatClampNeg)) + x6) ∧ sm_Run (d + 1) 165 133 [some (.inr (some a0)), some (.inl x1), some (.inl x2), some (.inl x3), some (.inl x4), some (.inl x5), some (.inl (x6 + 1))] [] (sm_putI M b_22 (((256 * x5) + (sm_I M b_14 (x5).toNatClampNeg)) + x6).toNatClampNeg (sm_I M b_18 ((100 * (sm_I M a0 50)) + x6).toNatClampNeg)) Q))) :
    sm_Run (d + 1) 165 133 [some (.inr (some a0)), some (.inl x1), some (.inl x2), some (.inl x3), some (.inl x4), some (.inl x5), some (.inl x6)] [] M Q := by
  refine ru_go (t := (135, [some (.inr (some a0)), some (.inl x1), some (.inl x2), some (.inl x3), some (.inl x4), some (.inl x5), some (.inl x6)], [.inl x6], M)) sm_a165_133 rfl rfl rfl ?_
  refine ru_go (t := (137, [some (.inr (some a0)), some (.inl x1), some (.inl x2), some (.inl x3), some (.inl x4), some (.inl x5), some (.inl x6)], [.inl x4, .inl x6], M)) sm_a165_135 rfl rfl rfl ?_
  refine ru_icmp (pc := 137) (p := 183) (p2 := 140) sm_a165_137 (by decide) rfl ⟨fun hc_1 => ?_, fun hc_1 => ?_⟩
  · have h := h.1 hc_1
    refine ru_go (t := (184, [some (.inr (some a0)), some (.inl x1), some (.inl x2), some (.inl x3), some (.inl x4), some (.inl x5), some (.inl x6)], [.inr (some a0)], M)) sm_a165_183 rfl rfl rfl ?_
    obtain ⟨h_2, h⟩ := h
    refine ru_go (t := (187, [some (.inr (some a0)), some (.inl x1), some (.inl x2), some (.inl x3), some (.inl x4), some (.inl x5), some (.inl x6)], [.inr (sm_R M a0 15)], M)) sm_a165_184 rfl rfl (st_getR h_2 rfl rfl) ?_
    refine ru_go (t := (189, [some (.inr (some a0)), some (.inl x1), some (.inl x2), some (.inl x3), some (.inl x4), some (.inl x5), some (.inl x6)], [.inl x5, .inr (sm_R M a0 15)], M)) sm_a165_187 rfl rfl rfl ?_
    refine ru_go (t := (190, [some (.inr (some a0)), some (.inl x1), some (.inl x2), some (.inl x3), some (.inl x4), some (.inl x5), some (.inl x6)], [.inl x5, .inr (sm_R M a0 15), .inl x5, .inr (sm_R M a0 15)], M)) sm_a165_189 rfl rfl rfl ?_
    obtain ⟨b_3, hb_4, h⟩ := h
    rw [hb_4]
    obtain ⟨h_5, h⟩ := h
    obtain ⟨h_6, h⟩ := h
    refine ru_go (t := (191, [some (.inr (some a0)), some (.inl x1), some (.inl x2), some (.inl x3), some (.inl x4), some (.inl x5), some (.inl x6)], [.inl (sm_I M b_3 (x5).toNatClampNeg), .inl x5, .inr (some b_3)], M)) sm_a165_190 rfl rfl (st_iald h_5 h_6) ?_
    refine ru_go (t := (193, [some (.inr (some a0)), some (.inl x1), some (.inl x2), some (.inl x3), some (.inl x4), some (.inl x5), some (.inl x6)], [.inl x4, .inl (sm_I M b_3 (x5).toNatClampNeg), .inl x5, .inr (some b_3)], M)) sm_a165_191 rfl rfl rfl ?_
    refine ru_go (t := (194, [some (.inr (some a0)), some (.inl x1), some (.inl x2), some (.inl x3), some (.inl x4), some (.inl x5), some (.inl x6)], [.inl ((sm_I M b_3 (x5).toNatClampNeg) + x4), .inl x5, .inr (some b_3)], M)) sm_a165_193 rfl rfl rfl ?_
    obtain ⟨h_7, h⟩ := h
    refine ru_go (t := (195, [some (.inr (some a0)), some (.inl x1), some (.inl x2), some (.inl x3), some (.inl x4), some (.inl x5), some (.inl x6)], [], sm_putI M b_3 (x5).toNatClampNeg ((sm_I M b_3 (x5).toNatClampNeg) + x4))) sm_a165_194 rfl rfl (st_iast h_7 h_6) ?_
    refine ru_go (t := (196, [some (.inr (some a0)), some (.inl x1), some (.inl x2), some (.inl x3), some (.inl x4), some (.inl x5), some (.inl x6)], [.inr (some a0)], sm_putI M b_3 (x5).toNatClampNeg ((sm_I M b_3 (x5).toNatClampNeg) + x4))) sm_a165_195 rfl rfl rfl ?_
    refine ru_go (t := (199, [some (.inr (some a0)), some (.inl x1), some (.inl x2), some (.inl x3), some (.inl x4), some (.inl x5), some (.inl x6)], [.inr (sm_R (sm_putI M b_3 (x5).toNatClampNeg ((sm_I M b_3 (x5).toNatClampNeg) + x4)) a0 13)], sm_putI M b_3 (x5).toNatClampNeg ((sm_I M b_3 (x5).toNatClampNeg) + x4))) sm_a165_196 rfl rfl (st_getR h_2 rfl rfl) ?_
    refine ru_go (t := (201, [some (.inr (some a0)), some (.inl x1), some (.inl x2), some (.inl x3), some (.inl x4), some (.inl x5), some (.inl x6)], [.inl x5, .inr (sm_R (sm_putI M b_3 (x5).toNatClampNeg ((sm_I M b_3 (x5).toNatClampNeg) + x4)) a0 13)], sm_putI M b_3 (x5).toNatClampNeg ((sm_I M b_3 (x5).toNatClampNeg) + x4))) sm_a165_199 rfl rfl rfl ?_
    refine ru_go (t := (202, [some (.inr (some a0)), some (.inl x1), some (.inl x2), some (.inl x3), some (.inl x4), some (.inl x5), some (.inl x6)], [.inl 1, .inl x5, .inr (sm_R (sm_putI M b_3 (x5).toNatClampNeg ((sm_I M b_3 (x5).toNatClampNeg) + x4)) a0 13)], sm_putI M b_3 (x5).toNatClampNeg ((sm_I M b_3 (x5).toNatClampNeg) + x4))) sm_a165_201 rfl rfl (st_iconst (by decide)) ?_
    refine ru_go (t := (203, [some (.inr (some a0)), some (.inl x1), some (.inl x2), some (.inl x3), some (.inl x4), some (.inl x5), some (.inl x6)], [.inr (some a0), .inl 1, .inl x5, .inr (sm_R (sm_putI M b_3 (x5).toNatClampNeg ((sm_I M b_3 (x5).toNatClampNeg) + x4)) a0 13)], sm_putI M b_3 (x5).toNatClampNeg ((sm_I M b_3 (x5).toNatClampNeg) + x4))) sm_a165_202 rfl rfl rfl ?_
    refine ru_go (t := (206, [some (.inr (some a0)), some (.inl x1), some (.inl x2), some (.inl x3), some (.inl x4), some (.inl x5), some (.inl x6)], [.inr (sm_R (sm_putI M b_3 (x5).toNatClampNeg ((sm_I M b_3 (x5).toNatClampNeg) + x4)) a0 13), .inl 1, .inl x5, .inr (sm_R (sm_putI M b_3 (x5).toNatClampNeg ((sm_I M b_3 (x5).toNatClampNeg) + x4)) a0 13)], sm_putI M b_3 (x5).toNatClampNeg ((sm_I M b_3 (x5).toNatClampNeg) + x4))) sm_a165_203 rfl rfl (st_getR h_2 rfl rfl) ?_
    refine ru_go (t := (208, [some (.inr (some a0)), some (.inl x1), some (.inl x2), some (.inl x3), some (.inl x4), some (.inl x5), some (.inl x6)], [.inl x5, .inr (sm_R (sm_putI M b_3 (x5).toNatClampNeg ((sm_I M b_3 (x5).toNatClampNeg) + x4)) a0 13), .inl 1, .inl x5, .inr (sm_R (sm_putI M b_3 (x5).toNatClampNeg ((sm_I M b_3 (x5).toNatClampNeg) + x4)) a0 13)], sm_putI M b_3 (x5).toNatClampNeg ((sm_I M b_3 (x5).toNatClampNeg) + x4))) sm_a165_206 rfl rfl rfl ?_
    obtain ⟨b_8, hb_9, h⟩ := h
    rw [hb_9]
    obtain ⟨h_10, h⟩ := h
    obtain ⟨h_11, h⟩ := h
    refine ru_go (t := (209, [some (.inr (some a0)), some (.inl x1), some (.inl x2), some (.inl x3), some (.inl x4), some (.inl x5), some (.inl x6)], [.inl (sm_I (sm_putI M b_3 (x5).toNatClampNeg ((sm_I M b_3 (x5).toNatClampNeg) + x4)) b_8 (x5).toNatClampNeg), .inl 1, .inl x5, .inr (some b_8)], sm_putI M b_3 (x5).toNatClampNeg ((sm_I M b_3 (x5).toNatClampNeg) + x4))) sm_a165_208 rfl rfl (st_iald h_10 h_11) ?_
    refine ru_go (t := (210, [some (.inr (some a0)), some (.inl x1), some (.inl x2), some (.inl x3), some (.inl x4), some (.inl x5), some (.inl x6)], [.inl (1 - (sm_I (sm_putI M b_3 (x5).toNatClampNeg ((sm_I M b_3 (x5).toNatClampNeg) + x4)) b_8 (x5).toNatClampNeg)), .inl x5, .inr (some b_8)], sm_putI M b_3 (x5).toNatClampNeg ((sm_I M b_3 (x5).toNatClampNeg) + x4))) sm_a165_209 rfl rfl rfl ?_
    obtain ⟨h_12, h⟩ := h
    refine ru_go (t := (211, [some (.inr (some a0)), some (.inl x1), some (.inl x2), some (.inl x3), some (.inl x4), some (.inl x5), some (.inl x6)], [], sm_putI (sm_putI M b_3 (x5).toNatClampNeg ((sm_I M b_3 (x5).toNatClampNeg) + x4)) b_8 (x5).toNatClampNeg (1 - (sm_I (sm_putI M b_3 (x5).toNatClampNeg ((sm_I M b_3 (x5).toNatClampNeg) + x4)) b_8 (x5).toNatClampNeg)))) sm_a165_210 rfl rfl (st_iast h_12 h_11) ?_
    refine ru_go (t := (212, [some (.inr (some a0)), some (.inl x1), some (.inl x2), some (.inl x3), some (.inl x4), some (.inl x5), some (.inl x6)], [.inr (some a0)], sm_putI (sm_putI M b_3 (x5).toNatClampNeg ((sm_I M b_3 (x5).toNatClampNeg) + x4)) b_8 (x5).toNatClampNeg (1 - (sm_I (sm_putI M b_3 (x5).toNatClampNeg ((sm_I M b_3 (x5).toNatClampNeg) + x4)) b_8 (x5).toNatClampNeg)))) sm_a165_211 rfl rfl rfl ?_
    refine ru_go (t := (213, [some (.inr (some a0)), some (.inl x1), some (.inl x2), some (.inl x3), some (.inl x4), some (.inl x5), some (.inl x6)], [.inl x1, .inr (some a0)], sm_putI (sm_putI M b_3 (x5).toNatClampNeg ((sm_I M b_3 (x5).toNatClampNeg) + x4)) b_8 (x5).toNatClampNeg (1 - (sm_I (sm_putI M b_3 (x5).toNatClampNeg ((sm_I M b_3 (x5).toNatClampNeg) + x4)) b_8 (x5).toNatClampNeg)))) sm_a165_212 rfl rfl rfl ?_
    refine ru_go (t := (214, [some (.inr (some a0)), some (.inl x1), some (.inl x2), some (.inl x3), some (.inl x4), some (.inl x5), some (.inl x6)], [.inl 2, .inl x1, .inr (some a0)], sm_putI (sm_putI M b_3 (x5).toNatClampNeg ((sm_I M b_3 (x5).toNatClampNeg) + x4)) b_8 (x5).toNatClampNeg (1 - (sm_I (sm_putI M b_3 (x5).toNatClampNeg ((sm_I M b_3 (x5).toNatClampNeg) + x4)) b_8 (x5).toNatClampNeg)))) sm_a165_213 rfl rfl (st_iconst (by decide)) ?_
    refine ru_go (t := (215, [some (.inr (some a0)), some (.inl x1), some (.inl x2), some (.inl x3), some (.inl x4), some (.inl x5), some (.inl x6)], [.inl 0, .inl 2, .inl x1, .inr (some a0)], sm_putI (sm_putI M b_3 (x5).toNatClampNeg ((sm_I M b_3 (x5).toNatClampNeg) + x4)) b_8 (x5).toNatClampNeg (1 - (sm_I (sm_putI M b_3 (x5).toNatClampNeg ((sm_I M b_3 (x5).toNatClampNeg) + x4)) b_8 (x5).toNatClampNeg)))) sm_a165_214 rfl rfl (st_iconst (by decide)) ?_
    exact ru_call (p := 218) sm_a165_215 rfl (sc_virt (Or.inl rfl) rfl rfl h_2 (Nat.le_of_ble_eq_true rfl)) rfl h
  · have h := h.2 hc_1
    refine ru_go (t := (141, [some (.inr (some a0)), some (.inl x1), some (.inl x2), some (.inl x3), some (.inl x4), some (.inl x5), some (.inl x6)], [.inr (some a0)], M)) sm_a165_140 rfl rfl rfl ?_
    obtain ⟨h_13, h⟩ := h
    refine ru_go (t := (144, [some (.inr (some a0)), some (.inl x1), some (.inl x2), some (.inl x3), some (.inl x4), some (.inl x5), some (.inl x6)], [.inr (sm_R M a0 17)], M)) sm_a165_141 rfl rfl (st_getR h_13 rfl rfl) ?_
    refine ru_go (t := (147, [some (.inr (some a0)), some (.inl x1), some (.inl x2), some (.inl x3), some (.inl x4), some (.inl x5), some (.inl x6)], [.inl 256, .inr (sm_R M a0 17)], M)) sm_a165_144 rfl rfl (st_sipush (by decide)) ?_
    refine ru_go (t := (149, [some (.inr (some a0)), some (.inl x1), some (.inl x2), some (.inl x3), some (.inl x4), some (.inl x5), some (.inl x6)], [.inl x5, .inl 256, .inr (sm_R M a0 17)], M)) sm_a165_147 rfl rfl rfl ?_
    refine ru_go (t := (150, [some (.inr (some a0)), some (.inl x1), some (.inl x2), some (.inl x3), some (.inl x4), some (.inl x5), some (.inl x6)], [.inl (256 * x5), .inr (sm_R M a0 17)], M)) sm_a165_149 rfl rfl rfl ?_
    refine ru_go (t := (151, [some (.inr (some a0)), some (.inl x1), some (.inl x2), some (.inl x3), some (.inl x4), some (.inl x5), some (.inl x6)], [.inr (some a0), .inl (256 * x5), .inr (sm_R M a0 17)], M)) sm_a165_150 rfl rfl rfl ?_
    refine ru_go (t := (154, [some (.inr (some a0)), some (.inl x1), some (.inl x2), some (.inl x3), some (.inl x4), some (.inl x5), some (.inl x6)], [.inr (sm_R M a0 15), .inl (256 * x5), .inr (sm_R M a0 17)], M)) sm_a165_151 rfl rfl (st_getR h_13 rfl rfl) ?_
    refine ru_go (t := (156, [some (.inr (some a0)), some (.inl x1), some (.inl x2), some (.inl x3), some (.inl x4), some (.inl x5), some (.inl x6)], [.inl x5, .inr (sm_R M a0 15), .inl (256 * x5), .inr (sm_R M a0 17)], M)) sm_a165_154 rfl rfl rfl ?_
    obtain ⟨b_14, hb_15, h⟩ := h
    rw [hb_15]
    obtain ⟨h_16, h⟩ := h
    obtain ⟨h_17, h⟩ := h
    refine ru_go (t := (157, [some (.inr (some a0)), some (.inl x1), some (.inl x2), some (.inl x3), some (.inl x4), some (.inl x5), some (.inl x6)], [.inl (sm_I M b_14 (x5).toNatClampNeg), .inl (256 * x5), .inr (sm_R M a0 17)], M)) sm_a165_156 rfl rfl (st_iald h_16 h_17) ?_
    refine ru_go (t := (158, [some (.inr (some a0)), some (.inl x1), some (.inl x2), some (.inl x3), some (.inl x4), some (.inl x5), some (.inl x6)], [.inl ((256 * x5) + (sm_I M b_14 (x5).toNatClampNeg)), .inr (sm_R M a0 17)], M)) sm_a165_157 rfl rfl rfl ?_
    refine ru_go (t := (160, [some (.inr (some a0)), some (.inl x1), some (.inl x2), some (.inl x3), some (.inl x4), some (.inl x5), some (.inl x6)], [.inl x6, .inl ((256 * x5) + (sm_I M b_14 (x5).toNatClampNeg)), .inr (sm_R M a0 17)], M)) sm_a165_158 rfl rfl rfl ?_
    refine ru_go (t := (161, [some (.inr (some a0)), some (.inl x1), some (.inl x2), some (.inl x3), some (.inl x4), some (.inl x5), some (.inl x6)], [.inl (((256 * x5) + (sm_I M b_14 (x5).toNatClampNeg)) + x6), .inr (sm_R M a0 17)], M)) sm_a165_160 rfl rfl rfl ?_
    refine ru_go (t := (162, [some (.inr (some a0)), some (.inl x1), some (.inl x2), some (.inl x3), some (.inl x4), some (.inl x5), some (.inl x6)], [.inr (some a0), .inl (((256 * x5) + (sm_I M b_14 (x5).toNatClampNeg)) + x6), .inr (sm_R M a0 17)], M)) sm_a165_161 rfl rfl rfl ?_
    refine ru_go (t := (165, [some (.inr (some a0)), some (.inl x1), some (.inl x2), some (.inl x3), some (.inl x4), some (.inl x5), some (.inl x6)], [.inr (sm_R M a0 42), .inl (((256 * x5) + (sm_I M b_14 (x5).toNatClampNeg)) + x6), .inr (sm_R M a0 17)], M)) sm_a165_162 rfl rfl (st_getR h_13 rfl rfl) ?_
    refine ru_go (t := (167, [some (.inr (some a0)), some (.inl x1), some (.inl x2), some (.inl x3), some (.inl x4), some (.inl x5), some (.inl x6)], [.inl 100, .inr (sm_R M a0 42), .inl (((256 * x5) + (sm_I M b_14 (x5).toNatClampNeg)) + x6), .inr (sm_R M a0 17)], M)) sm_a165_165 rfl rfl (st_bipush (by decide)) ?_
    refine ru_go (t := (168, [some (.inr (some a0)), some (.inl x1), some (.inl x2), some (.inl x3), some (.inl x4), some (.inl x5), some (.inl x6)], [.inr (some a0), .inl 100, .inr (sm_R M a0 42), .inl (((256 * x5) + (sm_I M b_14 (x5).toNatClampNeg)) + x6), .inr (sm_R M a0 17)], M)) sm_a165_167 rfl rfl rfl ?_
    refine ru_go (t := (171, [some (.inr (some a0)), some (.inl x1), some (.inl x2), some (.inl x3), some (.inl x4), some (.inl x5), some (.inl x6)], [.inl (sm_I M a0 50), .inl 100, .inr (sm_R M a0 42), .inl (((256 * x5) + (sm_I M b_14 (x5).toNatClampNeg)) + x6), .inr (sm_R M a0 17)], M)) sm_a165_168 rfl rfl (st_getI h_13 rfl) ?_
    refine ru_go (t := (172, [some (.inr (some a0)), some (.inl x1), some (.inl x2), some (.inl x3), some (.inl x4), some (.inl x5), some (.inl x6)], [.inl (100 * (sm_I M a0 50)), .inr (sm_R M a0 42), .inl (((256 * x5) + (sm_I M b_14 (x5).toNatClampNeg)) + x6), .inr (sm_R M a0 17)], M)) sm_a165_171 rfl rfl rfl ?_
    refine ru_go (t := (174, [some (.inr (some a0)), some (.inl x1), some (.inl x2), some (.inl x3), some (.inl x4), some (.inl x5), some (.inl x6)], [.inl x6, .inl (100 * (sm_I M a0 50)), .inr (sm_R M a0 42), .inl (((256 * x5) + (sm_I M b_14 (x5).toNatClampNeg)) + x6), .inr (sm_R M a0 17)], M)) sm_a165_172 rfl rfl rfl ?_
    refine ru_go (t := (175, [some (.inr (some a0)), some (.inl x1), some (.inl x2), some (.inl x3), some (.inl x4), some (.inl x5), some (.inl x6)], [.inl ((100 * (sm_I M a0 50)) + x6), .inr (sm_R M a0 42), .inl (((256 * x5) + (sm_I M b_14 (x5).toNatClampNeg)) + x6), .inr (sm_R M a0 17)], M)) sm_a165_174 rfl rfl rfl ?_
    obtain ⟨b_18, hb_19, h⟩ := h
    rw [hb_19]
    obtain ⟨h_20, h⟩ := h
    obtain ⟨h_21, h⟩ := h
    refine ru_go (t := (176, [some (.inr (some a0)), some (.inl x1), some (.inl x2), some (.inl x3), some (.inl x4), some (.inl x5), some (.inl x6)], [.inl (sm_I M b_18 ((100 * (sm_I M a0 50)) + x6).toNatClampNeg), .inl (((256 * x5) + (sm_I M b_14 (x5).toNatClampNeg)) + x6), .inr (sm_R M a0 17)], M)) sm_a165_175 rfl rfl (st_iald h_20 h_21) ?_
    obtain ⟨b_22, hb_23, h⟩ := h
    rw [hb_23]
    obtain ⟨h_24, h⟩ := h
    obtain ⟨h_25, h⟩ := h
    refine ru_go (t := (177, [some (.inr (some a0)), some (.inl x1), some (.inl x2), some (.inl x3), some (.inl x4), some (.inl x5), some (.inl x6)], [], sm_putI M b_22 (((256 * x5) + (sm_I M b_14 (x5).toNatClampNeg)) + x6).toNatClampNeg (sm_I M b_18 ((100 * (sm_I M a0 50)) + x6).toNatClampNeg))) sm_a165_176 rfl rfl (st_iast h_24 h_25) ?_
    refine ru_go (t := (180, [some (.inr (some a0)), some (.inl x1), some (.inl x2), some (.inl x3), some (.inl x4), some (.inl x5), some (.inl (x6 + 1))], [], sm_putI M b_22 (((256 * x5) + (sm_I M b_14 (x5).toNatClampNeg)) + x6).toNatClampNeg (sm_I M b_18 ((100 * (sm_I M a0 50)) + x6).toNatClampNeg))) sm_a165_177 rfl rfl (st_iinc rfl (by decide)) ?_
    refine ru_go (t := (133, [some (.inr (some a0)), some (.inl x1), some (.inl x2), some (.inl x3), some (.inl x4), some (.inl x5), some (.inl (x6 + 1))], [], sm_putI M b_22 (((256 * x5) + (sm_I M b_14 (x5).toNatClampNeg)) + x6).toNatClampNeg (sm_I M b_18 ((100 * (sm_I M a0 50)) + x6).toNatClampNeg))) sm_a165_180 rfl rfl (st_goto (pc := 180) (by decide)) ?_
    exact h
theorem bb_165_218 {d : Nat} {M : sm_M} {Q : Option sm_V → sm_M → Prop} {a0 : Nat} {x1 : Int32} {x2 : Int32} {x3 : Int32} {x4 : Int32} {x5 : Int32} {z6 : Option sm_V}
    (h : Q none M) :
    sm_Run (d + 1) 165 218 [some (.inr (some a0)), some (.inl x1), some (.inl x2), some (.inl x3), some (.inl x4), some (.inl x5), z6] [] M Q := by
  exact ru_ret sm_a165_218 (sm_rvv rfl) h

/-! WireBusModel.refuse:(I)V -/
theorem sm_a166_0 : sm_at 166 0 = some (.aload_n 0, 1, (0, 0, 0, 0)) := by decide +kernel
theorem sm_a166_1 : sm_at 166 1 = some (.getfield 68, 3, (12, 21, 0, 1204)) := by decide +kernel
theorem sm_a166_4 : sm_at 166 4 = some (.iload_n 1, 1, (0, 0, 0, 0)) := by decide +kernel
theorem sm_a166_5 : sm_at 166 5 = some (.iconst 1, 1, (0, 0, 0, 0)) := by decide +kernel
theorem sm_a166_6 : sm_at 166 6 = some (.iastore, 1, (1, 0, 0, 0)) := by decide +kernel
theorem sm_a166_7 : sm_at 166 7 = some (.aload_n 0, 1, (0, 0, 0, 0)) := by decide +kernel
theorem sm_a166_8 : sm_at 166 8 = some (.iload_n 1, 1, (0, 0, 0, 0)) := by decide +kernel
theorem sm_a166_9 : sm_at 166 9 = some (.bipush 14, 2, (0, 0, 0, 0)) := by decide +kernel
theorem sm_a166_11 : sm_at 166 11 = some (.iconst 0, 1, (0, 0, 0, 0)) := by decide +kernel
theorem sm_a166_12 : sm_at 166 12 = some (.invokevirtual 284, 3, (10, 160, 12, 1556)) := by decide +kernel
theorem sm_a166_15 : sm_at 166 15 = some (.return_, 1, (0, 0, 0, 0)) := by decide +kernel
theorem bb_166_0 {d : Nat} {M : sm_M} {Q : Option sm_V → sm_M → Prop} {a0 : Nat} {x1 : Int32}
    (h : sm_K M a0 = 39 ∧ ∃ b_2, sm_R M a0 21 = some b_2 ∧ sm_wA 1 M b_2 ∧ sm_in_ M b_2 x1 ∧ sm_Run d 160 0 (sm_ent 160 [.inr (some a0), .inl x1, .inl 14, .inl 0]) [] (sm_putI M b_2 (x1).toNatClampNeg 1) (fun v M1 => sm_Run (d + 1) 166 15 [some (.inr (some a0)), some (.inl x1)] (v.toList ++ []) M1 Q)) :
    sm_Run (d + 1) 166 0 [some (.inr (some a0)), some (.inl x1)] [] M Q := by
  refine ru_go (t := (1, [some (.inr (some a0)), some (.inl x1)], [.inr (some a0)], M)) sm_a166_0 rfl rfl rfl ?_
  obtain ⟨h_1, h⟩ := h
  refine ru_go (t := (4, [some (.inr (some a0)), some (.inl x1)], [.inr (sm_R M a0 21)], M)) sm_a166_1 rfl rfl (st_getR h_1 rfl rfl) ?_
  refine ru_go (t := (5, [some (.inr (some a0)), some (.inl x1)], [.inl x1, .inr (sm_R M a0 21)], M)) sm_a166_4 rfl rfl rfl ?_
  refine ru_go (t := (6, [some (.inr (some a0)), some (.inl x1)], [.inl 1, .inl x1, .inr (sm_R M a0 21)], M)) sm_a166_5 rfl rfl (st_iconst (by decide)) ?_
  obtain ⟨b_2, hb_3, h⟩ := h
  rw [hb_3]
  obtain ⟨h_4, h⟩ := h
  obtain ⟨h_5, h⟩ := h
  refine ru_go (t := (7, [some (.inr (some a0)), some (.inl x1)], [], sm_putI M b_2 (x1).toNatClampNeg 1)) sm_a166_6 rfl rfl (st_iast h_4 h_5) ?_
  refine ru_go (t := (8, [some (.inr (some a0)), some (.inl x1)], [.inr (some a0)], sm_putI M b_2 (x1).toNatClampNeg 1)) sm_a166_7 rfl rfl rfl ?_
  refine ru_go (t := (9, [some (.inr (some a0)), some (.inl x1)], [.inl x1, .inr (some a0)], sm_putI M b_2 (x1).toNatClampNeg 1)) sm_a166_8 rfl rfl rfl ?_
  refine ru_go (t := (11, [some (.inr (some a0)), some (.inl x1)], [.inl 14, .inl x1, .inr (some a0)], sm_putI M b_2 (x1).toNatClampNeg 1)) sm_a166_9 rfl rfl (st_bipush (by decide)) ?_
  refine ru_go (t := (12, [some (.inr (some a0)), some (.inl x1)], [.inl 0, .inl 14, .inl x1, .inr (some a0)], sm_putI M b_2 (x1).toNatClampNeg 1)) sm_a166_11 rfl rfl (st_iconst (by decide)) ?_
  exact ru_call (p := 15) sm_a166_12 rfl (sc_virt (Or.inl rfl) rfl rfl h_1 (Nat.le_of_ble_eq_true rfl)) rfl h
theorem bb_166_15 {d : Nat} {M : sm_M} {Q : Option sm_V → sm_M → Prop} {a0 : Nat} {x1 : Int32}
    (h : Q none M) :
    sm_Run (d + 1) 166 15 [some (.inr (some a0)), some (.inl x1)] [] M Q := by
  exact ru_ret sm_a166_15 (sm_rvv rfl) h

/-! WireBusModel.givenAtZero:(III)V -/
theorem sm_a167_0 : sm_at 167 0 = some (.aload_n 0, 1, (0, 0, 0, 0)) := by decide +kernel
theorem sm_a167_1 : sm_at 167 1 = some (.getfield 68, 3, (12, 21, 0, 1204)) := by decide +kernel
theorem sm_a167_4 : sm_at 167 4 = some (.iload_n 1, 1, (0, 0, 0, 0)) := by decide +kernel
theorem sm_a167_5 : sm_at 167 5 = some (.iaload, 1, (0, 0, 0, 0)) := by decide +kernel
theorem sm_a167_6 : sm_at 167 6 = some (.istore 4, 2, (0, 0, 0, 0)) := by decide +kernel
theorem sm_a167_8 : sm_at 167 8 = some (.iload 4, 2, (0, 0, 0, 0)) := by decide +kernel
theorem sm_a167_10 : sm_at 167 10 = some (.iconst 1, 1, (0, 0, 0, 0)) := by decide +kernel
theorem sm_a167_11 : sm_at 167 11 = some (.if_icmp .ne 14, 3, (0, 0, 0, 0)) := by decide +kernel
theorem sm_a167_14 : sm_at 167 14 = some (.aload_n 0, 1, (0, 0, 0, 0)) := by decide +kernel
theorem sm_a167_15 : sm_at 167 15 = some (.iload_n 1, 1, (0, 0, 0, 0)) := by decide +kernel
theorem sm_a167_16 : sm_at 167 16 = some (.bipush 14, 2, (0, 0, 0, 0)) := by decide +kernel
theorem sm_a167_18 : sm_at 167 18 = some (.iconst 0, 1, (0, 0, 0, 0)) := by decide +kernel
theorem sm_a167_19 : sm_at 167 19 = some (.invokevirtual 284, 3, (10, 160, 12, 1556)) := by decide +kernel
theorem sm_a167_22 : sm_at 167 22 = some (.goto 306, 3, (0, 0, 0, 0)) := by decide +kernel
theorem sm_a167_25 : sm_at 167 25 = some (.iload 4, 2, (0, 0, 0, 0)) := by decide +kernel
theorem sm_a167_27 : sm_at 167 27 = some (.ifCond .ne 14, 3, (0, 0, 0, 0)) := by decide +kernel
theorem sm_a167_30 : sm_at 167 30 = some (.aload_n 0, 1, (0, 0, 0, 0)) := by decide +kernel
theorem sm_a167_31 : sm_at 167 31 = some (.iload_n 1, 1, (0, 0, 0, 0)) := by decide +kernel
theorem sm_a167_32 : sm_at 167 32 = some (.bipush 10, 2, (0, 0, 0, 0)) := by decide +kernel
theorem sm_a167_34 : sm_at 167 34 = some (.iconst 0, 1, (0, 0, 0, 0)) := by decide +kernel
theorem sm_a167_35 : sm_at 167 35 = some (.invokevirtual 284, 3, (10, 160, 12, 1556)) := by decide +kernel
theorem sm_a167_38 : sm_at 167 38 = some (.goto 290, 3, (0, 0, 0, 0)) := by decide +kernel
theorem sm_a167_41 : sm_at 167 41 = some (.iload 4, 2, (0, 0, 0, 0)) := by decide +kernel
theorem sm_a167_43 : sm_at 167 43 = some (.iconst 3, 1, (0, 0, 0, 0)) := by decide +kernel
theorem sm_a167_44 : sm_at 167 44 = some (.if_icmp .ne 204, 3, (0, 0, 0, 0)) := by decide +kernel
theorem sm_a167_47 : sm_at 167 47 = some (.iload_n 2, 1, (0, 0, 0, 0)) := by decide +kernel
theorem sm_a167_48 : sm_at 167 48 = some (.aload_n 0, 1, (0, 0, 0, 0)) := by decide +kernel
theorem sm_a167_49 : sm_at 167 49 = some (.getfield 74, 3, (12, 23, 0, 1206)) := by decide +kernel
theorem sm_a167_52 : sm_at 167 52 = some (.iload_n 1, 1, (0, 0, 0, 0)) := by decide +kernel
theorem sm_a167_53 : sm_at 167 53 = some (.iaload, 1, (0, 0, 0, 0)) := by decide +kernel
theorem sm_a167_54 : sm_at 167 54 = some (.if_icmp .eq 13, 3, (0, 0, 0, 0)) := by decide +kernel
theorem sm_a167_57 : sm_at 167 57 = some (.aload_n 0, 1, (0, 0, 0, 0)) := by decide +kernel
theorem sm_a167_58 : sm_at 167 58 = some (.iload_n 1, 1, (0, 0, 0, 0)) := by decide +kernel
theorem sm_a167_59 : sm_at 167 59 = some (.iconst 2, 1, (0, 0, 0, 0)) := by decide +kernel
theorem sm_a167_60 : sm_at 167 60 = some (.iconst 0, 1, (0, 0, 0, 0)) := by decide +kernel
theorem sm_a167_61 : sm_at 167 61 = some (.invokevirtual 284, 3, (10, 160, 12, 1556)) := by decide +kernel
theorem sm_a167_64 : sm_at 167 64 = some (.goto 264, 3, (0, 0, 0, 0)) := by decide +kernel
theorem sm_a167_67 : sm_at 167 67 = some (.iload_n 3, 1, (0, 0, 0, 0)) := by decide +kernel
theorem sm_a167_68 : sm_at 167 68 = some (.aload_n 0, 1, (0, 0, 0, 0)) := by decide +kernel
theorem sm_a167_69 : sm_at 167 69 = some (.getfield 77, 3, (12, 24, 0, 1207)) := by decide +kernel
theorem sm_a167_72 : sm_at 167 72 = some (.iload_n 1, 1, (0, 0, 0, 0)) := by decide +kernel
theorem sm_a167_73 : sm_at 167 73 = some (.iaload, 1, (0, 0, 0, 0)) := by decide +kernel
theorem sm_a167_74 : sm_at 167 74 = some (.aload_n 0, 1, (0, 0, 0, 0)) := by decide +kernel
theorem sm_a167_75 : sm_at 167 75 = some (.getfield 83, 3, (12, 26, 0, 1209)) := by decide +kernel
theorem sm_a167_78 : sm_at 167 78 = some (.iload_n 1, 1, (0, 0, 0, 0)) := by decide +kernel
theorem sm_a167_79 : sm_at 167 79 = some (.iaload, 1, (0, 0, 0, 0)) := by decide +kernel
theorem sm_a167_80 : sm_at 167 80 = some (.isub, 1, (0, 0, 0, 0)) := by decide +kernel
theorem sm_a167_81 : sm_at 167 81 = some (.if_icmp .le 11, 3, (0, 0, 0, 0)) := by decide +kernel
theorem sm_a167_84 : sm_at 167 84 = some (.aload_n 0, 1, (0, 0, 0, 0)) := by decide +kernel
theorem sm_a167_85 : sm_at 167 85 = some (.iload_n 1, 1, (0, 0, 0, 0)) := by decide +kernel
theorem sm_a167_86 : sm_at 167 86 = some (.invokevirtual 303, 3, (10, 166, 12, 1600)) := by decide +kernel
theorem sm_a167_89 : sm_at 167 89 = some (.goto 239, 3, (0, 0, 0, 0)) := by decide +kernel
theorem sm_a167_92 : sm_at 167 92 = some (.iconst 0, 1, (0, 0, 0, 0)) := by decide +kernel
theorem sm_a167_93 : sm_at 167 93 = some (.istore 5, 2, (0, 0, 0, 0)) := by decide +kernel
theorem sm_a167_95 : sm_at 167 95 = some (.iload 5, 2, (0, 0, 0, 0)) := by decide +kernel
theorem sm_a167_97 : sm_at 167 97 = some (.iload_n 3, 1, (0, 0, 0, 0)) := by decide +kernel
theorem sm_a167_98 : sm_at 167 98 = some (.if_icmp .ge 43, 3, (0, 0, 0, 0)) := by decide +kernel
theorem sm_a167_101 : sm_at 167 101 = some (.aload_n 0, 1, (0, 0, 0, 0)) := by decide +kernel
theorem sm_a167_102 : sm_at 167 102 = some (.getfield 92, 3, (12, 29, 0, 1212)) := by decide +kernel
theorem sm_a167_105 : sm_at 167 105 = some (.bipush 100, 2, (0, 0, 0, 0)) := by decide +kernel
theorem sm_a167_107 : sm_at 167 107 = some (.iload_n 1, 1, (0, 0, 0, 0)) := by decide +kernel
theorem sm_a167_108 : sm_at 167 108 = some (.imul, 1, (0, 0, 0, 0)) := by decide +kernel
theorem sm_a167_109 : sm_at 167 109 = some (.aload_n 0, 1, (0, 0, 0, 0)) := by decide +kernel
theorem sm_a167_110 : sm_at 167 110 = some (.getfield 83, 3, (12, 26, 0, 1209)) := by decide +kernel
theorem sm_a167_113 : sm_at 167 113 = some (.iload_n 1, 1, (0, 0, 0, 0)) := by decide +kernel
theorem sm_a167_114 : sm_at 167 114 = some (.iaload, 1, (0, 0, 0, 0)) := by decide +kernel
theorem sm_a167_115 : sm_at 167 115 = some (.iadd, 1, (0, 0, 0, 0)) := by decide +kernel
theorem sm_a167_116 : sm_at 167 116 = some (.iload 5, 2, (0, 0, 0, 0)) := by decide +kernel
theorem sm_a167_118 : sm_at 167 118 = some (.iadd, 1, (0, 0, 0, 0)) := by decide +kernel
theorem sm_a167_119 : sm_at 167 119 = some (.aload_n 0, 1, (0, 0, 0, 0)) := by decide +kernel
theorem sm_a167_120 : sm_at 167 120 = some (.getfield 125, 3, (12, 42, 0, 1225)) := by decide +kernel
theorem sm_a167_123 : sm_at 167 123 = some (.bipush 100, 2, (0, 0, 0, 0)) := by decide +kernel
theorem sm_a167_125 : sm_at 167 125 = some (.aload_n 0, 1, (0, 0, 0, 0)) := by decide +kernel
theorem sm_a167_126 : sm_at 167 126 = some (.getfield 266, 3, (12, 50, 0, 1233)) := by decide +kernel
theorem sm_a167_129 : sm_at 167 129 = some (.imul, 1, (0, 0, 0, 0)) := by decide +kernel
theorem sm_a167_130 : sm_at 167 130 = some (.iload 5, 2, (0, 0, 0, 0)) := by decide +kernel
theorem sm_a167_132 : sm_at 167 132 = some (.iadd, 1, (0, 0, 0, 0)) := by decide +kernel
theorem sm_a167_133 : sm_at 167 133 = some (.iaload, 1, (0, 0, 0, 0)) := by decide +kernel
theorem sm_a167_134 : sm_at 167 134 = some (.iastore, 1, (1, 0, 0, 0)) := by decide +kernel
theorem sm_a167_135 : sm_at 167 135 = some (.iinc 5 1, 3, (0, 0, 0, 0)) := by decide +kernel
theorem sm_a167_138 : sm_at 167 138 = some (.goto (-43), 3, (0, 0, 0, 0)) := by decide +kernel
theorem sm_a167_141 : sm_at 167 141 = some (.aload_n 0, 1, (0, 0, 0, 0)) := by decide +kernel
theorem sm_a167_142 : sm_at 167 142 = some (.getfield 83, 3, (12, 26, 0, 1209)) := by decide +kernel
theorem sm_a167_145 : sm_at 167 145 = some (.iload_n 1, 1, (0, 0, 0, 0)) := by decide +kernel
theorem sm_a167_146 : sm_at 167 146 = some (.dup2, 1, (0, 0, 0, 0)) := by decide +kernel
theorem sm_a167_147 : sm_at 167 147 = some (.iaload, 1, (0, 0, 0, 0)) := by decide +kernel
theorem sm_a167_148 : sm_at 167 148 = some (.iload_n 3, 1, (0, 0, 0, 0)) := by decide +kernel
theorem sm_a167_149 : sm_at 167 149 = some (.iadd, 1, (0, 0, 0, 0)) := by decide +kernel
theorem sm_a167_150 : sm_at 167 150 = some (.iastore, 1, (1, 0, 0, 0)) := by decide +kernel
theorem sm_a167_151 : sm_at 167 151 = some (.aload_n 0, 1, (0, 0, 0, 0)) := by decide +kernel
theorem sm_a167_152 : sm_at 167 152 = some (.getfield 74, 3, (12, 23, 0, 1206)) := by decide +kernel
theorem sm_a167_155 : sm_at 167 155 = some (.iload_n 1, 1, (0, 0, 0, 0)) := by decide +kernel
theorem sm_a167_156 : sm_at 167 156 = some (.iconst 1, 1, (0, 0, 0, 0)) := by decide +kernel
theorem sm_a167_157 : sm_at 167 157 = some (.aload_n 0, 1, (0, 0, 0, 0)) := by decide +kernel
theorem sm_a167_158 : sm_at 167 158 = some (.getfield 74, 3, (12, 23, 0, 1206)) := by decide +kernel
theorem sm_a167_161 : sm_at 167 161 = some (.iload_n 1, 1, (0, 0, 0, 0)) := by decide +kernel
theorem sm_a167_162 : sm_at 167 162 = some (.iaload, 1, (0, 0, 0, 0)) := by decide +kernel
theorem sm_a167_163 : sm_at 167 163 = some (.isub, 1, (0, 0, 0, 0)) := by decide +kernel
theorem sm_a167_164 : sm_at 167 164 = some (.iastore, 1, (1, 0, 0, 0)) := by decide +kernel
theorem sm_a167_165 : sm_at 167 165 = some (.aload_n 0, 1, (0, 0, 0, 0)) := by decide +kernel
theorem sm_a167_166 : sm_at 167 166 = some (.iload_n 1, 1, (0, 0, 0, 0)) := by decide +kernel
theorem sm_a167_167 : sm_at 167 167 = some (.iconst 2, 1, (0, 0, 0, 0)) := by decide +kernel
theorem sm_a167_168 : sm_at 167 168 = some (.iconst 0, 1, (0, 0, 0, 0)) := by decide +kernel
theorem sm_a167_169 : sm_at 167 169 = some (.invokevirtual 284, 3, (10, 160, 12, 1556)) := by decide +kernel
theorem sm_a167_172 : sm_at 167 172 = some (.aload_n 0, 1, (0, 0, 0, 0)) := by decide +kernel
theorem sm_a167_173 : sm_at 167 173 = some (.getfield 83, 3, (12, 26, 0, 1209)) := by decide +kernel
theorem sm_a167_176 : sm_at 167 176 = some (.iload_n 1, 1, (0, 0, 0, 0)) := by decide +kernel
theorem sm_a167_177 : sm_at 167 177 = some (.iaload, 1, (0, 0, 0, 0)) := by decide +kernel
theorem sm_a167_178 : sm_at 167 178 = some (.aload_n 0, 1, (0, 0, 0, 0)) := by decide +kernel
theorem sm_a167_179 : sm_at 167 179 = some (.getfield 77, 3, (12, 24, 0, 1207)) := by decide +kernel
theorem sm_a167_182 : sm_at 167 182 = some (.iload_n 1, 1, (0, 0, 0, 0)) := by decide +kernel
theorem sm_a167_183 : sm_at 167 183 = some (.iaload, 1, (0, 0, 0, 0)) := by decide +kernel
theorem sm_a167_184 : sm_at 167 184 = some (.if_icmp .ne 144, 3, (0, 0, 0, 0)) := by decide +kernel
theorem sm_a167_187 : sm_at 167 187 = some (.aload_n 0, 1, (0, 0, 0, 0)) := by decide +kernel
theorem sm_a167_188 : sm_at 167 188 = some (.getfield 68, 3, (12, 21, 0, 1204)) := by decide +kernel
theorem sm_a167_191 : sm_at 167 191 = some (.iload_n 1, 1, (0, 0, 0, 0)) := by decide +kernel
theorem sm_a167_192 : sm_at 167 192 = some (.iconst 4, 1, (0, 0, 0, 0)) := by decide +kernel
theorem sm_a167_193 : sm_at 167 193 = some (.iastore, 1, (1, 0, 0, 0)) := by decide +kernel
theorem sm_a167_194 : sm_at 167 194 = some (.iconst 0, 1, (0, 0, 0, 0)) := by decide +kernel
theorem sm_a167_195 : sm_at 167 195 = some (.istore 5, 2, (0, 0, 0, 0)) := by decide +kernel
theorem sm_a167_197 : sm_at 167 197 = some (.iload 5, 2, (0, 0, 0, 0)) := by decide +kernel
theorem sm_a167_199 : sm_at 167 199 = some (.aload_n 0, 1, (0, 0, 0, 0)) := by decide +kernel
theorem sm_a167_200 : sm_at 167 200 = some (.getfield 77, 3, (12, 24, 0, 1207)) := by decide +kernel
theorem sm_a167_203 : sm_at 167 203 = some (.iload_n 1, 1, (0, 0, 0, 0)) := by decide +kernel
theorem sm_a167_204 : sm_at 167 204 = some (.iaload, 1, (0, 0, 0, 0)) := by decide +kernel
theorem sm_a167_205 : sm_at 167 205 = some (.if_icmp .ge 40, 3, (0, 0, 0, 0)) := by decide +kernel
theorem sm_a167_208 : sm_at 167 208 = some (.aload_n 0, 1, (0, 0, 0, 0)) := by decide +kernel
theorem sm_a167_209 : sm_at 167 209 = some (.getfield 59, 3, (12, 18, 0, 1201)) := by decide +kernel
theorem sm_a167_212 : sm_at 167 212 = some (.bipush 64, 2, (0, 0, 0, 0)) := by decide +kernel
theorem sm_a167_214 : sm_at 167 214 = some (.iload_n 1, 1, (0, 0, 0, 0)) := by decide +kernel
theorem sm_a167_215 : sm_at 167 215 = some (.imul, 1, (0, 0, 0, 0)) := by decide +kernel
theorem sm_a167_216 : sm_at 167 216 = some (.aload_n 0, 1, (0, 0, 0, 0)) := by decide +kernel
theorem sm_a167_217 : sm_at 167 217 = some (.getfield 98, 3, (12, 31, 0, 1214)) := by decide +kernel
theorem sm_a167_220 : sm_at 167 220 = some (.iload_n 1, 1, (0, 0, 0, 0)) := by decide +kernel
theorem sm_a167_221 : sm_at 167 221 = some (.iaload, 1, (0, 0, 0, 0)) := by decide +kernel
theorem sm_a167_222 : sm_at 167 222 = some (.iadd, 1, (0, 0, 0, 0)) := by decide +kernel
theorem sm_a167_223 : sm_at 167 223 = some (.iload 5, 2, (0, 0, 0, 0)) := by decide +kernel
theorem sm_a167_225 : sm_at 167 225 = some (.iadd, 1, (0, 0, 0, 0)) := by decide +kernel
theorem sm_a167_226 : sm_at 167 226 = some (.aload_n 0, 1, (0, 0, 0, 0)) := by decide +kernel
theorem sm_a167_227 : sm_at 167 227 = some (.getfield 92, 3, (12, 29, 0, 1212)) := by decide +kernel
theorem sm_a167_230 : sm_at 167 230 = some (.bipush 100, 2, (0, 0, 0, 0)) := by decide +kernel
theorem sm_a167_232 : sm_at 167 232 = some (.iload_n 1, 1, (0, 0, 0, 0)) := by decide +kernel
theorem sm_a167_233 : sm_at 167 233 = some (.imul, 1, (0, 0, 0, 0)) := by decide +kernel
theorem sm_a167_234 : sm_at 167 234 = some (.iload 5, 2, (0, 0, 0, 0)) := by decide +kernel
theorem sm_a167_236 : sm_at 167 236 = some (.iadd, 1, (0, 0, 0, 0)) := by decide +kernel
theorem sm_a167_237 : sm_at 167 237 = some (.iaload, 1, (0, 0, 0, 0)) := by decide +kernel
theorem sm_a167_238 : sm_at 167 238 = some (.iastore, 1, (1, 0, 0, 0)) := by decide +kernel
theorem sm_a167_239 : sm_at 167 239 = some (.iinc 5 1, 3, (0, 0, 0, 0)) := by decide +kernel
theorem sm_a167_242 : sm_at 167 242 = some (.goto (-45), 3, (0, 0, 0, 0)) := by decide +kernel
theorem sm_a167_245 : sm_at 167 245 = some (.goto 83, 3, (0, 0, 0, 0)) := by decide +kernel
theorem sm_a167_248 : sm_at 167 248 = some (.iload 4, 2, (0, 0, 0, 0)) := by decide +kernel
theorem sm_a167_250 : sm_at 167 250 = some (.iconst 2, 1, (0, 0, 0, 0)) := by decide +kernel
theorem sm_a167_251 : sm_at 167 251 = some (.if_icmp .eq 18, 3, (0, 0, 0, 0)) := by decide +kernel
theorem sm_a167_254 : sm_at 167 254 = some (.iload 4, 2, (0, 0, 0, 0)) := by decide +kernel
theorem sm_a167_256 : sm_at 167 256 = some (.iconst 5, 1, (0, 0, 0, 0)) := by decide +kernel
theorem sm_a167_257 : sm_at 167 257 = some (.if_icmp .ne 46, 3, (0, 0, 0, 0)) := by decide +kernel
theorem sm_a167_260 : sm_at 167 260 = some (.aload_n 0, 1, (0, 0, 0, 0)) := by decide +kernel
theorem sm_a167_261 : sm_at 167 261 = some (.getfield 71, 3, (12, 22, 0, 1205)) := by decide +kernel
theorem sm_a167_264 : sm_at 167 264 = some (.iload_n 1, 1, (0, 0, 0, 0)) := by decide +kernel
theorem sm_a167_265 : sm_at 167 265 = some (.baload, 1, (0, 0, 0, 0)) := by decide +kernel
theorem sm_a167_266 : sm_at 167 266 = some (.ifCond .eq 37, 3, (0, 0, 0, 0)) := by decide +kernel
theorem sm_a167_269 : sm_at 167 269 = some (.iload_n 2, 1, (0, 0, 0, 0)) := by decide +kernel
theorem sm_a167_270 : sm_at 167 270 = some (.iconst 1, 1, (0, 0, 0, 0)) := by decide +kernel
theorem sm_a167_271 : sm_at 167 271 = some (.if_icmp .ne 24, 3, (0, 0, 0, 0)) := by decide +kernel
theorem sm_a167_274 : sm_at 167 274 = some (.iload_n 3, 1, (0, 0, 0, 0)) := by decide +kernel
theorem sm_a167_275 : sm_at 167 275 = some (.ifCond .ne 20, 3, (0, 0, 0, 0)) := by decide +kernel
theorem sm_a167_278 : sm_at 167 278 = some (.aload_n 0, 1, (0, 0, 0, 0)) := by decide +kernel
theorem sm_a167_279 : sm_at 167 279 = some (.getfield 68, 3, (12, 21, 0, 1204)) := by decide +kernel
theorem sm_a167_282 : sm_at 167 282 = some (.iload_n 1, 1, (0, 0, 0, 0)) := by decide +kernel
theorem sm_a167_283 : sm_at 167 283 = some (.iconst 5, 1, (0, 0, 0, 0)) := by decide +kernel
theorem sm_a167_284 : sm_at 167 284 = some (.iastore, 1, (1, 0, 0, 0)) := by decide +kernel
theorem sm_a167_285 : sm_at 167 285 = some (.aload_n 0, 1, (0, 0, 0, 0)) := by decide +kernel
theorem sm_a167_286 : sm_at 167 286 = some (.iload_n 1, 1, (0, 0, 0, 0)) := by decide +kernel
theorem sm_a167_287 : sm_at 167 287 = some (.iconst 2, 1, (0, 0, 0, 0)) := by decide +kernel
theorem sm_a167_288 : sm_at 167 288 = some (.iconst 0, 1, (0, 0, 0, 0)) := by decide +kernel
theorem sm_a167_289 : sm_at 167 289 = some (.invokevirtual 284, 3, (10, 160, 12, 1556)) := by decide +kernel
theorem sm_a167_292 : sm_at 167 292 = some (.goto 36, 3, (0, 0, 0, 0)) := by decide +kernel
theorem sm_a167_295 : sm_at 167 295 = some (.aload_n 0, 1, (0, 0, 0, 0)) := by decide +kernel
theorem sm_a167_296 : sm_at 167 296 = some (.iload_n 1, 1, (0, 0, 0, 0)) := by decide +kernel
theorem sm_a167_297 : sm_at 167 297 = some (.invokevirtual 303, 3, (10, 166, 12, 1600)) := by decide +kernel
theorem sm_a167_300 : sm_at 167 300 = some (.goto 28, 3, (0, 0, 0, 0)) := by decide +kernel
theorem sm_a167_303 : sm_at 167 303 = some (.iload_n 2, 1, (0, 0, 0, 0)) := by decide +kernel
theorem sm_a167_304 : sm_at 167 304 = some (.aload_n 0, 1, (0, 0, 0, 0)) := by decide +kernel
theorem sm_a167_305 : sm_at 167 305 = some (.getfield 74, 3, (12, 23, 0, 1206)) := by decide +kernel
theorem sm_a167_308 : sm_at 167 308 = some (.iload_n 1, 1, (0, 0, 0, 0)) := by decide +kernel
theorem sm_a167_309 : sm_at 167 309 = some (.iaload, 1, (0, 0, 0, 0)) := by decide +kernel
theorem sm_a167_310 : sm_at 167 310 = some (.if_icmp .eq 13, 3, (0, 0, 0, 0)) := by decide +kernel
theorem sm_a167_313 : sm_at 167 313 = some (.aload_n 0, 1, (0, 0, 0, 0)) := by decide +kernel
theorem sm_a167_314 : sm_at 167 314 = some (.iload_n 1, 1, (0, 0, 0, 0)) := by decide +kernel
theorem sm_a167_315 : sm_at 167 315 = some (.iconst 2, 1, (0, 0, 0, 0)) := by decide +kernel
theorem sm_a167_316 : sm_at 167 316 = some (.iconst 0, 1, (0, 0, 0, 0)) := by decide +kernel
theorem sm_a167_317 : sm_at 167 317 = some (.invokevirtual 284, 3, (10, 160, 12, 1556)) := by decide +kernel
theorem sm_a167_320 : sm_at 167 320 = some (.goto 8, 3, (0, 0, 0, 0)) := by decide +kernel
theorem sm_a167_323 : sm_at 167 323 = some (.aload_n 0, 1, (0, 0, 0, 0)) := by decide +kernel
theorem sm_a167_324 : sm_at 167 324 = some (.iload_n 1, 1, (0, 0, 0, 0)) := by decide +kernel
theorem sm_a167_325 : sm_at 167 325 = some (.invokevirtual 303, 3, (10, 166, 12, 1600)) := by decide +kernel
theorem sm_a167_328 : sm_at 167 328 = some (.return_, 1, (0, 0, 0, 0)) := by decide +kernel
theorem bb_167_0 {d : Nat} {M : sm_M} {Q : Option sm_V → sm_M → Prop} {a0 : Nat} {x1 : Int32} {x2 : Int32} {x3 : Int32} {z4 : Option sm_V} {z5 : Option sm_V}
    (h : sm_K M a0 = 39 ∧ ∃ b_2, sm_R M a0 21 = some b_2 ∧ sm_iA M b_2 ∧ sm_in_ M b_2 x1 ∧ ((¬ (sm_I M b_2 (x1).toNatClampNeg) = 1 → ((¬ (sm_I M b_2 (x1).toNatClampNeg) = 0 → ((¬ (sm_I M b_2 (x1).toNatClampNeg) = 3 → (((sm_I M b_2 (x1).toNatClampNeg) = 2 → sm_Run (d + 1) 167 269 [some (.inr (some a0)), some (.inl x1), some (.inl x2), some (.inl x3), some (.inl (sm_I M b_2 (x1).toNatClampNeg)), z5] [] M Q) ∧ (¬ ((sm_I M b_2 (x1).toNatClampNeg) = 2) → ((¬ (sm_I M b_2 (x1).toNatClampNeg) = 5 → sm_Run (d + 1) 167 303 [some (.inr (some a0)), some (.inl x1), some (.inl x2), some (.inl x3), some (.inl (sm_I M b_2 (x1).toNatClampNeg)), z5] [] M Q) ∧ (¬ (¬ (sm_I M b_2 (x1).toNatClampNeg) = 5) → ∃ b_11, sm_R M a0 22 = some b_11 ∧ sm_wZ 1 M b_11 ∧ sm_in_ M b_11 x1 ∧ (((sm_I M b_11 (x1).toNatClampNeg) = 0 → sm_Run (d + 1) 167 303 [some (.inr (some a0)), some (.inl x1), some (.inl x2), some (.inl x3), some (.inl (sm_I M b_2 (x1).toNatClampNeg)), z5] [] M Q) ∧ (¬ ((sm_I M b_11 (x1).toNatClampNeg) = 0) → sm_Run (d + 1) 167 269 [some (.inr (some a0)), some (.inl x1), some (.inl x2), some (.inl x3), some (.inl (sm_I M b_2 (x1).toNatClampNeg)), z5] [] M Q))))))) ∧ (¬ (¬ (sm_I M b_2 (x1).toNatClampNeg) = 3) → ∃ b_16, sm_R M a0 23 = some b_16 ∧ sm_iA M b_16 ∧ sm_in_ M b_16 x1 ∧ ((x2 = (sm_I M b_16 (x1).toNatClampNeg) → ∃ b_21, sm_R M a0 24 = some b_21 ∧ sm_iA M b_21 ∧ sm_in_ M b_21 x1 ∧ ∃ b_25, sm_R M a0 26 = some b_25 ∧ sm_iA M b_25 ∧ sm_in_ M b_25 x1 ∧ ((x3 ≤ ((sm_I M b_21 (x1).toNatClampNeg) - (sm_I M b_25 (x1).toNatClampNeg)) → sm_Run (d + 1) 167 95 [some (.inr (some a0)), some (.inl x1), some (.inl x2), some (.inl x3), some (.inl (sm_I M b_2 (x1).toNatClampNeg)), some (.inl 0)] [] M Q) ∧ (¬ (x3 ≤ ((sm_I M b_21 (x1).toNatClampNeg) - (sm_I M b_25 (x1).toNatClampNeg))) → sm_Run d 166 0 (sm_ent 166 [.inr (some a0), .inl x1]) [] M (fun v M1 => sm_Run (d + 1) 167 89 [some (.inr (some a0)), some (.inl x1), some (.inl x2), some (.inl x3), some (.inl (sm_I M b_2 (x1).toNatClampNeg)), z5] (v.toList ++ []) M1 Q)))) ∧ (¬ (x2 = (sm_I M b_16 (x1).toNatClampNeg)) → sm_Run d 160 0 (sm_ent 160 [.inr (some a0), .inl x1, .inl 2, .inl 0]) [] M (fun v M1 => sm_Run (d + 1) 167 64 [some (.inr (some a0)), some (.inl x1), some (.inl x2), some (.inl x3), some (.inl (sm_I M b_2 (x1).toNatClampNeg)), z5] (v.toList ++ []) M1 Q)))))) ∧ (¬ (¬ (sm_I M b_2 (x1).toNatClampNeg) = 0) → sm_Run d 160 0 (sm_ent 160 [.inr (some a0), .inl x1, .inl 10, .inl 0]) [] M (fun v M1 => sm_Run (d + 1) 167 38 [some (.inr (some a0)), some (.inl x1), some (.inl x2), some (.inl x3), some (.inl (sm_I M b_2 (x1).toNatClampNeg)), z5] (v.toList ++ []) M1 Q)))) ∧ (¬ (¬ (sm_I M b_2 (x1).toNatClampNeg) = 1) → sm_Run d 160 0 (sm_ent 160 [.inr (some a0), .inl x1, .inl 14, .inl 0]) [] M (fun v M1 => sm_Run (d + 1) 167 22 [some (.inr (some a0)), some (.inl x1), some (.inl x2), some (.inl x3), some (.inl (sm_I M b_2 (x1).toNatClampNeg)), z5] (v.toList ++ []) M1 Q)))) :
    sm_Run (d + 1) 167 0 [some (.inr (some a0)), some (.inl x1), some (.inl x2), some (.inl x3), z4, z5] [] M Q := by
  refine ru_go (t := (1, [some (.inr (some a0)), some (.inl x1), some (.inl x2), some (.inl x3), z4, z5], [.inr (some a0)], M)) sm_a167_0 rfl rfl rfl ?_
  obtain ⟨h_1, h⟩ := h
  refine ru_go (t := (4, [some (.inr (some a0)), some (.inl x1), some (.inl x2), some (.inl x3), z4, z5], [.inr (sm_R M a0 21)], M)) sm_a167_1 rfl rfl (st_getR h_1 rfl rfl) ?_
  refine ru_go (t := (5, [some (.inr (some a0)), some (.inl x1), some (.inl x2), some (.inl x3), z4, z5], [.inl x1, .inr (sm_R M a0 21)], M)) sm_a167_4 rfl rfl rfl ?_
  obtain ⟨b_2, hb_3, h⟩ := h
  rw [hb_3]
  obtain ⟨h_4, h⟩ := h
  obtain ⟨h_5, h⟩ := h
  refine ru_go (t := (6, [some (.inr (some a0)), some (.inl x1), some (.inl x2), some (.inl x3), z4, z5], [.inl (sm_I M b_2 (x1).toNatClampNeg)], M)) sm_a167_5 rfl rfl (st_iald h_4 h_5) ?_
  refine ru_go (t := (8, [some (.inr (some a0)), some (.inl x1), some (.inl x2), some (.inl x3), some (.inl (sm_I M b_2 (x1).toNatClampNeg)), z5], [], M)) sm_a167_6 rfl rfl rfl ?_
  refine ru_go (t := (10, [some (.inr (some a0)), some (.inl x1), some (.inl x2), some (.inl x3), some (.inl (sm_I M b_2 (x1).toNatClampNeg)), z5], [.inl (sm_I M b_2 (x1).toNatClampNeg)], M)) sm_a167_8 rfl rfl rfl ?_
  refine ru_go (t := (11, [some (.inr (some a0)), some (.inl x1), some (.inl x2), some (.inl x3), some (.inl (sm_I M b_2 (x1).toNatClampNeg)), z5], [.inl 1, .inl (sm_I M b_2 (x1).toNatClampNeg)], M)) sm_a167_10 rfl rfl (st_iconst (by decide)) ?_
  refine ru_icmp (pc := 11) (p := 25) (p2 := 14) sm_a167_11 (by decide) rfl ⟨fun hc_6 => ?_, fun hc_6 => ?_⟩
  · have h := h.1 hc_6
    refine ru_go (t := (27, [some (.inr (some a0)), some (.inl x1), some (.inl x2), some (.inl x3), some (.inl (sm_I M b_2 (x1).toNatClampNeg)), z5], [.inl (sm_I M b_2 (x1).toNatClampNeg)], M)) sm_a167_25 rfl rfl rfl ?_
    refine ru_if (pc := 27) (p := 41) (p2 := 30) sm_a167_27 (by decide) rfl ⟨fun hc_7 => ?_, fun hc_7 => ?_⟩
    · have h := h.1 hc_7
      refine ru_go (t := (43, [some (.inr (some a0)), some (.inl x1), some (.inl x2), some (.inl x3), some (.inl (sm_I M b_2 (x1).toNatClampNeg)), z5], [.inl (sm_I M b_2 (x1).toNatClampNeg)], M)) sm_a167_41 rfl rfl rfl ?_
      refine ru_go (t := (44, [some (.inr (some a0)), some (.inl x1), some (.inl x2), some (.inl x3), some (.inl (sm_I M b_2 (x1).toNatClampNeg)), z5], [.inl 3, .inl (sm_I M b_2 (x1).toNatClampNeg)], M)) sm_a167_43 rfl rfl (st_iconst (by decide)) ?_
      refine ru_icmp (pc := 44) (p := 248) (p2 := 47) sm_a167_44 (by decide) rfl ⟨fun hc_8 => ?_, fun hc_8 => ?_⟩
      · have h := h.1 hc_8
        refine ru_go (t := (250, [some (.inr (some a0)), some (.inl x1), some (.inl x2), some (.inl x3), some (.inl (sm_I M b_2 (x1).toNatClampNeg)), z5], [.inl (sm_I M b_2 (x1).toNatClampNeg)], M)) sm_a167_248 rfl rfl rfl ?_
        refine ru_go (t := (251, [some (.inr (some a0)), some (.inl x1), some (.inl x2), some (.inl x3), some (.inl (sm_I M b_2 (x1).toNatClampNeg)), z5], [.inl 2, .inl (sm_I M b_2 (x1).toNatClampNeg)], M)) sm_a167_250 rfl rfl (st_iconst (by decide)) ?_
        refine ru_icmp (pc := 251) (p := 269) (p2 := 254) sm_a167_251 (by decide) rfl ⟨fun hc_9 => ?_, fun hc_9 => ?_⟩
        · have h := h.1 hc_9
          exact h
        · have h := h.2 hc_9
          refine ru_go (t := (256, [some (.inr (some a0)), some (.inl x1), some (.inl x2), some (.inl x3), some (.inl (sm_I M b_2 (x1).toNatClampNeg)), z5], [.inl (sm_I M b_2 (x1).toNatClampNeg)], M)) sm_a167_254 rfl rfl rfl ?_
          refine ru_go (t := (257, [some (.inr (some a0)), some (.inl x1), some (.inl x2), some (.inl x3), some (.inl (sm_I M b_2 (x1).toNatClampNeg)), z5], [.inl 5, .inl (sm_I M b_2 (x1).toNatClampNeg)], M)) sm_a167_256 rfl rfl (st_iconst (by decide)) ?_
          refine ru_icmp (pc := 257) (p := 303) (p2 := 260) sm_a167_257 (by decide) rfl ⟨fun hc_10 => ?_, fun hc_10 => ?_⟩
          · have h := h.1 hc_10
            exact h
          · have h := h.2 hc_10
            refine ru_go (t := (261, [some (.inr (some a0)), some (.inl x1), some (.inl x2), some (.inl x3), some (.inl (sm_I M b_2 (x1).toNatClampNeg)), z5], [.inr (some a0)], M)) sm_a167_260 rfl rfl rfl ?_
            refine ru_go (t := (264, [some (.inr (some a0)), some (.inl x1), some (.inl x2), some (.inl x3), some (.inl (sm_I M b_2 (x1).toNatClampNeg)), z5], [.inr (sm_R M a0 22)], M)) sm_a167_261 rfl rfl (st_getR h_1 rfl rfl) ?_
            refine ru_go (t := (265, [some (.inr (some a0)), some (.inl x1), some (.inl x2), some (.inl x3), some (.inl (sm_I M b_2 (x1).toNatClampNeg)), z5], [.inl x1, .inr (sm_R M a0 22)], M)) sm_a167_264 rfl rfl rfl ?_
            obtain ⟨b_11, hb_12, h⟩ := h
            rw [hb_12]
            obtain ⟨h_13, h⟩ := h
            obtain ⟨h_14, h⟩ := h
            refine ru_go (t := (266, [some (.inr (some a0)), some (.inl x1), some (.inl x2), some (.inl x3), some (.inl (sm_I M b_2 (x1).toNatClampNeg)), z5], [.inl (sm_I M b_11 (x1).toNatClampNeg)], M)) sm_a167_265 rfl rfl (st_zald h_13 h_14) ?_
            refine ru_if (pc := 266) (p := 303) (p2 := 269) sm_a167_266 (by decide) rfl ⟨fun hc_15 => ?_, fun hc_15 => ?_⟩
            · have h := h.1 hc_15
              exact h
            · have h := h.2 hc_15
              exact h
      · have h := h.2 hc_8
        refine ru_go (t := (48, [some (.inr (some a0)), some (.inl x1), some (.inl x2), some (.inl x3), some (.inl (sm_I M b_2 (x1).toNatClampNeg)), z5], [.inl x2], M)) sm_a167_47 rfl rfl rfl ?_
        refine ru_go (t := (49, [some (.inr (some a0)), some (.inl x1), some (.inl x2), some (.inl x3), some (.inl (sm_I M b_2 (x1).toNatClampNeg)), z5], [.inr (some a0), .inl x2], M)) sm_a167_48 rfl rfl rfl ?_
        refine ru_go (t := (52, [some (.inr (some a0)), some (.inl x1), some (.inl x2), some (.inl x3), some (.inl (sm_I M b_2 (x1).toNatClampNeg)), z5], [.inr (sm_R M a0 23), .inl x2], M)) sm_a167_49 rfl rfl (st_getR h_1 rfl rfl) ?_
        refine ru_go (t := (53, [some (.inr (some a0)), some (.inl x1), some (.inl x2), some (.inl x3), some (.inl (sm_I M b_2 (x1).toNatClampNeg)), z5], [.inl x1, .inr (sm_R M a0 23), .inl x2], M)) sm_a167_52 rfl rfl rfl ?_
        obtain ⟨b_16, hb_17, h⟩ := h
        rw [hb_17]
        obtain ⟨h_18, h⟩ := h
        obtain ⟨h_19, h⟩ := h
        refine ru_go (t := (54, [some (.inr (some a0)), some (.inl x1), some (.inl x2), some (.inl x3), some (.inl (sm_I M b_2 (x1).toNatClampNeg)), z5], [.inl (sm_I M b_16 (x1).toNatClampNeg), .inl x2], M)) sm_a167_53 rfl rfl (st_iald h_18 h_19) ?_
        refine ru_icmp (pc := 54) (p := 67) (p2 := 57) sm_a167_54 (by decide) rfl ⟨fun hc_20 => ?_, fun hc_20 => ?_⟩
        · have h := h.1 hc_20
          refine ru_go (t := (68, [some (.inr (some a0)), some (.inl x1), some (.inl x2), some (.inl x3), some (.inl (sm_I M b_2 (x1).toNatClampNeg)), z5], [.inl x3], M)) sm_a167_67 rfl rfl rfl ?_
          refine ru_go (t := (69, [some (.inr (some a0)), some (.inl x1), some (.inl x2), some (.inl x3), some (.inl (sm_I M b_2 (x1).toNatClampNeg)), z5], [.inr (some a0), .inl x3], M)) sm_a167_68 rfl rfl rfl ?_
          refine ru_go (t := (72, [some (.inr (some a0)), some (.inl x1), some (.inl x2), some (.inl x3), some (.inl (sm_I M b_2 (x1).toNatClampNeg)), z5], [.inr (sm_R M a0 24), .inl x3], M)) sm_a167_69 rfl rfl (st_getR h_1 rfl rfl) ?_
          refine ru_go (t := (73, [some (.inr (some a0)), some (.inl x1), some (.inl x2), some (.inl x3), some (.inl (sm_I M b_2 (x1).toNatClampNeg)), z5], [.inl x1, .inr (sm_R M a0 24), .inl x3], M)) sm_a167_72 rfl rfl rfl ?_
          obtain ⟨b_21, hb_22, h⟩ := h
          rw [hb_22]
          obtain ⟨h_23, h⟩ := h
          obtain ⟨h_24, h⟩ := h
          refine ru_go (t := (74, [some (.inr (some a0)), some (.inl x1), some (.inl x2), some (.inl x3), some (.inl (sm_I M b_2 (x1).toNatClampNeg)), z5], [.inl (sm_I M b_21 (x1).toNatClampNeg), .inl x3], M)) sm_a167_73 rfl rfl (st_iald h_23 h_24) ?_
          refine ru_go (t := (75, [some (.inr (some a0)), some (.inl x1), some (.inl x2), some (.inl x3), some (.inl (sm_I M b_2 (x1).toNatClampNeg)), z5], [.inr (some a0), .inl (sm_I M b_21 (x1).toNatClampNeg), .inl x3], M)) sm_a167_74 rfl rfl rfl ?_
          refine ru_go (t := (78, [some (.inr (some a0)), some (.inl x1), some (.inl x2), some (.inl x3), some (.inl (sm_I M b_2 (x1).toNatClampNeg)), z5], [.inr (sm_R M a0 26), .inl (sm_I M b_21 (x1).toNatClampNeg), .inl x3], M)) sm_a167_75 rfl rfl (st_getR h_1 rfl rfl) ?_
          refine ru_go (t := (79, [some (.inr (some a0)), some (.inl x1), some (.inl x2), some (.inl x3), some (.inl (sm_I M b_2 (x1).toNatClampNeg)), z5], [.inl x1, .inr (sm_R M a0 26), .inl (sm_I M b_21 (x1).toNatClampNeg), .inl x3], M)) sm_a167_78 rfl rfl rfl ?_
          obtain ⟨b_25, hb_26, h⟩ := h
          rw [hb_26]
          obtain ⟨h_27, h⟩ := h
          obtain ⟨h_28, h⟩ := h
          refine ru_go (t := (80, [some (.inr (some a0)), some (.inl x1), some (.inl x2), some (.inl x3), some (.inl (sm_I M b_2 (x1).toNatClampNeg)), z5], [.inl (sm_I M b_25 (x1).toNatClampNeg), .inl (sm_I M b_21 (x1).toNatClampNeg), .inl x3], M)) sm_a167_79 rfl rfl (st_iald h_27 h_28) ?_
          refine ru_go (t := (81, [some (.inr (some a0)), some (.inl x1), some (.inl x2), some (.inl x3), some (.inl (sm_I M b_2 (x1).toNatClampNeg)), z5], [.inl ((sm_I M b_21 (x1).toNatClampNeg) - (sm_I M b_25 (x1).toNatClampNeg)), .inl x3], M)) sm_a167_80 rfl rfl rfl ?_
          refine ru_icmp (pc := 81) (p := 92) (p2 := 84) sm_a167_81 (by decide) rfl ⟨fun hc_29 => ?_, fun hc_29 => ?_⟩
          · have h := h.1 hc_29
            refine ru_go (t := (93, [some (.inr (some a0)), some (.inl x1), some (.inl x2), some (.inl x3), some (.inl (sm_I M b_2 (x1).toNatClampNeg)), z5], [.inl 0], M)) sm_a167_92 rfl rfl (st_iconst (by decide)) ?_
            refine ru_go (t := (95, [some (.inr (some a0)), some (.inl x1), some (.inl x2), some (.inl x3), some (.inl (sm_I M b_2 (x1).toNatClampNeg)), some (.inl 0)], [], M)) sm_a167_93 rfl rfl rfl ?_
            exact h
          · have h := h.2 hc_29
            refine ru_go (t := (85, [some (.inr (some a0)), some (.inl x1), some (.inl x2), some (.inl x3), some (.inl (sm_I M b_2 (x1).toNatClampNeg)), z5], [.inr (some a0)], M)) sm_a167_84 rfl rfl rfl ?_
            refine ru_go (t := (86, [some (.inr (some a0)), some (.inl x1), some (.inl x2), some (.inl x3), some (.inl (sm_I M b_2 (x1).toNatClampNeg)), z5], [.inl x1, .inr (some a0)], M)) sm_a167_85 rfl rfl rfl ?_
            exact ru_call (p := 89) sm_a167_86 rfl (sc_virt (Or.inl rfl) rfl rfl h_1 (Nat.le_of_ble_eq_true rfl)) rfl h
        · have h := h.2 hc_20
          refine ru_go (t := (58, [some (.inr (some a0)), some (.inl x1), some (.inl x2), some (.inl x3), some (.inl (sm_I M b_2 (x1).toNatClampNeg)), z5], [.inr (some a0)], M)) sm_a167_57 rfl rfl rfl ?_
          refine ru_go (t := (59, [some (.inr (some a0)), some (.inl x1), some (.inl x2), some (.inl x3), some (.inl (sm_I M b_2 (x1).toNatClampNeg)), z5], [.inl x1, .inr (some a0)], M)) sm_a167_58 rfl rfl rfl ?_
          refine ru_go (t := (60, [some (.inr (some a0)), some (.inl x1), some (.inl x2), some (.inl x3), some (.inl (sm_I M b_2 (x1).toNatClampNeg)), z5], [.inl 2, .inl x1, .inr (some a0)], M)) sm_a167_59 rfl rfl (st_iconst (by decide)) ?_
          refine ru_go (t := (61, [some (.inr (some a0)), some (.inl x1), some (.inl x2), some (.inl x3), some (.inl (sm_I M b_2 (x1).toNatClampNeg)), z5], [.inl 0, .inl 2, .inl x1, .inr (some a0)], M)) sm_a167_60 rfl rfl (st_iconst (by decide)) ?_
          exact ru_call (p := 64) sm_a167_61 rfl (sc_virt (Or.inl rfl) rfl rfl h_1 (Nat.le_of_ble_eq_true rfl)) rfl h
    · have h := h.2 hc_7
      refine ru_go (t := (31, [some (.inr (some a0)), some (.inl x1), some (.inl x2), some (.inl x3), some (.inl (sm_I M b_2 (x1).toNatClampNeg)), z5], [.inr (some a0)], M)) sm_a167_30 rfl rfl rfl ?_
      refine ru_go (t := (32, [some (.inr (some a0)), some (.inl x1), some (.inl x2), some (.inl x3), some (.inl (sm_I M b_2 (x1).toNatClampNeg)), z5], [.inl x1, .inr (some a0)], M)) sm_a167_31 rfl rfl rfl ?_
      refine ru_go (t := (34, [some (.inr (some a0)), some (.inl x1), some (.inl x2), some (.inl x3), some (.inl (sm_I M b_2 (x1).toNatClampNeg)), z5], [.inl 10, .inl x1, .inr (some a0)], M)) sm_a167_32 rfl rfl (st_bipush (by decide)) ?_
      refine ru_go (t := (35, [some (.inr (some a0)), some (.inl x1), some (.inl x2), some (.inl x3), some (.inl (sm_I M b_2 (x1).toNatClampNeg)), z5], [.inl 0, .inl 10, .inl x1, .inr (some a0)], M)) sm_a167_34 rfl rfl (st_iconst (by decide)) ?_
      exact ru_call (p := 38) sm_a167_35 rfl (sc_virt (Or.inl rfl) rfl rfl h_1 (Nat.le_of_ble_eq_true rfl)) rfl h
  · have h := h.2 hc_6
    refine ru_go (t := (15, [some (.inr (some a0)), some (.inl x1), some (.inl x2), some (.inl x3), some (.inl (sm_I M b_2 (x1).toNatClampNeg)), z5], [.inr (some a0)], M)) sm_a167_14 rfl rfl rfl ?_
    refine ru_go (t := (16, [some (.inr (some a0)), some (.inl x1), some (.inl x2), some (.inl x3), some (.inl (sm_I M b_2 (x1).toNatClampNeg)), z5], [.inl x1, .inr (some a0)], M)) sm_a167_15 rfl rfl rfl ?_
    refine ru_go (t := (18, [some (.inr (some a0)), some (.inl x1), some (.inl x2), some (.inl x3), some (.inl (sm_I M b_2 (x1).toNatClampNeg)), z5], [.inl 14, .inl x1, .inr (some a0)], M)) sm_a167_16 rfl rfl (st_bipush (by decide)) ?_
    refine ru_go (t := (19, [some (.inr (some a0)), some (.inl x1), some (.inl x2), some (.inl x3), some (.inl (sm_I M b_2 (x1).toNatClampNeg)), z5], [.inl 0, .inl 14, .inl x1, .inr (some a0)], M)) sm_a167_18 rfl rfl (st_iconst (by decide)) ?_
    exact ru_call (p := 22) sm_a167_19 rfl (sc_virt (Or.inl rfl) rfl rfl h_1 (Nat.le_of_ble_eq_true rfl)) rfl h
theorem bb_167_22 {d : Nat} {M : sm_M} {Q : Option sm_V → sm_M → Prop} {a0 : Nat} {x1 : Int32} {x2 : Int32} {x3 : Int32} {x4 : Int32} {z5 : Option sm_V}
    (h : Q none M) :
    sm_Run (d + 1) 167 22 [some (.inr (some a0)), some (.inl x1), some (.inl x2), some (.inl x3), some (.inl x4), z5] [] M Q := by
  refine ru_go (t := (328, [some (.inr (some a0)), some (.inl x1), some (.inl x2), some (.inl x3), some (.inl x4), z5], [], M)) sm_a167_22 rfl rfl (st_goto (pc := 22) (by decide)) ?_
  exact ru_ret sm_a167_328 (sm_rvv rfl) h
theorem bb_167_38 {d : Nat} {M : sm_M} {Q : Option sm_V → sm_M → Prop} {a0 : Nat} {x1 : Int32} {x2 : Int32} {x3 : Int32} {x4 : Int32} {z5 : Option sm_V}
    (h : Q none M) :
    sm_Run (d + 1) 167 38 [some (.inr (some a0)), some (.inl x1), some (.inl x2), some (.inl x3), some (.inl x4), z5] [] M Q := by
  refine ru_go (t := (328, [some (.inr (some a0)), some (.inl x1), some (.inl x2), some (.inl x3), some (.inl x4), z5], [], M)) sm_a167_38 rfl rfl (st_goto (pc := 38) (by decide)) ?_
  exact ru_ret sm_a167_328 (sm_rvv rfl) h
theorem bb_167_64 {d : Nat} {M : sm_M} {Q : Option sm_V → sm_M → Prop} {a0 : Nat} {x1 : Int32} {x2 : Int32} {x3 : Int32} {x4 : Int32} {z5 : Option sm_V}
    (h : Q none M) :
    sm_Run (d + 1) 167 64 [some (.inr (some a0)), some (.inl x1), some (.inl x2), some (.inl x3), some (.inl x4), z5] [] M Q := by
  refine ru_go (t := (328, [some (.inr (some a0)), some (.inl x1), some (.inl x2), some (.inl x3), some (.inl x4), z5], [], M)) sm_a167_64 rfl rfl (st_goto (pc := 64) (by decide)) ?_
  exact ru_ret sm_a167_328 (sm_rvv rfl) h
theorem bb_167_89 {d : Nat} {M : sm_M} {Q : Option sm_V → sm_M → Prop} {a0 : Nat} {x1 : Int32} {x2 : Int32} {x3 : Int32} {x4 : Int32} {z5 : Option sm_V}
    (h : Q none M) :
    sm_Run (d + 1) 167 89 [some (.inr (some a0)), some (.inl x1), some (.inl x2), some (.inl x3), some (.inl x4), z5] [] M Q := by
  refine ru_go (t := (328, [some (.inr (some a0)), some (.inl x1), some (.inl x2), some (.inl x3), some (.inl x4), z5], [], M)) sm_a167_89 rfl rfl (st_goto (pc := 89) (by decide)) ?_
  exact ru_ret sm_a167_328 (sm_rvv rfl) h
theorem bb_167_95 {d : Nat} {M : sm_M} {Q : Option sm_V → sm_M → Prop} {a0 : Nat} {x1 : Int32} {x2 : Int32} {x3 : Int32} {x4 : Int32} {x5 : Int32}
    (h : ((x3 ≤ x5 → sm_K M a0 = 39 ∧ ∃ b_3, sm_R M a0 26 = some b_3 ∧ sm_iA M b_3 ∧ sm_in_ M b_3 x1 ∧ sm_wA 1 M b_3 ∧ ∃ b_8, sm_R (sm_putI M b_3 (x1).toNatClampNeg ((sm_I M b_3 (x1).toNatClampNeg) + x3)) a0 23 = some b_8 ∧ sm_iA M b_8 ∧ sm_in_ M b_8 x1 ∧ sm_wA 1 M b_8 ∧ sm_Run d 160 0 (sm_ent 160 [.inr (some a0), .inl x1, .inl 2, .inl 0]) [] (sm_putI (sm_putI M b_3 (x1).toNatClampNeg ((sm_I M b_3 (x1).toNatClampNeg) + x3)) b_8 (x1).toNatClampNeg (1 - (sm_I (sm_putI M b_3 (x1).toNatClampNeg ((sm_I M b_3 (x1).toNatClampNeg) + x3)) b_8 (x1).toNatClampNeg))) (fun v M1 => sm_Run (d + 1) 167 172 [some (.inr (some a0)), some (.inl x1), some (.inl x2), some (.inl x3), some (.inl x4), some (.inl x5)] (v.toList ++ []) M1 Q)) ∧ (¬ (x3 ≤ x5) → sm_K M a0 = 39 ∧ ∃ b_14, sm_R M a0 26 = some b_14 ∧ sm_iA M b_14 ∧ sm_in_ M b_14 x1 ∧ ∃ b_18, sm_R M a0 42 = some b_18 ∧ sm_iA M b_18 ∧ sm_in_ M b_18 ((100 * (sm_I M a0 50)) + x5) ∧ ∃ b_22, sm_R M a0 29 = some b_22 ∧ sm_wA 1 M b_22 ∧ sm_in_ M b_22 (((100 * x1) + (sm_I M b_14 (x1).toNatClampNeg)) + x5) ∧ sm_Run (d + 1) 167 95 [some (.inr (some a0)), some (.inl x1), some (.inl x2), some (.inl x3), some (.inl x4), some (.inl (x5 + 1))] [] (sm_putI M b_22 (((100 * x1) + (sm_I M b_14 (x1).toNatClampNeg)) + x5).toNatClampNeg (sm_I M b_18 ((100 * (sm_I M a0 50)) + x5).toNatClampNeg)) Q))) :
    sm_Run (d + 1) 167 95 [some (.inr (some a0)), some (.inl x1), some (.inl x2), some (.inl x3), some (.inl x4), some (.inl x5)] [] M Q := by
  refine ru_go (t := (97, [some (.inr (some a0)), some (.inl x1), some (.inl x2), some (.inl x3), some (.inl x4), some (.inl x5)], [.inl x5], M)) sm_a167_95 rfl rfl rfl ?_
  refine ru_go (t := (98, [some (.inr (some a0)), some (.inl x1), some (.inl x2), some (.inl x3), some (.inl x4), some (.inl x5)], [.inl x3, .inl x5], M)) sm_a167_97 rfl rfl rfl ?_
  refine ru_icmp (pc := 98) (p := 141) (p2 := 101) sm_a167_98 (by decide) rfl ⟨fun hc_1 => ?_, fun hc_1 => ?_⟩
  · have h := h.1 hc_1
    refine ru_go (t := (142, [some (.inr (some a0)), some (.inl x1), some (.inl x2), some (.inl x3), some (.inl x4), some (.inl x5)], [.inr (some a0)], M)) sm_a167_141 rfl rfl rfl ?_
    obtain ⟨h_2, h⟩ := h
    refine ru_go (t := (145, [some (.inr (some a0)), some (.inl x1), some (.inl x2), some (.inl x3), some (.inl x4), some (.inl x5)], [.inr (sm_R M a0 26)], M)) sm_a167_142 rfl rfl (st_getR h_2 rfl rfl) ?_
    refine ru_go (t := (146, [some (.inr (some a0)), some (.inl x1), some (.inl x2), some (.inl x3), some (.inl x4), some (.inl x5)], [.inl x1, .inr (sm_R M a0 26)], M)) sm_a167_145 rfl rfl rfl ?_
    refine ru_go (t := (147, [some (.inr (some a0)), some (.inl x1), some (.inl x2), some (.inl x3), some (.inl x4), some (.inl x5)], [.inl x1, .inr (sm_R M a0 26), .inl x1, .inr (sm_R M a0 26)], M)) sm_a167_146 rfl rfl rfl ?_
    obtain ⟨b_3, hb_4, h⟩ := h
    rw [hb_4]
    obtain ⟨h_5, h⟩ := h
    obtain ⟨h_6, h⟩ := h
    refine ru_go (t := (148, [some (.inr (some a0)), some (.inl x1), some (.inl x2), some (.inl x3), some (.inl x4), some (.inl x5)], [.inl (sm_I M b_3 (x1).toNatClampNeg), .inl x1, .inr (some b_3)], M)) sm_a167_147 rfl rfl (st_iald h_5 h_6) ?_
    refine ru_go (t := (149, [some (.inr (some a0)), some (.inl x1), some (.inl x2), some (.inl x3), some (.inl x4), some (.inl x5)], [.inl x3, .inl (sm_I M b_3 (x1).toNatClampNeg), .inl x1, .inr (some b_3)], M)) sm_a167_148 rfl rfl rfl ?_
    refine ru_go (t := (150, [some (.inr (some a0)), some (.inl x1), some (.inl x2), some (.inl x3), some (.inl x4), some (.inl x5)], [.inl ((sm_I M b_3 (x1).toNatClampNeg) + x3), .inl x1, .inr (some b_3)], M)) sm_a167_149 rfl rfl rfl ?_
    obtain ⟨h_7, h⟩ := h
    refine ru_go (t := (151, [some (.inr (some a0)), some (.inl x1), some (.inl x2), some (.inl x3), some (.inl x4), some (.inl x5)], [], sm_putI M b_3 (x1).toNatClampNeg ((sm_I M b_3 (x1).toNatClampNeg) + x3))) sm_a167_150 rfl rfl (st_iast h_7 h_6) ?_
    refine ru_go (t := (152, [some (.inr (some a0)), some (.inl x1), some (.inl x2), some (.inl x3), some (.inl x4), some (.inl x5)], [.inr (some a0)], sm_putI M b_3 (x1).toNatClampNeg ((sm_I M b_3 (x1).toNatClampNeg) + x3))) sm_a167_151 rfl rfl rfl ?_
    refine ru_go (t := (155, [some (.inr (some a0)), some (.inl x1), some (.inl x2), some (.inl x3), some (.inl x4), some (.inl x5)], [.inr (sm_R (sm_putI M b_3 (x1).toNatClampNeg ((sm_I M b_3 (x1).toNatClampNeg) + x3)) a0 23)], sm_putI M b_3 (x1).toNatClampNeg ((sm_I M b_3 (x1).toNatClampNeg) + x3))) sm_a167_152 rfl rfl (st_getR h_2 rfl rfl) ?_
    refine ru_go (t := (156, [some (.inr (some a0)), some (.inl x1), some (.inl x2), some (.inl x3), some (.inl x4), some (.inl x5)], [.inl x1, .inr (sm_R (sm_putI M b_3 (x1).toNatClampNeg ((sm_I M b_3 (x1).toNatClampNeg) + x3)) a0 23)], sm_putI M b_3 (x1).toNatClampNeg ((sm_I M b_3 (x1).toNatClampNeg) + x3))) sm_a167_155 rfl rfl rfl ?_
    refine ru_go (t := (157, [some (.inr (some a0)), some (.inl x1), some (.inl x2), some (.inl x3), some (.inl x4), some (.inl x5)], [.inl 1, .inl x1, .inr (sm_R (sm_putI M b_3 (x1).toNatClampNeg ((sm_I M b_3 (x1).toNatClampNeg) + x3)) a0 23)], sm_putI M b_3 (x1).toNatClampNeg ((sm_I M b_3 (x1).toNatClampNeg) + x3))) sm_a167_156 rfl rfl (st_iconst (by decide)) ?_
    refine ru_go (t := (158, [some (.inr (some a0)), some (.inl x1), some (.inl x2), some (.inl x3), some (.inl x4), some (.inl x5)], [.inr (some a0), .inl 1, .inl x1, .inr (sm_R (sm_putI M b_3 (x1).toNatClampNeg ((sm_I M b_3 (x1).toNatClampNeg) + x3)) a0 23)], sm_putI M b_3 (x1).toNatClampNeg ((sm_I M b_3 (x1).toNatClampNeg) + x3))) sm_a167_157 rfl rfl rfl ?_
    refine ru_go (t := (161, [some (.inr (some a0)), some (.inl x1), some (.inl x2), some (.inl x3), some (.inl x4), some (.inl x5)], [.inr (sm_R (sm_putI M b_3 (x1).toNatClampNeg ((sm_I M b_3 (x1).toNatClampNeg) + x3)) a0 23), .inl 1, .inl x1, .inr (sm_R (sm_putI M b_3 (x1).toNatClampNeg ((sm_I M b_3 (x1).toNatClampNeg) + x3)) a0 23)], sm_putI M b_3 (x1).toNatClampNeg ((sm_I M b_3 (x1).toNatClampNeg) + x3))) sm_a167_158 rfl rfl (st_getR h_2 rfl rfl) ?_
    refine ru_go (t := (162, [some (.inr (some a0)), some (.inl x1), some (.inl x2), some (.inl x3), some (.inl x4), some (.inl x5)], [.inl x1, .inr (sm_R (sm_putI M b_3 (x1).toNatClampNeg ((sm_I M b_3 (x1).toNatClampNeg) + x3)) a0 23), .inl 1, .inl x1, .inr (sm_R (sm_putI M b_3 (x1).toNatClampNeg ((sm_I M b_3 (x1).toNatClampNeg) + x3)) a0 23)], sm_putI M b_3 (x1).toNatClampNeg ((sm_I M b_3 (x1).toNatClampNeg) + x3))) sm_a167_161 rfl rfl rfl ?_
    obtain ⟨b_8, hb_9, h⟩ := h
    rw [hb_9]
    obtain ⟨h_10, h⟩ := h
    obtain ⟨h_11, h⟩ := h
    refine ru_go (t := (163, [some (.inr (some a0)), some (.inl x1), some (.inl x2), some (.inl x3), some (.inl x4), some (.inl x5)], [.inl (sm_I (sm_putI M b_3 (x1).toNatClampNeg ((sm_I M b_3 (x1).toNatClampNeg) + x3)) b_8 (x1).toNatClampNeg), .inl 1, .inl x1, .inr (some b_8)], sm_putI M b_3 (x1).toNatClampNeg ((sm_I M b_3 (x1).toNatClampNeg) + x3))) sm_a167_162 rfl rfl (st_iald h_10 h_11) ?_
    refine ru_go (t := (164, [some (.inr (some a0)), some (.inl x1), some (.inl x2), some (.inl x3), some (.inl x4), some (.inl x5)], [.inl (1 - (sm_I (sm_putI M b_3 (x1).toNatClampNeg ((sm_I M b_3 (x1).toNatClampNeg) + x3)) b_8 (x1).toNatClampNeg)), .inl x1, .inr (some b_8)], sm_putI M b_3 (x1).toNatClampNeg ((sm_I M b_3 (x1).toNatClampNeg) + x3))) sm_a167_163 rfl rfl rfl ?_
    obtain ⟨h_12, h⟩ := h
    refine ru_go (t := (165, [some (.inr (some a0)), some (.inl x1), some (.inl x2), some (.inl x3), some (.inl x4), some (.inl x5)], [], sm_putI (sm_putI M b_3 (x1).toNatClampNeg ((sm_I M b_3 (x1).toNatClampNeg) + x3)) b_8 (x1).toNatClampNeg (1 - (sm_I (sm_putI M b_3 (x1).toNatClampNeg ((sm_I M b_3 (x1).toNatClampNeg) + x3)) b_8 (x1).toNatClampNeg)))) sm_a167_164 rfl rfl (st_iast h_12 h_11) ?_
    refine ru_go (t := (166, [some (.inr (some a0)), some (.inl x1), some (.inl x2), some (.inl x3), some (.inl x4), some (.inl x5)], [.inr (some a0)], sm_putI (sm_putI M b_3 (x1).toNatClampNeg ((sm_I M b_3 (x1).toNatClampNeg) + x3)) b_8 (x1).toNatClampNeg (1 - (sm_I (sm_putI M b_3 (x1).toNatClampNeg ((sm_I M b_3 (x1).toNatClampNeg) + x3)) b_8 (x1).toNatClampNeg)))) sm_a167_165 rfl rfl rfl ?_
    refine ru_go (t := (167, [some (.inr (some a0)), some (.inl x1), some (.inl x2), some (.inl x3), some (.inl x4), some (.inl x5)], [.inl x1, .inr (some a0)], sm_putI (sm_putI M b_3 (x1).toNatClampNeg ((sm_I M b_3 (x1).toNatClampNeg) + x3)) b_8 (x1).toNatClampNeg (1 - (sm_I (sm_putI M b_3 (x1).toNatClampNeg ((sm_I M b_3 (x1).toNatClampNeg) + x3)) b_8 (x1).toNatClampNeg)))) sm_a167_166 rfl rfl rfl ?_
    refine ru_go (t := (168, [some (.inr (some a0)), some (.inl x1), some (.inl x2), some (.inl x3), some (.inl x4), some (.inl x5)], [.inl 2, .inl x1, .inr (some a0)], sm_putI (sm_putI M b_3 (x1).toNatClampNeg ((sm_I M b_3 (x1).toNatClampNeg) + x3)) b_8 (x1).toNatClampNeg (1 - (sm_I (sm_putI M b_3 (x1).toNatClampNeg ((sm_I M b_3 (x1).toNatClampNeg) + x3)) b_8 (x1).toNatClampNeg)))) sm_a167_167 rfl rfl (st_iconst (by decide)) ?_
    refine ru_go (t := (169, [some (.inr (some a0)), some (.inl x1), some (.inl x2), some (.inl x3), some (.inl x4), some (.inl x5)], [.inl 0, .inl 2, .inl x1, .inr (some a0)], sm_putI (sm_putI M b_3 (x1).toNatClampNeg ((sm_I M b_3 (x1).toNatClampNeg) + x3)) b_8 (x1).toNatClampNeg (1 - (sm_I (sm_putI M b_3 (x1).toNatClampNeg ((sm_I M b_3 (x1).toNatClampNeg) + x3)) b_8 (x1).toNatClampNeg)))) sm_a167_168 rfl rfl (st_iconst (by decide)) ?_
    exact ru_call (p := 172) sm_a167_169 rfl (sc_virt (Or.inl rfl) rfl rfl h_2 (Nat.le_of_ble_eq_true rfl)) rfl h
  · have h := h.2 hc_1
    refine ru_go (t := (102, [some (.inr (some a0)), some (.inl x1), some (.inl x2), some (.inl x3), some (.inl x4), some (.inl x5)], [.inr (some a0)], M)) sm_a167_101 rfl rfl rfl ?_
    obtain ⟨h_13, h⟩ := h
    refine ru_go (t := (105, [some (.inr (some a0)), some (.inl x1), some (.inl x2), some (.inl x3), some (.inl x4), some (.inl x5)], [.inr (sm_R M a0 29)], M)) sm_a167_102 rfl rfl (st_getR h_13 rfl rfl) ?_
    refine ru_go (t := (107, [some (.inr (some a0)), some (.inl x1), some (.inl x2), some (.inl x3), some (.inl x4), some (.inl x5)], [.inl 100, .inr (sm_R M a0 29)], M)) sm_a167_105 rfl rfl (st_bipush (by decide)) ?_
    refine ru_go (t := (108, [some (.inr (some a0)), some (.inl x1), some (.inl x2), some (.inl x3), some (.inl x4), some (.inl x5)], [.inl x1, .inl 100, .inr (sm_R M a0 29)], M)) sm_a167_107 rfl rfl rfl ?_
    refine ru_go (t := (109, [some (.inr (some a0)), some (.inl x1), some (.inl x2), some (.inl x3), some (.inl x4), some (.inl x5)], [.inl (100 * x1), .inr (sm_R M a0 29)], M)) sm_a167_108 rfl rfl rfl ?_
    refine ru_go (t := (110, [some (.inr (some a0)), some (.inl x1), some (.inl x2), some (.inl x3), some (.inl x4), some (.inl x5)], [.inr (some a0), .inl (100 * x1), .inr (sm_R M a0 29)], M)) sm_a167_109 rfl rfl rfl ?_
    refine ru_go (t := (113, [some (.inr (some a0)), some (.inl x1), some (.inl x2), some (.inl x3), some (.inl x4), some (.inl x5)], [.inr (sm_R M a0 26), .inl (100 * x1), .inr (sm_R M a0 29)], M)) sm_a167_110 rfl rfl (st_getR h_13 rfl rfl) ?_
    refine ru_go (t := (114, [some (.inr (some a0)), some (.inl x1), some (.inl x2), some (.inl x3), some (.inl x4), some (.inl x5)], [.inl x1, .inr (sm_R M a0 26), .inl (100 * x1), .inr (sm_R M a0 29)], M)) sm_a167_113 rfl rfl rfl ?_
    obtain ⟨b_14, hb_15, h⟩ := h
    rw [hb_15]
    obtain ⟨h_16, h⟩ := h
    obtain ⟨h_17, h⟩ := h
    refine ru_go (t := (115, [some (.inr (some a0)), some (.inl x1), some (.inl x2), some (.inl x3), some (.inl x4), some (.inl x5)], [.inl (sm_I M b_14 (x1).toNatClampNeg), .inl (100 * x1), .inr (sm_R M a0 29)], M)) sm_a167_114 rfl rfl (st_iald h_16 h_17) ?_
    refine ru_go (t := (116, [some (.inr (some a0)), some (.inl x1), some (.inl x2), some (.inl x3), some (.inl x4), some (.inl x5)], [.inl ((100 * x1) + (sm_I M b_14 (x1).toNatClampNeg)), .inr (sm_R M a0 29)], M)) sm_a167_115 rfl rfl rfl ?_
    refine ru_go (t := (118, [some (.inr (some a0)), some (.inl x1), some (.inl x2), some (.inl x3), some (.inl x4), some (.inl x5)], [.inl x5, .inl ((100 * x1) + (sm_I M b_14 (x1).toNatClampNeg)), .inr (sm_R M a0 29)], M)) sm_a167_116 rfl rfl rfl ?_
    refine ru_go (t := (119, [some (.inr (some a0)), some (.inl x1), some (.inl x2), some (.inl x3), some (.inl x4), some (.inl x5)], [.inl (((100 * x1) + (sm_I M b_14 (x1).toNatClampNeg)) + x5), .inr (sm_R M a0 29)], M)) sm_a167_118 rfl rfl rfl ?_
    refine ru_go (t := (120, [some (.inr (some a0)), some (.inl x1), some (.inl x2), some (.inl x3), some (.inl x4), some (.inl x5)], [.inr (some a0), .inl (((100 * x1) + (sm_I M b_14 (x1).toNatClampNeg)) + x5), .inr (sm_R M a0 29)], M)) sm_a167_119 rfl rfl rfl ?_
    refine ru_go (t := (123, [some (.inr (some a0)), some (.inl x1), some (.inl x2), some (.inl x3), some (.inl x4), some (.inl x5)], [.inr (sm_R M a0 42), .inl (((100 * x1) + (sm_I M b_14 (x1).toNatClampNeg)) + x5), .inr (sm_R M a0 29)], M)) sm_a167_120 rfl rfl (st_getR h_13 rfl rfl) ?_
    refine ru_go (t := (125, [some (.inr (some a0)), some (.inl x1), some (.inl x2), some (.inl x3), some (.inl x4), some (.inl x5)], [.inl 100, .inr (sm_R M a0 42), .inl (((100 * x1) + (sm_I M b_14 (x1).toNatClampNeg)) + x5), .inr (sm_R M a0 29)], M)) sm_a167_123 rfl rfl (st_bipush (by decide)) ?_
    refine ru_go (t := (126, [some (.inr (some a0)), some (.inl x1), some (.inl x2), some (.inl x3), some (.inl x4), some (.inl x5)], [.inr (some a0), .inl 100, .inr (sm_R M a0 42), .inl (((100 * x1) + (sm_I M b_14 (x1).toNatClampNeg)) + x5), .inr (sm_R M a0 29)], M)) sm_a167_125 rfl rfl rfl ?_
    refine ru_go (t := (129, [some (.inr (some a0)), some (.inl x1), some (.inl x2), some (.inl x3), some (.inl x4), some (.inl x5)], [.inl (sm_I M a0 50), .inl 100, .inr (sm_R M a0 42), .inl (((100 * x1) + (sm_I M b_14 (x1).toNatClampNeg)) + x5), .inr (sm_R M a0 29)], M)) sm_a167_126 rfl rfl (st_getI h_13 rfl) ?_
    refine ru_go (t := (130, [some (.inr (some a0)), some (.inl x1), some (.inl x2), some (.inl x3), some (.inl x4), some (.inl x5)], [.inl (100 * (sm_I M a0 50)), .inr (sm_R M a0 42), .inl (((100 * x1) + (sm_I M b_14 (x1).toNatClampNeg)) + x5), .inr (sm_R M a0 29)], M)) sm_a167_129 rfl rfl rfl ?_
    refine ru_go (t := (132, [some (.inr (some a0)), some (.inl x1), some (.inl x2), some (.inl x3), some (.inl x4), some (.inl x5)], [.inl x5, .inl (100 * (sm_I M a0 50)), .inr (sm_R M a0 42), .inl (((100 * x1) + (sm_I M b_14 (x1).toNatClampNeg)) + x5), .inr (sm_R M a0 29)], M)) sm_a167_130 rfl rfl rfl ?_
    refine ru_go (t := (133, [some (.inr (some a0)), some (.inl x1), some (.inl x2), some (.inl x3), some (.inl x4), some (.inl x5)], [.inl ((100 * (sm_I M a0 50)) + x5), .inr (sm_R M a0 42), .inl (((100 * x1) + (sm_I M b_14 (x1).toNatClampNeg)) + x5), .inr (sm_R M a0 29)], M)) sm_a167_132 rfl rfl rfl ?_
    obtain ⟨b_18, hb_19, h⟩ := h
    rw [hb_19]
    obtain ⟨h_20, h⟩ := h
    obtain ⟨h_21, h⟩ := h
    refine ru_go (t := (134, [some (.inr (some a0)), some (.inl x1), some (.inl x2), some (.inl x3), some (.inl x4), some (.inl x5)], [.inl (sm_I M b_18 ((100 * (sm_I M a0 50)) + x5).toNatClampNeg), .inl (((100 * x1) + (sm_I M b_14 (x1).toNatClampNeg)) + x5), .inr (sm_R M a0 29)], M)) sm_a167_133 rfl rfl (st_iald h_20 h_21) ?_
    obtain ⟨b_22, hb_23, h⟩ := h
    rw [hb_23]
    obtain ⟨h_24, h⟩ := h
    obtain ⟨h_25, h⟩ := h
    refine ru_go (t := (135, [some (.inr (some a0)), some (.inl x1), some (.inl x2), some (.inl x3), some (.inl x4), some (.inl x5)], [], sm_putI M b_22 (((100 * x1) + (sm_I M b_14 (x1).toNatClampNeg)) + x5).toNatClampNeg (sm_I M b_18 ((100 * (sm_I M a0 50)) + x5).toNatClampNeg))) sm_a167_134 rfl rfl (st_iast h_24 h_25) ?_
    refine ru_go (t := (138, [some (.inr (some a0)), some (.inl x1), some (.inl x2), some (.inl x3), some (.inl x4), some (.inl (x5 + 1))], [], sm_putI M b_22 (((100 * x1) + (sm_I M b_14 (x1).toNatClampNeg)) + x5).toNatClampNeg (sm_I M b_18 ((100 * (sm_I M a0 50)) + x5).toNatClampNeg))) sm_a167_135 rfl rfl (st_iinc rfl (by decide)) ?_
    refine ru_go (t := (95, [some (.inr (some a0)), some (.inl x1), some (.inl x2), some (.inl x3), some (.inl x4), some (.inl (x5 + 1))], [], sm_putI M b_22 (((100 * x1) + (sm_I M b_14 (x1).toNatClampNeg)) + x5).toNatClampNeg (sm_I M b_18 ((100 * (sm_I M a0 50)) + x5).toNatClampNeg))) sm_a167_138 rfl rfl (st_goto (pc := 138) (by decide)) ?_
    exact h
theorem bb_167_172 {d : Nat} {M : sm_M} {Q : Option sm_V → sm_M → Prop} {a0 : Nat} {x1 : Int32} {x2 : Int32} {x3 : Int32} {x4 : Int32} {x5 : Int32}
    (h : sm_K M a0 = 39 ∧ ∃ b_2, sm_R M a0 26 = some b_2 ∧ sm_iA M b_2 ∧ sm_in_ M b_2 x1 ∧ ∃ b_6, sm_R M a0 24 = some b_6 ∧ sm_iA M b_6 ∧ sm_in_ M b_6 x1 ∧ ((¬ (sm_I M b_2 (x1).toNatClampNeg) = (sm_I M b_6 (x1).toNatClampNeg) → Q none M) ∧ (¬ (¬ (sm_I M b_2 (x1).toNatClampNeg) = (sm_I M b_6 (x1).toNatClampNeg)) → ∃ b_11, sm_R M a0 21 = some b_11 ∧ sm_wA 1 M b_11 ∧ sm_in_ M b_11 x1 ∧ sm_Run (d + 1) 167 197 [some (.inr (some a0)), some (.inl x1), some (.inl x2), some (.inl x3), some (.inl x4), some (.inl 0)] [] (sm_putI M b_11 (x1).toNatClampNeg 4) Q))) :
    sm_Run (d + 1) 167 172 [some (.inr (some a0)), some (.inl x1), some (.inl x2), some (.inl x3), some (.inl x4), some (.inl x5)] [] M Q := by
  refine ru_go (t := (173, [some (.inr (some a0)), some (.inl x1), some (.inl x2), some (.inl x3), some (.inl x4), some (.inl x5)], [.inr (some a0)], M)) sm_a167_172 rfl rfl rfl ?_
  obtain ⟨h_1, h⟩ := h
  refine ru_go (t := (176, [some (.inr (some a0)), some (.inl x1), some (.inl x2), some (.inl x3), some (.inl x4), some (.inl x5)], [.inr (sm_R M a0 26)], M)) sm_a167_173 rfl rfl (st_getR h_1 rfl rfl) ?_
  refine ru_go (t := (177, [some (.inr (some a0)), some (.inl x1), some (.inl x2), some (.inl x3), some (.inl x4), some (.inl x5)], [.inl x1, .inr (sm_R M a0 26)], M)) sm_a167_176 rfl rfl rfl ?_
  obtain ⟨b_2, hb_3, h⟩ := h
  rw [hb_3]
  obtain ⟨h_4, h⟩ := h
  obtain ⟨h_5, h⟩ := h
  refine ru_go (t := (178, [some (.inr (some a0)), some (.inl x1), some (.inl x2), some (.inl x3), some (.inl x4), some (.inl x5)], [.inl (sm_I M b_2 (x1).toNatClampNeg)], M)) sm_a167_177 rfl rfl (st_iald h_4 h_5) ?_
  refine ru_go (t := (179, [some (.inr (some a0)), some (.inl x1), some (.inl x2), some (.inl x3), some (.inl x4), some (.inl x5)], [.inr (some a0), .inl (sm_I M b_2 (x1).toNatClampNeg)], M)) sm_a167_178 rfl rfl rfl ?_
  refine ru_go (t := (182, [some (.inr (some a0)), some (.inl x1), some (.inl x2), some (.inl x3), some (.inl x4), some (.inl x5)], [.inr (sm_R M a0 24), .inl (sm_I M b_2 (x1).toNatClampNeg)], M)) sm_a167_179 rfl rfl (st_getR h_1 rfl rfl) ?_
  refine ru_go (t := (183, [some (.inr (some a0)), some (.inl x1), some (.inl x2), some (.inl x3), some (.inl x4), some (.inl x5)], [.inl x1, .inr (sm_R M a0 24), .inl (sm_I M b_2 (x1).toNatClampNeg)], M)) sm_a167_182 rfl rfl rfl ?_
  obtain ⟨b_6, hb_7, h⟩ := h
  rw [hb_7]
  obtain ⟨h_8, h⟩ := h
  obtain ⟨h_9, h⟩ := h
  refine ru_go (t := (184, [some (.inr (some a0)), some (.inl x1), some (.inl x2), some (.inl x3), some (.inl x4), some (.inl x5)], [.inl (sm_I M b_6 (x1).toNatClampNeg), .inl (sm_I M b_2 (x1).toNatClampNeg)], M)) sm_a167_183 rfl rfl (st_iald h_8 h_9) ?_
  refine ru_icmp (pc := 184) (p := 328) (p2 := 187) sm_a167_184 (by decide) rfl ⟨fun hc_10 => ?_, fun hc_10 => ?_⟩
  · have h := h.1 hc_10
    exact ru_ret sm_a167_328 (sm_rvv rfl) h
  · have h := h.2 hc_10
    refine ru_go (t := (188, [some (.inr (some a0)), some (.inl x1), some (.inl x2), some (.inl x3), some (.inl x4), some (.inl x5)], [.inr (some a0)], M)) sm_a167_187 rfl rfl rfl ?_
    refine ru_go (t := (191, [some (.inr (some a0)), some (.inl x1), some (.inl x2), some (.inl x3), some (.inl x4), some (.inl x5)], [.inr (sm_R M a0 21)], M)) sm_a167_188 rfl rfl (st_getR h_1 rfl rfl) ?_
    refine ru_go (t := (192, [some (.inr (some a0)), some (.inl x1), some (.inl x2), some (.inl x3), some (.inl x4), some (.inl x5)], [.inl x1, .inr (sm_R M a0 21)], M)) sm_a167_191 rfl rfl rfl ?_
    refine ru_go (t := (193, [some (.inr (some a0)), some (.inl x1), some (.inl x2), some (.inl x3), some (.inl x4), some (.inl x5)], [.inl 4, .inl x1, .inr (sm_R M a0 21)], M)) sm_a167_192 rfl rfl (st_iconst (by decide)) ?_
    obtain ⟨b_11, hb_12, h⟩ := h
    rw [hb_12]
    obtain ⟨h_13, h⟩ := h
    obtain ⟨h_14, h⟩ := h
    refine ru_go (t := (194, [some (.inr (some a0)), some (.inl x1), some (.inl x2), some (.inl x3), some (.inl x4), some (.inl x5)], [], sm_putI M b_11 (x1).toNatClampNeg 4)) sm_a167_193 rfl rfl (st_iast h_13 h_14) ?_
    refine ru_go (t := (195, [some (.inr (some a0)), some (.inl x1), some (.inl x2), some (.inl x3), some (.inl x4), some (.inl x5)], [.inl 0], sm_putI M b_11 (x1).toNatClampNeg 4)) sm_a167_194 rfl rfl (st_iconst (by decide)) ?_
    refine ru_go (t := (197, [some (.inr (some a0)), some (.inl x1), some (.inl x2), some (.inl x3), some (.inl x4), some (.inl 0)], [], sm_putI M b_11 (x1).toNatClampNeg 4)) sm_a167_195 rfl rfl rfl ?_
    exact h
theorem bb_167_197 {d : Nat} {M : sm_M} {Q : Option sm_V → sm_M → Prop} {a0 : Nat} {x1 : Int32} {x2 : Int32} {x3 : Int32} {x4 : Int32} {x5 : Int32}
    (h : sm_K M a0 = 39 ∧ ∃ b_2, sm_R M a0 24 = some b_2 ∧ sm_iA M b_2 ∧ sm_in_ M b_2 x1 ∧ (((sm_I M b_2 (x1).toNatClampNeg) ≤ x5 → Q none M) ∧ (¬ ((sm_I M b_2 (x1).toNatClampNeg) ≤ x5) → ∃ b_7, sm_R M a0 31 = some b_7 ∧ sm_iA M b_7 ∧ sm_in_ M b_7 x1 ∧ ∃ b_11, sm_R M a0 29 = some b_11 ∧ sm_iA M b_11 ∧ sm_in_ M b_11 ((100 * x1) + x5) ∧ ∃ b_15, sm_R M a0 18 = some b_15 ∧ sm_wA 1 M b_15 ∧ sm_in_ M b_15 (((64 * x1) + (sm_I M b_7 (x1).toNatClampNeg)) + x5) ∧ sm_Run (d + 1) 167 197 [some (.inr (some a0)), some (.inl x1), some (.inl x2), some (.inl x3), some (.inl x4), some (.inl (x5 + 1))] [] (sm_putI M b_15 (((64 * x1) + (sm_I M b_7 (x1).toNatClampNeg)) + x5).toNatClampNeg (sm_I M b_11 ((100 * x1) + x5).toNatClampNeg)) Q))) :
    sm_Run (d + 1) 167 197 [some (.inr (some a0)), some (.inl x1), some (.inl x2), some (.inl x3), some (.inl x4), some (.inl x5)] [] M Q := by
  refine ru_go (t := (199, [some (.inr (some a0)), some (.inl x1), some (.inl x2), some (.inl x3), some (.inl x4), some (.inl x5)], [.inl x5], M)) sm_a167_197 rfl rfl rfl ?_
  refine ru_go (t := (200, [some (.inr (some a0)), some (.inl x1), some (.inl x2), some (.inl x3), some (.inl x4), some (.inl x5)], [.inr (some a0), .inl x5], M)) sm_a167_199 rfl rfl rfl ?_
  obtain ⟨h_1, h⟩ := h
  refine ru_go (t := (203, [some (.inr (some a0)), some (.inl x1), some (.inl x2), some (.inl x3), some (.inl x4), some (.inl x5)], [.inr (sm_R M a0 24), .inl x5], M)) sm_a167_200 rfl rfl (st_getR h_1 rfl rfl) ?_
  refine ru_go (t := (204, [some (.inr (some a0)), some (.inl x1), some (.inl x2), some (.inl x3), some (.inl x4), some (.inl x5)], [.inl x1, .inr (sm_R M a0 24), .inl x5], M)) sm_a167_203 rfl rfl rfl ?_
  obtain ⟨b_2, hb_3, h⟩ := h
  rw [hb_3]
  obtain ⟨h_4, h⟩ := h
  obtain ⟨h_5, h⟩ := h
  refine ru_go (t := (205, [some (.inr (some a0)), some (.inl x1), some (.inl x2), some (.inl x3), some (.inl x4), some (.inl x5)], [.inl (sm_I M b_2 (x1).toNatClampNeg), .inl x5], M)) sm_a167_204 rfl rfl (st_iald h_4 h_5) ?_
  refine ru_icmp (pc := 205) (p := 245) (p2 := 208) sm_a167_205 (by decide) rfl ⟨fun hc_6 => ?_, fun hc_6 => ?_⟩
  · have h := h.1 hc_6
    refine ru_go (t := (328, [some (.inr (some a0)), some (.inl x1), some (.inl x2), some (.inl x3), some (.inl x4), some (.inl x5)], [], M)) sm_a167_245 rfl rfl (st_goto (pc := 245) (by decide)) ?_
    exact ru_ret sm_a167_328 (sm_rvv rfl) h
  · have h := h.2 hc_6
    refine ru_go (t := (209, [some (.inr (some a0)), some (.inl x1), some (.inl x2), some (.inl x3), some (.inl x4), some (.inl x5)], [.inr (some a0)], M)) sm_a167_208 rfl rfl rfl ?_
    refine ru_go (t := (212, [some (.inr (some a0)), some (.inl x1), some (.inl x2), some (.inl x3), some (.inl x4), some (.inl x5)], [.inr (sm_R M a0 18)], M)) sm_a167_209 rfl rfl (st_getR h_1 rfl rfl) ?_
    refine ru_go (t := (214, [some (.inr (some a0)), some (.inl x1), some (.inl x2), some (.inl x3), some (.inl x4), some (.inl x5)], [.inl 64, .inr (sm_R M a0 18)], M)) sm_a167_212 rfl rfl (st_bipush (by decide)) ?_
    refine ru_go (t := (215, [some (.inr (some a0)), some (.inl x1), some (.inl x2), some (.inl x3), some (.inl x4), some (.inl x5)], [.inl x1, .inl 64, .inr (sm_R M a0 18)], M)) sm_a167_214 rfl rfl rfl ?_
    refine ru_go (t := (216, [some (.inr (some a0)), some (.inl x1), some (.inl x2), some (.inl x3), some (.inl x4), some (.inl x5)], [.inl (64 * x1), .inr (sm_R M a0 18)], M)) sm_a167_215 rfl rfl rfl ?_
    refine ru_go (t := (217, [some (.inr (some a0)), some (.inl x1), some (.inl x2), some (.inl x3), some (.inl x4), some (.inl x5)], [.inr (some a0), .inl (64 * x1), .inr (sm_R M a0 18)], M)) sm_a167_216 rfl rfl rfl ?_
    refine ru_go (t := (220, [some (.inr (some a0)), some (.inl x1), some (.inl x2), some (.inl x3), some (.inl x4), some (.inl x5)], [.inr (sm_R M a0 31), .inl (64 * x1), .inr (sm_R M a0 18)], M)) sm_a167_217 rfl rfl (st_getR h_1 rfl rfl) ?_
    refine ru_go (t := (221, [some (.inr (some a0)), some (.inl x1), some (.inl x2), some (.inl x3), some (.inl x4), some (.inl x5)], [.inl x1, .inr (sm_R M a0 31), .inl (64 * x1), .inr (sm_R M a0 18)], M)) sm_a167_220 rfl rfl rfl ?_
    obtain ⟨b_7, hb_8, h⟩ := h
    rw [hb_8]
    obtain ⟨h_9, h⟩ := h
    obtain ⟨h_10, h⟩ := h
    refine ru_go (t := (222, [some (.inr (some a0)), some (.inl x1), some (.inl x2), some (.inl x3), some (.inl x4), some (.inl x5)], [.inl (sm_I M b_7 (x1).toNatClampNeg), .inl (64 * x1), .inr (sm_R M a0 18)], M)) sm_a167_221 rfl rfl (st_iald h_9 h_10) ?_
    refine ru_go (t := (223, [some (.inr (some a0)), some (.inl x1), some (.inl x2), some (.inl x3), some (.inl x4), some (.inl x5)], [.inl ((64 * x1) + (sm_I M b_7 (x1).toNatClampNeg)), .inr (sm_R M a0 18)], M)) sm_a167_222 rfl rfl rfl ?_
    refine ru_go (t := (225, [some (.inr (some a0)), some (.inl x1), some (.inl x2), some (.inl x3), some (.inl x4), some (.inl x5)], [.inl x5, .inl ((64 * x1) + (sm_I M b_7 (x1).toNatClampNeg)), .inr (sm_R M a0 18)], M)) sm_a167_223 rfl rfl rfl ?_
    refine ru_go (t := (226, [some (.inr (some a0)), some (.inl x1), some (.inl x2), some (.inl x3), some (.inl x4), some (.inl x5)], [.inl (((64 * x1) + (sm_I M b_7 (x1).toNatClampNeg)) + x5), .inr (sm_R M a0 18)], M)) sm_a167_225 rfl rfl rfl ?_
    refine ru_go (t := (227, [some (.inr (some a0)), some (.inl x1), some (.inl x2), some (.inl x3), some (.inl x4), some (.inl x5)], [.inr (some a0), .inl (((64 * x1) + (sm_I M b_7 (x1).toNatClampNeg)) + x5), .inr (sm_R M a0 18)], M)) sm_a167_226 rfl rfl rfl ?_
    refine ru_go (t := (230, [some (.inr (some a0)), some (.inl x1), some (.inl x2), some (.inl x3), some (.inl x4), some (.inl x5)], [.inr (sm_R M a0 29), .inl (((64 * x1) + (sm_I M b_7 (x1).toNatClampNeg)) + x5), .inr (sm_R M a0 18)], M)) sm_a167_227 rfl rfl (st_getR h_1 rfl rfl) ?_
    refine ru_go (t := (232, [some (.inr (some a0)), some (.inl x1), some (.inl x2), some (.inl x3), some (.inl x4), some (.inl x5)], [.inl 100, .inr (sm_R M a0 29), .inl (((64 * x1) + (sm_I M b_7 (x1).toNatClampNeg)) + x5), .inr (sm_R M a0 18)], M)) sm_a167_230 rfl rfl (st_bipush (by decide)) ?_
    refine ru_go (t := (233, [some (.inr (some a0)), some (.inl x1), some (.inl x2), some (.inl x3), some (.inl x4), some (.inl x5)], [.inl x1, .inl 100, .inr (sm_R M a0 29), .inl (((64 * x1) + (sm_I M b_7 (x1).toNatClampNeg)) + x5), .inr (sm_R M a0 18)], M)) sm_a167_232 rfl rfl rfl ?_
    refine ru_go (t := (234, [some (.inr (some a0)), some (.inl x1), some (.inl x2), some (.inl x3), some (.inl x4), some (.inl x5)], [.inl (100 * x1), .inr (sm_R M a0 29), .inl (((64 * x1) + (sm_I M b_7 (x1).toNatClampNeg)) + x5), .inr (sm_R M a0 18)], M)) sm_a167_233 rfl rfl rfl ?_
    refine ru_go (t := (236, [some (.inr (some a0)), some (.inl x1), some (.inl x2), some (.inl x3), some (.inl x4), some (.inl x5)], [.inl x5, .inl (100 * x1), .inr (sm_R M a0 29), .inl (((64 * x1) + (sm_I M b_7 (x1).toNatClampNeg)) + x5), .inr (sm_R M a0 18)], M)) sm_a167_234 rfl rfl rfl ?_
    refine ru_go (t := (237, [some (.inr (some a0)), some (.inl x1), some (.inl x2), some (.inl x3), some (.inl x4), some (.inl x5)], [.inl ((100 * x1) + x5), .inr (sm_R M a0 29), .inl (((64 * x1) + (sm_I M b_7 (x1).toNatClampNeg)) + x5), .inr (sm_R M a0 18)], M)) sm_a167_236 rfl rfl rfl ?_
    obtain ⟨b_11, hb_12, h⟩ := h
    rw [hb_12]
    obtain ⟨h_13, h⟩ := h
    obtain ⟨h_14, h⟩ := h
    refine ru_go (t := (238, [some (.inr (some a0)), some (.inl x1), some (.inl x2), some (.inl x3), some (.inl x4), some (.inl x5)], [.inl (sm_I M b_11 ((100 * x1) + x5).toNatClampNeg), .inl (((64 * x1) + (sm_I M b_7 (x1).toNatClampNeg)) + x5), .inr (sm_R M a0 18)], M)) sm_a167_237 rfl rfl (st_iald h_13 h_14) ?_
    obtain ⟨b_15, hb_16, h⟩ := h
    rw [hb_16]
    obtain ⟨h_17, h⟩ := h
    obtain ⟨h_18, h⟩ := h
    refine ru_go (t := (239, [some (.inr (some a0)), some (.inl x1), some (.inl x2), some (.inl x3), some (.inl x4), some (.inl x5)], [], sm_putI M b_15 (((64 * x1) + (sm_I M b_7 (x1).toNatClampNeg)) + x5).toNatClampNeg (sm_I M b_11 ((100 * x1) + x5).toNatClampNeg))) sm_a167_238 rfl rfl (st_iast h_17 h_18) ?_
    refine ru_go (t := (242, [some (.inr (some a0)), some (.inl x1), some (.inl x2), some (.inl x3), some (.inl x4), some (.inl (x5 + 1))], [], sm_putI M b_15 (((64 * x1) + (sm_I M b_7 (x1).toNatClampNeg)) + x5).toNatClampNeg (sm_I M b_11 ((100 * x1) + x5).toNatClampNeg))) sm_a167_239 rfl rfl (st_iinc rfl (by decide)) ?_
    refine ru_go (t := (197, [some (.inr (some a0)), some (.inl x1), some (.inl x2), some (.inl x3), some (.inl x4), some (.inl (x5 + 1))], [], sm_putI M b_15 (((64 * x1) + (sm_I M b_7 (x1).toNatClampNeg)) + x5).toNatClampNeg (sm_I M b_11 ((100 * x1) + x5).toNatClampNeg))) sm_a167_242 rfl rfl (st_goto (pc := 242) (by decide)) ?_
    exact h
theorem bb_167_269 {d : Nat} {M : sm_M} {Q : Option sm_V → sm_M → Prop} {a0 : Nat} {x1 : Int32} {x2 : Int32} {x3 : Int32} {x4 : Int32} {z5 : Option sm_V}
    (h : ((¬ x2 = 1 → sm_K M a0 = 39 ∧ sm_Run d 166 0 (sm_ent 166 [.inr (some a0), .inl x1]) [] M (fun v M1 => sm_Run (d + 1) 167 300 [some (.inr (some a0)), some (.inl x1), some (.inl x2), some (.inl x3), some (.inl x4), z5] (v.toList ++ []) M1 Q)) ∧ (¬ (¬ x2 = 1) → ((¬ x3 = 0 → sm_K M a0 = 39 ∧ sm_Run d 166 0 (sm_ent 166 [.inr (some a0), .inl x1]) [] M (fun v M1 => sm_Run (d + 1) 167 300 [some (.inr (some a0)), some (.inl x1), some (.inl x2), some (.inl x3), some (.inl x4), z5] (v.toList ++ []) M1 Q)) ∧ (¬ (¬ x3 = 0) → sm_K M a0 = 39 ∧ ∃ b_6, sm_R M a0 21 = some b_6 ∧ sm_wA 1 M b_6 ∧ sm_in_ M b_6 x1 ∧ sm_Run d 160 0 (sm_ent 160 [.inr (some a0), .inl x1, .inl 2, .inl 0]) [] (sm_putI M b_6 (x1).toNatClampNeg 5) (fun v M1 => sm_Run (d + 1) 167 292 [some (.inr (some a0)), some (.inl x1), some (.inl x2), some (.inl x3), some (.inl x4), z5] (v.toList ++ []) M1 Q)))))) :
    sm_Run (d + 1) 167 269 [some (.inr (some a0)), some (.inl x1), some (.inl x2), some (.inl x3), some (.inl x4), z5] [] M Q := by
  refine ru_go (t := (270, [some (.inr (some a0)), some (.inl x1), some (.inl x2), some (.inl x3), some (.inl x4), z5], [.inl x2], M)) sm_a167_269 rfl rfl rfl ?_
  refine ru_go (t := (271, [some (.inr (some a0)), some (.inl x1), some (.inl x2), some (.inl x3), some (.inl x4), z5], [.inl 1, .inl x2], M)) sm_a167_270 rfl rfl (st_iconst (by decide)) ?_
  refine ru_icmp (pc := 271) (p := 295) (p2 := 274) sm_a167_271 (by decide) rfl ⟨fun hc_1 => ?_, fun hc_1 => ?_⟩
  · have h := h.1 hc_1
    refine ru_go (t := (296, [some (.inr (some a0)), some (.inl x1), some (.inl x2), some (.inl x3), some (.inl x4), z5], [.inr (some a0)], M)) sm_a167_295 rfl rfl rfl ?_
    refine ru_go (t := (297, [some (.inr (some a0)), some (.inl x1), some (.inl x2), some (.inl x3), some (.inl x4), z5], [.inl x1, .inr (some a0)], M)) sm_a167_296 rfl rfl rfl ?_
    obtain ⟨h_2, h⟩ := h
    exact ru_call (p := 300) sm_a167_297 rfl (sc_virt (Or.inl rfl) rfl rfl h_2 (Nat.le_of_ble_eq_true rfl)) rfl h
  · have h := h.2 hc_1
    refine ru_go (t := (275, [some (.inr (some a0)), some (.inl x1), some (.inl x2), some (.inl x3), some (.inl x4), z5], [.inl x3], M)) sm_a167_274 rfl rfl rfl ?_
    refine ru_if (pc := 275) (p := 295) (p2 := 278) sm_a167_275 (by decide) rfl ⟨fun hc_3 => ?_, fun hc_3 => ?_⟩
    · have h := h.1 hc_3
      refine ru_go (t := (296, [some (.inr (some a0)), some (.inl x1), some (.inl x2), some (.inl x3), some (.inl x4), z5], [.inr (some a0)], M)) sm_a167_295 rfl rfl rfl ?_
      refine ru_go (t := (297, [some (.inr (some a0)), some (.inl x1), some (.inl x2), some (.inl x3), some (.inl x4), z5], [.inl x1, .inr (some a0)], M)) sm_a167_296 rfl rfl rfl ?_
      obtain ⟨h_4, h⟩ := h
      exact ru_call (p := 300) sm_a167_297 rfl (sc_virt (Or.inl rfl) rfl rfl h_4 (Nat.le_of_ble_eq_true rfl)) rfl h
    · have h := h.2 hc_3
      refine ru_go (t := (279, [some (.inr (some a0)), some (.inl x1), some (.inl x2), some (.inl x3), some (.inl x4), z5], [.inr (some a0)], M)) sm_a167_278 rfl rfl rfl ?_
      obtain ⟨h_5, h⟩ := h
      refine ru_go (t := (282, [some (.inr (some a0)), some (.inl x1), some (.inl x2), some (.inl x3), some (.inl x4), z5], [.inr (sm_R M a0 21)], M)) sm_a167_279 rfl rfl (st_getR h_5 rfl rfl) ?_
      refine ru_go (t := (283, [some (.inr (some a0)), some (.inl x1), some (.inl x2), some (.inl x3), some (.inl x4), z5], [.inl x1, .inr (sm_R M a0 21)], M)) sm_a167_282 rfl rfl rfl ?_
      refine ru_go (t := (284, [some (.inr (some a0)), some (.inl x1), some (.inl x2), some (.inl x3), some (.inl x4), z5], [.inl 5, .inl x1, .inr (sm_R M a0 21)], M)) sm_a167_283 rfl rfl (st_iconst (by decide)) ?_
      obtain ⟨b_6, hb_7, h⟩ := h
      rw [hb_7]
      obtain ⟨h_8, h⟩ := h
      obtain ⟨h_9, h⟩ := h
      refine ru_go (t := (285, [some (.inr (some a0)), some (.inl x1), some (.inl x2), some (.inl x3), some (.inl x4), z5], [], sm_putI M b_6 (x1).toNatClampNeg 5)) sm_a167_284 rfl rfl (st_iast h_8 h_9) ?_
      refine ru_go (t := (286, [some (.inr (some a0)), some (.inl x1), some (.inl x2), some (.inl x3), some (.inl x4), z5], [.inr (some a0)], sm_putI M b_6 (x1).toNatClampNeg 5)) sm_a167_285 rfl rfl rfl ?_
      refine ru_go (t := (287, [some (.inr (some a0)), some (.inl x1), some (.inl x2), some (.inl x3), some (.inl x4), z5], [.inl x1, .inr (some a0)], sm_putI M b_6 (x1).toNatClampNeg 5)) sm_a167_286 rfl rfl rfl ?_
      refine ru_go (t := (288, [some (.inr (some a0)), some (.inl x1), some (.inl x2), some (.inl x3), some (.inl x4), z5], [.inl 2, .inl x1, .inr (some a0)], sm_putI M b_6 (x1).toNatClampNeg 5)) sm_a167_287 rfl rfl (st_iconst (by decide)) ?_
      refine ru_go (t := (289, [some (.inr (some a0)), some (.inl x1), some (.inl x2), some (.inl x3), some (.inl x4), z5], [.inl 0, .inl 2, .inl x1, .inr (some a0)], sm_putI M b_6 (x1).toNatClampNeg 5)) sm_a167_288 rfl rfl (st_iconst (by decide)) ?_
      exact ru_call (p := 292) sm_a167_289 rfl (sc_virt (Or.inl rfl) rfl rfl h_5 (Nat.le_of_ble_eq_true rfl)) rfl h
theorem bb_167_292 {d : Nat} {M : sm_M} {Q : Option sm_V → sm_M → Prop} {a0 : Nat} {x1 : Int32} {x2 : Int32} {x3 : Int32} {x4 : Int32} {z5 : Option sm_V}
    (h : Q none M) :
    sm_Run (d + 1) 167 292 [some (.inr (some a0)), some (.inl x1), some (.inl x2), some (.inl x3), some (.inl x4), z5] [] M Q := by
  refine ru_go (t := (328, [some (.inr (some a0)), some (.inl x1), some (.inl x2), some (.inl x3), some (.inl x4), z5], [], M)) sm_a167_292 rfl rfl (st_goto (pc := 292) (by decide)) ?_
  exact ru_ret sm_a167_328 (sm_rvv rfl) h
theorem bb_167_300 {d : Nat} {M : sm_M} {Q : Option sm_V → sm_M → Prop} {a0 : Nat} {x1 : Int32} {x2 : Int32} {x3 : Int32} {x4 : Int32} {z5 : Option sm_V}
    (h : Q none M) :
    sm_Run (d + 1) 167 300 [some (.inr (some a0)), some (.inl x1), some (.inl x2), some (.inl x3), some (.inl x4), z5] [] M Q := by
  refine ru_go (t := (328, [some (.inr (some a0)), some (.inl x1), some (.inl x2), some (.inl x3), some (.inl x4), z5], [], M)) sm_a167_300 rfl rfl (st_goto (pc := 300) (by decide)) ?_
  exact ru_ret sm_a167_328 (sm_rvv rfl) h
theorem bb_167_303 {d : Nat} {M : sm_M} {Q : Option sm_V → sm_M → Prop} {a0 : Nat} {x1 : Int32} {x2 : Int32} {x3 : Int32} {x4 : Int32} {z5 : Option sm_V}
    (h : sm_K M a0 = 39 ∧ ∃ b_2, sm_R M a0 23 = some b_2 ∧ sm_iA M b_2 ∧ sm_in_ M b_2 x1 ∧ ((x2 = (sm_I M b_2 (x1).toNatClampNeg) → sm_Run d 166 0 (sm_ent 166 [.inr (some a0), .inl x1]) [] M (fun v M1 => sm_Run (d + 1) 167 328 [some (.inr (some a0)), some (.inl x1), some (.inl x2), some (.inl x3), some (.inl x4), z5] (v.toList ++ []) M1 Q)) ∧ (¬ (x2 = (sm_I M b_2 (x1).toNatClampNeg)) → sm_Run d 160 0 (sm_ent 160 [.inr (some a0), .inl x1, .inl 2, .inl 0]) [] M (fun v M1 => sm_Run (d + 1) 167 320 [some (.inr (some a0)), some (.inl x1), some (.inl x2), some (.inl x3), some (.inl x4), z5] (v.toList ++ []) M1 Q)))) :
    sm_Run (d + 1) 167 303 [some (.inr (some a0)), some (.inl x1), some (.inl x2), some (.inl x3), some (.inl x4), z5] [] M Q := by
  refine ru_go (t := (304, [some (.inr (some a0)), some (.inl x1), some (.inl x2), some (.inl x3), some (.inl x4), z5], [.inl x2], M)) sm_a167_303 rfl rfl rfl ?_
  refine ru_go (t := (305, [some (.inr (some a0)), some (.inl x1), some (.inl x2), some (.inl x3), some (.inl x4), z5], [.inr (some a0), .inl x2], M)) sm_a167_304 rfl rfl rfl ?_
  obtain ⟨h_1, h⟩ := h
  refine ru_go (t := (308, [some (.inr (some a0)), some (.inl x1), some (.inl x2), some (.inl x3), some (.inl x4), z5], [.inr (sm_R M a0 23), .inl x2], M)) sm_a167_305 rfl rfl (st_getR h_1 rfl rfl) ?_
  refine ru_go (t := (309, [some (.inr (some a0)), some (.inl x1), some (.inl x2), some (.inl x3), some (.inl x4), z5], [.inl x1, .inr (sm_R M a0 23), .inl x2], M)) sm_a167_308 rfl rfl rfl ?_
  obtain ⟨b_2, hb_3, h⟩ := h
  rw [hb_3]
  obtain ⟨h_4, h⟩ := h
  obtain ⟨h_5, h⟩ := h
  refine ru_go (t := (310, [some (.inr (some a0)), some (.inl x1), some (.inl x2), some (.inl x3), some (.inl x4), z5], [.inl (sm_I M b_2 (x1).toNatClampNeg), .inl x2], M)) sm_a167_309 rfl rfl (st_iald h_4 h_5) ?_
  refine ru_icmp (pc := 310) (p := 323) (p2 := 313) sm_a167_310 (by decide) rfl ⟨fun hc_6 => ?_, fun hc_6 => ?_⟩
  · have h := h.1 hc_6
    refine ru_go (t := (324, [some (.inr (some a0)), some (.inl x1), some (.inl x2), some (.inl x3), some (.inl x4), z5], [.inr (some a0)], M)) sm_a167_323 rfl rfl rfl ?_
    refine ru_go (t := (325, [some (.inr (some a0)), some (.inl x1), some (.inl x2), some (.inl x3), some (.inl x4), z5], [.inl x1, .inr (some a0)], M)) sm_a167_324 rfl rfl rfl ?_
    exact ru_call (p := 328) sm_a167_325 rfl (sc_virt (Or.inl rfl) rfl rfl h_1 (Nat.le_of_ble_eq_true rfl)) rfl h
  · have h := h.2 hc_6
    refine ru_go (t := (314, [some (.inr (some a0)), some (.inl x1), some (.inl x2), some (.inl x3), some (.inl x4), z5], [.inr (some a0)], M)) sm_a167_313 rfl rfl rfl ?_
    refine ru_go (t := (315, [some (.inr (some a0)), some (.inl x1), some (.inl x2), some (.inl x3), some (.inl x4), z5], [.inl x1, .inr (some a0)], M)) sm_a167_314 rfl rfl rfl ?_
    refine ru_go (t := (316, [some (.inr (some a0)), some (.inl x1), some (.inl x2), some (.inl x3), some (.inl x4), z5], [.inl 2, .inl x1, .inr (some a0)], M)) sm_a167_315 rfl rfl (st_iconst (by decide)) ?_
    refine ru_go (t := (317, [some (.inr (some a0)), some (.inl x1), some (.inl x2), some (.inl x3), some (.inl x4), z5], [.inl 0, .inl 2, .inl x1, .inr (some a0)], M)) sm_a167_316 rfl rfl (st_iconst (by decide)) ?_
    exact ru_call (p := 320) sm_a167_317 rfl (sc_virt (Or.inl rfl) rfl rfl h_1 (Nat.le_of_ble_eq_true rfl)) rfl h
theorem bb_167_320 {d : Nat} {M : sm_M} {Q : Option sm_V → sm_M → Prop} {a0 : Nat} {x1 : Int32} {x2 : Int32} {x3 : Int32} {x4 : Int32} {z5 : Option sm_V}
    (h : Q none M) :
    sm_Run (d + 1) 167 320 [some (.inr (some a0)), some (.inl x1), some (.inl x2), some (.inl x3), some (.inl x4), z5] [] M Q := by
  refine ru_go (t := (328, [some (.inr (some a0)), some (.inl x1), some (.inl x2), some (.inl x3), some (.inl x4), z5], [], M)) sm_a167_320 rfl rfl (st_goto (pc := 320) (by decide)) ?_
  exact ru_ret sm_a167_328 (sm_rvv rfl) h
theorem bb_167_328 {d : Nat} {M : sm_M} {Q : Option sm_V → sm_M → Prop} {a0 : Nat} {x1 : Int32} {x2 : Int32} {x3 : Int32} {x4 : Int32} {z5 : Option sm_V}
    (h : Q none M) :
    sm_Run (d + 1) 167 328 [some (.inr (some a0)), some (.inl x1), some (.inl x2), some (.inl x3), some (.inl x4), z5] [] M Q := by
  exact ru_ret sm_a167_328 (sm_rvv rfl) h

/-! WireBusModel.byteAt:(I)I -/
theorem sm_a168_0 : sm_at 168 0 = some (.aload_n 0, 1, (0, 0, 0, 0)) := by decide +kernel
theorem sm_a168_1 : sm_at 168 1 = some (.getfield 125, 3, (12, 42, 0, 1225)) := by decide +kernel
theorem sm_a168_4 : sm_at 168 4 = some (.bipush 100, 2, (0, 0, 0, 0)) := by decide +kernel
theorem sm_a168_6 : sm_at 168 6 = some (.aload_n 0, 1, (0, 0, 0, 0)) := by decide +kernel
theorem sm_a168_7 : sm_at 168 7 = some (.getfield 266, 3, (12, 50, 0, 1233)) := by decide +kernel
theorem sm_a168_10 : sm_at 168 10 = some (.imul, 1, (0, 0, 0, 0)) := by decide +kernel
theorem sm_a168_11 : sm_at 168 11 = some (.iload_n 1, 1, (0, 0, 0, 0)) := by decide +kernel
theorem sm_a168_12 : sm_at 168 12 = some (.iadd, 1, (0, 0, 0, 0)) := by decide +kernel
theorem sm_a168_13 : sm_at 168 13 = some (.iaload, 1, (0, 0, 0, 0)) := by decide +kernel
theorem sm_a168_14 : sm_at 168 14 = some (.ireturn, 1, (0, 0, 0, 0)) := by decide +kernel
theorem bb_168_0 {d : Nat} {M : sm_M} {Q : Option sm_V → sm_M → Prop} {a0 : Nat} {x1 : Int32}
    (h : sm_K M a0 = 39 ∧ ∃ b_2, sm_R M a0 42 = some b_2 ∧ sm_iA M b_2 ∧ sm_in_ M b_2 ((100 * (sm_I M a0 50)) + x1) ∧ Q (some (.inl (sm_I M b_2 ((100 * (sm_I M a0 50)) + x1).toNatClampNeg))) M) :
    sm_Run d 168 0 [some (.inr (some a0)), some (.inl x1)] [] M Q := by
  refine ru_go (t := (1, [some (.inr (some a0)), some (.inl x1)], [.inr (some a0)], M)) sm_a168_0 rfl rfl rfl ?_
  obtain ⟨h_1, h⟩ := h
  refine ru_go (t := (4, [some (.inr (some a0)), some (.inl x1)], [.inr (sm_R M a0 42)], M)) sm_a168_1 rfl rfl (st_getR h_1 rfl rfl) ?_
  refine ru_go (t := (6, [some (.inr (some a0)), some (.inl x1)], [.inl 100, .inr (sm_R M a0 42)], M)) sm_a168_4 rfl rfl (st_bipush (by decide)) ?_
  refine ru_go (t := (7, [some (.inr (some a0)), some (.inl x1)], [.inr (some a0), .inl 100, .inr (sm_R M a0 42)], M)) sm_a168_6 rfl rfl rfl ?_
  refine ru_go (t := (10, [some (.inr (some a0)), some (.inl x1)], [.inl (sm_I M a0 50), .inl 100, .inr (sm_R M a0 42)], M)) sm_a168_7 rfl rfl (st_getI h_1 rfl) ?_
  refine ru_go (t := (11, [some (.inr (some a0)), some (.inl x1)], [.inl (100 * (sm_I M a0 50)), .inr (sm_R M a0 42)], M)) sm_a168_10 rfl rfl rfl ?_
  refine ru_go (t := (12, [some (.inr (some a0)), some (.inl x1)], [.inl x1, .inl (100 * (sm_I M a0 50)), .inr (sm_R M a0 42)], M)) sm_a168_11 rfl rfl rfl ?_
  refine ru_go (t := (13, [some (.inr (some a0)), some (.inl x1)], [.inl ((100 * (sm_I M a0 50)) + x1), .inr (sm_R M a0 42)], M)) sm_a168_12 rfl rfl rfl ?_
  obtain ⟨b_2, hb_3, h⟩ := h
  rw [hb_3]
  obtain ⟨h_4, h⟩ := h
  obtain ⟨h_5, h⟩ := h
  refine ru_go (t := (14, [some (.inr (some a0)), some (.inl x1)], [.inl (sm_I M b_2 ((100 * (sm_I M a0 50)) + x1).toNatClampNeg)], M)) sm_a168_13 rfl rfl (st_iald h_4 h_5) ?_
  exact ru_ret sm_a168_14 rfl h

/-! WireBusModel.zPut:(II)V -/
theorem sm_a169_0 : sm_at 169 0 = some (.aload_n 0, 1, (0, 0, 0, 0)) := by decide +kernel
theorem sm_a169_1 : sm_at 169 1 = some (.getfield 92, 3, (12, 29, 0, 1212)) := by decide +kernel
theorem sm_a169_4 : sm_at 169 4 = some (.bipush 100, 2, (0, 0, 0, 0)) := by decide +kernel
theorem sm_a169_6 : sm_at 169 6 = some (.iload_n 1, 1, (0, 0, 0, 0)) := by decide +kernel
theorem sm_a169_7 : sm_at 169 7 = some (.imul, 1, (0, 0, 0, 0)) := by decide +kernel
theorem sm_a169_8 : sm_at 169 8 = some (.aload_n 0, 1, (0, 0, 0, 0)) := by decide +kernel
theorem sm_a169_9 : sm_at 169 9 = some (.getfield 80, 3, (12, 25, 0, 1208)) := by decide +kernel
theorem sm_a169_12 : sm_at 169 12 = some (.iload_n 1, 1, (0, 0, 0, 0)) := by decide +kernel
theorem sm_a169_13 : sm_at 169 13 = some (.iaload, 1, (0, 0, 0, 0)) := by decide +kernel
theorem sm_a169_14 : sm_at 169 14 = some (.iadd, 1, (0, 0, 0, 0)) := by decide +kernel
theorem sm_a169_15 : sm_at 169 15 = some (.iload_n 2, 1, (0, 0, 0, 0)) := by decide +kernel
theorem sm_a169_16 : sm_at 169 16 = some (.iastore, 1, (1, 0, 0, 0)) := by decide +kernel
theorem sm_a169_17 : sm_at 169 17 = some (.aload_n 0, 1, (0, 0, 0, 0)) := by decide +kernel
theorem sm_a169_18 : sm_at 169 18 = some (.getfield 80, 3, (12, 25, 0, 1208)) := by decide +kernel
theorem sm_a169_21 : sm_at 169 21 = some (.iload_n 1, 1, (0, 0, 0, 0)) := by decide +kernel
theorem sm_a169_22 : sm_at 169 22 = some (.dup2, 1, (0, 0, 0, 0)) := by decide +kernel
theorem sm_a169_23 : sm_at 169 23 = some (.iaload, 1, (0, 0, 0, 0)) := by decide +kernel
theorem sm_a169_24 : sm_at 169 24 = some (.iconst 1, 1, (0, 0, 0, 0)) := by decide +kernel
theorem sm_a169_25 : sm_at 169 25 = some (.iadd, 1, (0, 0, 0, 0)) := by decide +kernel
theorem sm_a169_26 : sm_at 169 26 = some (.iastore, 1, (1, 0, 0, 0)) := by decide +kernel
theorem sm_a169_27 : sm_at 169 27 = some (.return_, 1, (0, 0, 0, 0)) := by decide +kernel
theorem bb_169_0 {d : Nat} {M : sm_M} {Q : Option sm_V → sm_M → Prop} {a0 : Nat} {x1 : Int32} {x2 : Int32}
    (h : sm_K M a0 = 39 ∧ ∃ b_2, sm_R M a0 25 = some b_2 ∧ sm_iA M b_2 ∧ sm_in_ M b_2 x1 ∧ ∃ b_6, sm_R M a0 29 = some b_6 ∧ sm_wA 1 M b_6 ∧ sm_in_ M b_6 ((100 * x1) + (sm_I M b_2 (x1).toNatClampNeg)) ∧ ∃ b_10, sm_R (sm_putI M b_6 ((100 * x1) + (sm_I M b_2 (x1).toNatClampNeg)).toNatClampNeg x2) a0 25 = some b_10 ∧ sm_iA M b_10 ∧ sm_in_ M b_10 x1 ∧ sm_wA 1 M b_10 ∧ Q none (sm_putI (sm_putI M b_6 ((100 * x1) + (sm_I M b_2 (x1).toNatClampNeg)).toNatClampNeg x2) b_10 (x1).toNatClampNeg ((sm_I (sm_putI M b_6 ((100 * x1) + (sm_I M b_2 (x1).toNatClampNeg)).toNatClampNeg x2) b_10 (x1).toNatClampNeg) + 1))) :
    sm_Run d 169 0 [some (.inr (some a0)), some (.inl x1), some (.inl x2)] [] M Q := by
  refine ru_go (t := (1, [some (.inr (some a0)), some (.inl x1), some (.inl x2)], [.inr (some a0)], M)) sm_a169_0 rfl rfl rfl ?_
  obtain ⟨h_1, h⟩ := h
  refine ru_go (t := (4, [some (.inr (some a0)), some (.inl x1), some (.inl x2)], [.inr (sm_R M a0 29)], M)) sm_a169_1 rfl rfl (st_getR h_1 rfl rfl) ?_
  refine ru_go (t := (6, [some (.inr (some a0)), some (.inl x1), some (.inl x2)], [.inl 100, .inr (sm_R M a0 29)], M)) sm_a169_4 rfl rfl (st_bipush (by decide)) ?_
  refine ru_go (t := (7, [some (.inr (some a0)), some (.inl x1), some (.inl x2)], [.inl x1, .inl 100, .inr (sm_R M a0 29)], M)) sm_a169_6 rfl rfl rfl ?_
  refine ru_go (t := (8, [some (.inr (some a0)), some (.inl x1), some (.inl x2)], [.inl (100 * x1), .inr (sm_R M a0 29)], M)) sm_a169_7 rfl rfl rfl ?_
  refine ru_go (t := (9, [some (.inr (some a0)), some (.inl x1), some (.inl x2)], [.inr (some a0), .inl (100 * x1), .inr (sm_R M a0 29)], M)) sm_a169_8 rfl rfl rfl ?_
  refine ru_go (t := (12, [some (.inr (some a0)), some (.inl x1), some (.inl x2)], [.inr (sm_R M a0 25), .inl (100 * x1), .inr (sm_R M a0 29)], M)) sm_a169_9 rfl rfl (st_getR h_1 rfl rfl) ?_
  refine ru_go (t := (13, [some (.inr (some a0)), some (.inl x1), some (.inl x2)], [.inl x1, .inr (sm_R M a0 25), .inl (100 * x1), .inr (sm_R M a0 29)], M)) sm_a169_12 rfl rfl rfl ?_
  obtain ⟨b_2, hb_3, h⟩ := h
  rw [hb_3]
  obtain ⟨h_4, h⟩ := h
  obtain ⟨h_5, h⟩ := h
  refine ru_go (t := (14, [some (.inr (some a0)), some (.inl x1), some (.inl x2)], [.inl (sm_I M b_2 (x1).toNatClampNeg), .inl (100 * x1), .inr (sm_R M a0 29)], M)) sm_a169_13 rfl rfl (st_iald h_4 h_5) ?_
  refine ru_go (t := (15, [some (.inr (some a0)), some (.inl x1), some (.inl x2)], [.inl ((100 * x1) + (sm_I M b_2 (x1).toNatClampNeg)), .inr (sm_R M a0 29)], M)) sm_a169_14 rfl rfl rfl ?_
  refine ru_go (t := (16, [some (.inr (some a0)), some (.inl x1), some (.inl x2)], [.inl x2, .inl ((100 * x1) + (sm_I M b_2 (x1).toNatClampNeg)), .inr (sm_R M a0 29)], M)) sm_a169_15 rfl rfl rfl ?_
  obtain ⟨b_6, hb_7, h⟩ := h
  rw [hb_7]
  obtain ⟨h_8, h⟩ := h
  obtain ⟨h_9, h⟩ := h
  refine ru_go (t := (17, [some (.inr (some a0)), some (.inl x1), some (.inl x2)], [], sm_putI M b_6 ((100 * x1) + (sm_I M b_2 (x1).toNatClampNeg)).toNatClampNeg x2)) sm_a169_16 rfl rfl (st_iast h_8 h_9) ?_
  refine ru_go (t := (18, [some (.inr (some a0)), some (.inl x1), some (.inl x2)], [.inr (some a0)], sm_putI M b_6 ((100 * x1) + (sm_I M b_2 (x1).toNatClampNeg)).toNatClampNeg x2)) sm_a169_17 rfl rfl rfl ?_
  refine ru_go (t := (21, [some (.inr (some a0)), some (.inl x1), some (.inl x2)], [.inr (sm_R (sm_putI M b_6 ((100 * x1) + (sm_I M b_2 (x1).toNatClampNeg)).toNatClampNeg x2) a0 25)], sm_putI M b_6 ((100 * x1) + (sm_I M b_2 (x1).toNatClampNeg)).toNatClampNeg x2)) sm_a169_18 rfl rfl (st_getR h_1 rfl rfl) ?_
  refine ru_go (t := (22, [some (.inr (some a0)), some (.inl x1), some (.inl x2)], [.inl x1, .inr (sm_R (sm_putI M b_6 ((100 * x1) + (sm_I M b_2 (x1).toNatClampNeg)).toNatClampNeg x2) a0 25)], sm_putI M b_6 ((100 * x1) + (sm_I M b_2 (x1).toNatClampNeg)).toNatClampNeg x2)) sm_a169_21 rfl rfl rfl ?_
  refine ru_go (t := (23, [some (.inr (some a0)), some (.inl x1), some (.inl x2)], [.inl x1, .inr (sm_R (sm_putI M b_6 ((100 * x1) + (sm_I M b_2 (x1).toNatClampNeg)).toNatClampNeg x2) a0 25), .inl x1, .inr (sm_R (sm_putI M b_6 ((100 * x1) + (sm_I M b_2 (x1).toNatClampNeg)).toNatClampNeg x2) a0 25)], sm_putI M b_6 ((100 * x1) + (sm_I M b_2 (x1).toNatClampNeg)).toNatClampNeg x2)) sm_a169_22 rfl rfl rfl ?_
  obtain ⟨b_10, hb_11, h⟩ := h
  rw [hb_11]
  obtain ⟨h_12, h⟩ := h
  obtain ⟨h_13, h⟩ := h
  refine ru_go (t := (24, [some (.inr (some a0)), some (.inl x1), some (.inl x2)], [.inl (sm_I (sm_putI M b_6 ((100 * x1) + (sm_I M b_2 (x1).toNatClampNeg)).toNatClampNeg x2) b_10 (x1).toNatClampNeg), .inl x1, .inr (some b_10)], sm_putI M b_6 ((100 * x1) + (sm_I M b_2 (x1).toNatClampNeg)).toNatClampNeg x2)) sm_a169_23 rfl rfl (st_iald h_12 h_13) ?_
  refine ru_go (t := (25, [some (.inr (some a0)), some (.inl x1), some (.inl x2)], [.inl 1, .inl (sm_I (sm_putI M b_6 ((100 * x1) + (sm_I M b_2 (x1).toNatClampNeg)).toNatClampNeg x2) b_10 (x1).toNatClampNeg), .inl x1, .inr (some b_10)], sm_putI M b_6 ((100 * x1) + (sm_I M b_2 (x1).toNatClampNeg)).toNatClampNeg x2)) sm_a169_24 rfl rfl (st_iconst (by decide)) ?_
  refine ru_go (t := (26, [some (.inr (some a0)), some (.inl x1), some (.inl x2)], [.inl ((sm_I (sm_putI M b_6 ((100 * x1) + (sm_I M b_2 (x1).toNatClampNeg)).toNatClampNeg x2) b_10 (x1).toNatClampNeg) + 1), .inl x1, .inr (some b_10)], sm_putI M b_6 ((100 * x1) + (sm_I M b_2 (x1).toNatClampNeg)).toNatClampNeg x2)) sm_a169_25 rfl rfl rfl ?_
  obtain ⟨h_14, h⟩ := h
  refine ru_go (t := (27, [some (.inr (some a0)), some (.inl x1), some (.inl x2)], [], sm_putI (sm_putI M b_6 ((100 * x1) + (sm_I M b_2 (x1).toNatClampNeg)).toNatClampNeg x2) b_10 (x1).toNatClampNeg ((sm_I (sm_putI M b_6 ((100 * x1) + (sm_I M b_2 (x1).toNatClampNeg)).toNatClampNeg x2) b_10 (x1).toNatClampNeg) + 1))) sm_a169_26 rfl rfl (st_iast h_14 h_13) ?_
  exact ru_ret sm_a169_27 (sm_rvv rfl) h
