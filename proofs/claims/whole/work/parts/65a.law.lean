/-! WireBusLaw.cell:([II)I -/
theorem sm_a208_0 : sm_at 208 0 = some (.iload_n 1, 1, (0, 0, 0, 0)) := by decide +kernel
theorem sm_a208_1 : sm_at 208 1 = some (.aload_n 0, 1, (0, 0, 0, 0)) := by decide +kernel
theorem sm_a208_2 : sm_at 208 2 = some (.arraylength, 1, (0, 0, 0, 0)) := by decide +kernel
theorem sm_a208_3 : sm_at 208 3 = some (.if_icmp .ge 9, 3, (0, 0, 0, 0)) := by decide +kernel
theorem sm_a208_6 : sm_at 208 6 = some (.aload_n 0, 1, (0, 0, 0, 0)) := by decide +kernel
theorem sm_a208_7 : sm_at 208 7 = some (.iload_n 1, 1, (0, 0, 0, 0)) := by decide +kernel
theorem sm_a208_8 : sm_at 208 8 = some (.iaload, 1, (0, 0, 0, 0)) := by decide +kernel
theorem sm_a208_9 : sm_at 208 9 = some (.goto 4, 3, (0, 0, 0, 0)) := by decide +kernel
theorem sm_a208_12 : sm_at 208 12 = some (.iconst 0, 1, (0, 0, 0, 0)) := by decide +kernel
theorem sm_a208_13 : sm_at 208 13 = some (.ireturn, 1, (0, 0, 0, 0)) := by decide +kernel
theorem bb_208_0 {d : Nat} {M : sm_M} {Q : Option sm_V → sm_M → Prop} {r0 : Option Nat} {x1 : Int32}
    (h : ∃ b_1, r0 = some b_1 ∧ (1 ≤ sm_K M b_1 ∧ sm_K M b_1 % 3 ≠ 0) ∧ (((Int32.ofNat (sm_L M b_1)) ≤ x1 → Q (some (.inl 0)) M) ∧ (¬ ((Int32.ofNat (sm_L M b_1)) ≤ x1) → sm_iA M b_1 ∧ sm_in_ M b_1 x1 ∧ Q (some (.inl (sm_I M b_1 (x1).toNatClampNeg))) M))) :
    sm_Run d 208 0 [some (.inr r0), some (.inl x1)] [] M Q := by
  refine ru_go (t := (1, [some (.inr r0), some (.inl x1)], [.inl x1], M)) sm_a208_0 rfl rfl rfl ?_
  refine ru_go (t := (2, [some (.inr r0), some (.inl x1)], [.inr r0, .inl x1], M)) sm_a208_1 rfl rfl rfl ?_
  obtain ⟨b_1, hb_2, h⟩ := h
  rw [hb_2]
  obtain ⟨h_3, h⟩ := h
  refine ru_go (t := (3, [some (.inr (some b_1)), some (.inl x1)], [.inl (Int32.ofNat (sm_L M b_1)), .inl x1], M)) sm_a208_2 rfl rfl (st_alen h_3) ?_
  refine ru_icmp (pc := 3) (p := 12) (p2 := 6) sm_a208_3 (by decide) rfl ⟨fun hc_4 => ?_, fun hc_4 => ?_⟩
  · have h := h.1 hc_4
    refine ru_go (t := (13, [some (.inr (some b_1)), some (.inl x1)], [.inl 0], M)) sm_a208_12 rfl rfl (st_iconst (by decide)) ?_
    exact ru_ret sm_a208_13 rfl h
  · have h := h.2 hc_4
    refine ru_go (t := (7, [some (.inr (some b_1)), some (.inl x1)], [.inr (some b_1)], M)) sm_a208_6 rfl rfl rfl ?_
    refine ru_go (t := (8, [some (.inr (some b_1)), some (.inl x1)], [.inl x1, .inr (some b_1)], M)) sm_a208_7 rfl rfl rfl ?_
    obtain ⟨h_5, h⟩ := h
    obtain ⟨h_6, h⟩ := h
    refine ru_go (t := (9, [some (.inr (some b_1)), some (.inl x1)], [.inl (sm_I M b_1 (x1).toNatClampNeg)], M)) sm_a208_8 rfl rfl (st_iald h_5 h_6) ?_
    refine ru_go (t := (13, [some (.inr (some b_1)), some (.inl x1)], [.inl (sm_I M b_1 (x1).toNatClampNeg)], M)) sm_a208_9 rfl rfl (st_goto (pc := 9) (by decide)) ?_
    exact ru_ret sm_a208_13 rfl h

/-! WireBusLaw.law:([I)Z -/
theorem sm_a209_0 : sm_at 209 0 = some (.new 7, 3, (0, 0, 0, 97)) := by decide +kernel
theorem sm_a209_3 : sm_at 209 3 = some (.dup, 1, (0, 0, 0, 0)) := by decide +kernel
theorem sm_a209_4 : sm_at 209 4 = some (.aload_n 0, 1, (0, 0, 0, 0)) := by decide +kernel
theorem sm_a209_5 : sm_at 209 5 = some (.iconst 0, 1, (0, 0, 0, 0)) := by decide +kernel
theorem sm_a209_6 : sm_at 209 6 = some (.invokestatic 9, 3, (12, 208, 0, 1173)) := by decide +kernel
theorem sm_a209_9 : sm_at 209 9 = some (.invokespecial 15, 3, (14, 0, 0, 99)) := by decide +kernel
theorem sm_a209_12 : sm_at 209 12 = some (.astore_n 1, 1, (0, 0, 0, 0)) := by decide +kernel
theorem sm_a209_13 : sm_at 209 13 = some (.new 18, 3, (12, 0, 0, 1176)) := by decide +kernel
theorem sm_a209_16 : sm_at 209 16 = some (.dup, 1, (0, 0, 0, 0)) := by decide +kernel
theorem sm_a209_17 : sm_at 209 17 = some (.aload_n 0, 1, (0, 0, 0, 0)) := by decide +kernel
theorem sm_a209_18 : sm_at 209 18 = some (.iconst 0, 1, (0, 0, 0, 0)) := by decide +kernel
theorem sm_a209_19 : sm_at 209 19 = some (.invokestatic 9, 3, (12, 208, 0, 1173)) := by decide +kernel
theorem sm_a209_22 : sm_at 209 22 = some (.invokespecial 20, 3, (14, 150, 12, 1178)) := by decide +kernel
theorem sm_a209_25 : sm_at 209 25 = some (.astore_n 2, 1, (0, 0, 0, 0)) := by decide +kernel
theorem sm_a209_26 : sm_at 209 26 = some (.iconst 1, 1, (0, 0, 0, 0)) := by decide +kernel
theorem sm_a209_27 : sm_at 209 27 = some (.istore_n 3, 1, (0, 0, 0, 0)) := by decide +kernel
theorem sm_a209_28 : sm_at 209 28 = some (.iload_n 3, 1, (0, 0, 0, 0)) := by decide +kernel
theorem sm_a209_29 : sm_at 209 29 = some (.aload_n 0, 1, (0, 0, 0, 0)) := by decide +kernel
theorem sm_a209_30 : sm_at 209 30 = some (.arraylength, 1, (0, 0, 0, 0)) := by decide +kernel
theorem sm_a209_31 : sm_at 209 31 = some (.bipush 6, 2, (0, 0, 0, 0)) := by decide +kernel
theorem sm_a209_33 : sm_at 209 33 = some (.isub, 1, (0, 0, 0, 0)) := by decide +kernel
theorem sm_a209_34 : sm_at 209 34 = some (.if_icmp .gt 792, 3, (0, 0, 0, 0)) := by decide +kernel
theorem sm_a209_37 : sm_at 209 37 = some (.aload_n 0, 1, (0, 0, 0, 0)) := by decide +kernel
theorem sm_a209_38 : sm_at 209 38 = some (.iload_n 3, 1, (0, 0, 0, 0)) := by decide +kernel
theorem sm_a209_39 : sm_at 209 39 = some (.iaload, 1, (0, 0, 0, 0)) := by decide +kernel
theorem sm_a209_40 : sm_at 209 40 = some (.bipush 31, 2, (0, 0, 0, 0)) := by decide +kernel
theorem sm_a209_42 : sm_at 209 42 = some (.iand, 1, (0, 0, 0, 0)) := by decide +kernel
theorem sm_a209_43 : sm_at 209 43 = some (.tableswitch 777 0 17 #[85, 146, 169, 222, 275, 298, 321, 364, 407, 470, 493, 536, 569, 612, 635, 668, 701, 744], 85, (0, 0, 0, 0)) := by decide +kernel
theorem sm_a209_128 : sm_at 209 128 = some (.aload_n 1, 1, (0, 0, 0, 0)) := by decide +kernel
theorem sm_a209_129 : sm_at 209 129 = some (.aload_n 0, 1, (0, 0, 0, 0)) := by decide +kernel
theorem sm_a209_130 : sm_at 209 130 = some (.iload_n 3, 1, (0, 0, 0, 0)) := by decide +kernel
theorem sm_a209_131 : sm_at 209 131 = some (.iconst 1, 1, (0, 0, 0, 0)) := by decide +kernel
theorem sm_a209_132 : sm_at 209 132 = some (.iadd, 1, (0, 0, 0, 0)) := by decide +kernel
theorem sm_a209_133 : sm_at 209 133 = some (.iaload, 1, (0, 0, 0, 0)) := by decide +kernel
theorem sm_a209_134 : sm_at 209 134 = some (.aload_n 0, 1, (0, 0, 0, 0)) := by decide +kernel
theorem sm_a209_135 : sm_at 209 135 = some (.iload_n 3, 1, (0, 0, 0, 0)) := by decide +kernel
theorem sm_a209_136 : sm_at 209 136 = some (.iconst 2, 1, (0, 0, 0, 0)) := by decide +kernel
theorem sm_a209_137 : sm_at 209 137 = some (.iadd, 1, (0, 0, 0, 0)) := by decide +kernel
theorem sm_a209_138 : sm_at 209 138 = some (.iaload, 1, (0, 0, 0, 0)) := by decide +kernel
theorem sm_a209_139 : sm_at 209 139 = some (.aload_n 0, 1, (0, 0, 0, 0)) := by decide +kernel
theorem sm_a209_140 : sm_at 209 140 = some (.iload_n 3, 1, (0, 0, 0, 0)) := by decide +kernel
theorem sm_a209_141 : sm_at 209 141 = some (.iconst 3, 1, (0, 0, 0, 0)) := by decide +kernel
theorem sm_a209_142 : sm_at 209 142 = some (.iadd, 1, (0, 0, 0, 0)) := by decide +kernel
theorem sm_a209_143 : sm_at 209 143 = some (.iaload, 1, (0, 0, 0, 0)) := by decide +kernel
theorem sm_a209_144 : sm_at 209 144 = some (.aload_n 0, 1, (0, 0, 0, 0)) := by decide +kernel
theorem sm_a209_145 : sm_at 209 145 = some (.iload_n 3, 1, (0, 0, 0, 0)) := by decide +kernel
theorem sm_a209_146 : sm_at 209 146 = some (.iconst 4, 1, (0, 0, 0, 0)) := by decide +kernel
theorem sm_a209_147 : sm_at 209 147 = some (.iadd, 1, (0, 0, 0, 0)) := by decide +kernel
theorem sm_a209_148 : sm_at 209 148 = some (.iaload, 1, (0, 0, 0, 0)) := by decide +kernel
theorem sm_a209_149 : sm_at 209 149 = some (.aload_n 0, 1, (0, 0, 0, 0)) := by decide +kernel
theorem sm_a209_150 : sm_at 209 150 = some (.iload_n 3, 1, (0, 0, 0, 0)) := by decide +kernel
theorem sm_a209_151 : sm_at 209 151 = some (.iconst 5, 1, (0, 0, 0, 0)) := by decide +kernel
theorem sm_a209_152 : sm_at 209 152 = some (.iadd, 1, (0, 0, 0, 0)) := by decide +kernel
theorem sm_a209_153 : sm_at 209 153 = some (.iaload, 1, (0, 0, 0, 0)) := by decide +kernel
theorem sm_a209_154 : sm_at 209 154 = some (.invokevirtual 21, 3, (10, 1, 0, 477)) := by decide +kernel
theorem sm_a209_157 : sm_at 209 157 = some (.aload_n 2, 1, (0, 0, 0, 0)) := by decide +kernel
theorem sm_a209_158 : sm_at 209 158 = some (.aload_n 0, 1, (0, 0, 0, 0)) := by decide +kernel
theorem sm_a209_159 : sm_at 209 159 = some (.iload_n 3, 1, (0, 0, 0, 0)) := by decide +kernel
theorem sm_a209_160 : sm_at 209 160 = some (.iconst 1, 1, (0, 0, 0, 0)) := by decide +kernel
theorem sm_a209_161 : sm_at 209 161 = some (.iadd, 1, (0, 0, 0, 0)) := by decide +kernel
theorem sm_a209_162 : sm_at 209 162 = some (.iaload, 1, (0, 0, 0, 0)) := by decide +kernel
theorem sm_a209_163 : sm_at 209 163 = some (.aload_n 0, 1, (0, 0, 0, 0)) := by decide +kernel
theorem sm_a209_164 : sm_at 209 164 = some (.iload_n 3, 1, (0, 0, 0, 0)) := by decide +kernel
theorem sm_a209_165 : sm_at 209 165 = some (.iconst 2, 1, (0, 0, 0, 0)) := by decide +kernel
theorem sm_a209_166 : sm_at 209 166 = some (.iadd, 1, (0, 0, 0, 0)) := by decide +kernel
theorem sm_a209_167 : sm_at 209 167 = some (.iaload, 1, (0, 0, 0, 0)) := by decide +kernel
theorem sm_a209_168 : sm_at 209 168 = some (.aload_n 0, 1, (0, 0, 0, 0)) := by decide +kernel
theorem sm_a209_169 : sm_at 209 169 = some (.iload_n 3, 1, (0, 0, 0, 0)) := by decide +kernel
theorem sm_a209_170 : sm_at 209 170 = some (.iconst 3, 1, (0, 0, 0, 0)) := by decide +kernel
theorem sm_a209_171 : sm_at 209 171 = some (.iadd, 1, (0, 0, 0, 0)) := by decide +kernel
theorem sm_a209_172 : sm_at 209 172 = some (.iaload, 1, (0, 0, 0, 0)) := by decide +kernel
theorem sm_a209_173 : sm_at 209 173 = some (.aload_n 0, 1, (0, 0, 0, 0)) := by decide +kernel
theorem sm_a209_174 : sm_at 209 174 = some (.iload_n 3, 1, (0, 0, 0, 0)) := by decide +kernel
theorem sm_a209_175 : sm_at 209 175 = some (.iconst 4, 1, (0, 0, 0, 0)) := by decide +kernel
theorem sm_a209_176 : sm_at 209 176 = some (.iadd, 1, (0, 0, 0, 0)) := by decide +kernel
theorem sm_a209_177 : sm_at 209 177 = some (.iaload, 1, (0, 0, 0, 0)) := by decide +kernel
theorem sm_a209_178 : sm_at 209 178 = some (.aload_n 0, 1, (0, 0, 0, 0)) := by decide +kernel
theorem sm_a209_179 : sm_at 209 179 = some (.iload_n 3, 1, (0, 0, 0, 0)) := by decide +kernel
theorem sm_a209_180 : sm_at 209 180 = some (.iconst 5, 1, (0, 0, 0, 0)) := by decide +kernel
theorem sm_a209_181 : sm_at 209 181 = some (.iadd, 1, (0, 0, 0, 0)) := by decide +kernel
theorem sm_a209_182 : sm_at 209 182 = some (.iaload, 1, (0, 0, 0, 0)) := by decide +kernel
theorem sm_a209_183 : sm_at 209 183 = some (.invokevirtual 25, 3, (10, 152, 12, 1449)) := by decide +kernel
theorem sm_a209_186 : sm_at 209 186 = some (.goto 634, 3, (0, 0, 0, 0)) := by decide +kernel
theorem sm_a209_189 : sm_at 209 189 = some (.aload_n 1, 1, (0, 0, 0, 0)) := by decide +kernel
theorem sm_a209_190 : sm_at 209 190 = some (.aload_n 0, 1, (0, 0, 0, 0)) := by decide +kernel
theorem sm_a209_191 : sm_at 209 191 = some (.iload_n 3, 1, (0, 0, 0, 0)) := by decide +kernel
theorem sm_a209_192 : sm_at 209 192 = some (.iconst 1, 1, (0, 0, 0, 0)) := by decide +kernel
theorem sm_a209_193 : sm_at 209 193 = some (.iadd, 1, (0, 0, 0, 0)) := by decide +kernel
theorem sm_a209_194 : sm_at 209 194 = some (.iaload, 1, (0, 0, 0, 0)) := by decide +kernel
theorem sm_a209_195 : sm_at 209 195 = some (.invokevirtual 26, 3, (10, 3, 0, 485)) := by decide +kernel
theorem sm_a209_198 : sm_at 209 198 = some (.aload_n 2, 1, (0, 0, 0, 0)) := by decide +kernel
theorem sm_a209_199 : sm_at 209 199 = some (.aload_n 0, 1, (0, 0, 0, 0)) := by decide +kernel
theorem sm_a209_200 : sm_at 209 200 = some (.iload_n 3, 1, (0, 0, 0, 0)) := by decide +kernel
theorem sm_a209_201 : sm_at 209 201 = some (.iconst 1, 1, (0, 0, 0, 0)) := by decide +kernel
theorem sm_a209_202 : sm_at 209 202 = some (.iadd, 1, (0, 0, 0, 0)) := by decide +kernel
theorem sm_a209_203 : sm_at 209 203 = some (.iaload, 1, (0, 0, 0, 0)) := by decide +kernel
theorem sm_a209_204 : sm_at 209 204 = some (.invokevirtual 30, 3, (10, 153, 12, 1457)) := by decide +kernel
theorem sm_a209_207 : sm_at 209 207 = some (.if_icmp .eq 613, 3, (0, 0, 0, 0)) := by decide +kernel
theorem sm_a209_210 : sm_at 209 210 = some (.iconst 0, 1, (0, 0, 0, 0)) := by decide +kernel
theorem sm_a209_211 : sm_at 209 211 = some (.ireturn, 1, (0, 0, 0, 0)) := by decide +kernel
theorem sm_a209_212 : sm_at 209 212 = some (.aload_n 1, 1, (0, 0, 0, 0)) := by decide +kernel
theorem sm_a209_213 : sm_at 209 213 = some (.aload_n 0, 1, (0, 0, 0, 0)) := by decide +kernel
theorem sm_a209_214 : sm_at 209 214 = some (.iload_n 3, 1, (0, 0, 0, 0)) := by decide +kernel
theorem sm_a209_215 : sm_at 209 215 = some (.iconst 1, 1, (0, 0, 0, 0)) := by decide +kernel
theorem sm_a209_216 : sm_at 209 216 = some (.iadd, 1, (0, 0, 0, 0)) := by decide +kernel
theorem sm_a209_217 : sm_at 209 217 = some (.iaload, 1, (0, 0, 0, 0)) := by decide +kernel
theorem sm_a209_218 : sm_at 209 218 = some (.aload_n 0, 1, (0, 0, 0, 0)) := by decide +kernel
theorem sm_a209_219 : sm_at 209 219 = some (.iload_n 3, 1, (0, 0, 0, 0)) := by decide +kernel
theorem sm_a209_220 : sm_at 209 220 = some (.iconst 2, 1, (0, 0, 0, 0)) := by decide +kernel
theorem sm_a209_221 : sm_at 209 221 = some (.iadd, 1, (0, 0, 0, 0)) := by decide +kernel
theorem sm_a209_222 : sm_at 209 222 = some (.iaload, 1, (0, 0, 0, 0)) := by decide +kernel
theorem sm_a209_223 : sm_at 209 223 = some (.aload_n 0, 1, (0, 0, 0, 0)) := by decide +kernel
theorem sm_a209_224 : sm_at 209 224 = some (.iload_n 3, 1, (0, 0, 0, 0)) := by decide +kernel
theorem sm_a209_225 : sm_at 209 225 = some (.iconst 3, 1, (0, 0, 0, 0)) := by decide +kernel
theorem sm_a209_226 : sm_at 209 226 = some (.iadd, 1, (0, 0, 0, 0)) := by decide +kernel
theorem sm_a209_227 : sm_at 209 227 = some (.iaload, 1, (0, 0, 0, 0)) := by decide +kernel
theorem sm_a209_228 : sm_at 209 228 = some (.aload_n 0, 1, (0, 0, 0, 0)) := by decide +kernel
theorem sm_a209_229 : sm_at 209 229 = some (.iload_n 3, 1, (0, 0, 0, 0)) := by decide +kernel
theorem sm_a209_230 : sm_at 209 230 = some (.iconst 4, 1, (0, 0, 0, 0)) := by decide +kernel
theorem sm_a209_231 : sm_at 209 231 = some (.iadd, 1, (0, 0, 0, 0)) := by decide +kernel
theorem sm_a209_232 : sm_at 209 232 = some (.iaload, 1, (0, 0, 0, 0)) := by decide +kernel
theorem sm_a209_233 : sm_at 209 233 = some (.invokevirtual 31, 3, (10, 4, 0, 501)) := by decide +kernel
theorem sm_a209_236 : sm_at 209 236 = some (.aload_n 2, 1, (0, 0, 0, 0)) := by decide +kernel
theorem sm_a209_237 : sm_at 209 237 = some (.aload_n 0, 1, (0, 0, 0, 0)) := by decide +kernel
theorem sm_a209_238 : sm_at 209 238 = some (.iload_n 3, 1, (0, 0, 0, 0)) := by decide +kernel
theorem sm_a209_239 : sm_at 209 239 = some (.iconst 1, 1, (0, 0, 0, 0)) := by decide +kernel
theorem sm_a209_240 : sm_at 209 240 = some (.iadd, 1, (0, 0, 0, 0)) := by decide +kernel
theorem sm_a209_241 : sm_at 209 241 = some (.iaload, 1, (0, 0, 0, 0)) := by decide +kernel
theorem sm_a209_242 : sm_at 209 242 = some (.aload_n 0, 1, (0, 0, 0, 0)) := by decide +kernel
theorem sm_a209_243 : sm_at 209 243 = some (.iload_n 3, 1, (0, 0, 0, 0)) := by decide +kernel
theorem sm_a209_244 : sm_at 209 244 = some (.iconst 2, 1, (0, 0, 0, 0)) := by decide +kernel
theorem sm_a209_245 : sm_at 209 245 = some (.iadd, 1, (0, 0, 0, 0)) := by decide +kernel
theorem sm_a209_246 : sm_at 209 246 = some (.iaload, 1, (0, 0, 0, 0)) := by decide +kernel
theorem sm_a209_247 : sm_at 209 247 = some (.aload_n 0, 1, (0, 0, 0, 0)) := by decide +kernel
theorem sm_a209_248 : sm_at 209 248 = some (.iload_n 3, 1, (0, 0, 0, 0)) := by decide +kernel
theorem sm_a209_249 : sm_at 209 249 = some (.iconst 3, 1, (0, 0, 0, 0)) := by decide +kernel
theorem sm_a209_250 : sm_at 209 250 = some (.iadd, 1, (0, 0, 0, 0)) := by decide +kernel
theorem sm_a209_251 : sm_at 209 251 = some (.iaload, 1, (0, 0, 0, 0)) := by decide +kernel
theorem sm_a209_252 : sm_at 209 252 = some (.aload_n 0, 1, (0, 0, 0, 0)) := by decide +kernel
theorem sm_a209_253 : sm_at 209 253 = some (.iload_n 3, 1, (0, 0, 0, 0)) := by decide +kernel
theorem sm_a209_254 : sm_at 209 254 = some (.iconst 4, 1, (0, 0, 0, 0)) := by decide +kernel
theorem sm_a209_255 : sm_at 209 255 = some (.iadd, 1, (0, 0, 0, 0)) := by decide +kernel
theorem sm_a209_256 : sm_at 209 256 = some (.iaload, 1, (0, 0, 0, 0)) := by decide +kernel
theorem sm_a209_257 : sm_at 209 257 = some (.invokevirtual 35, 3, (10, 192, 12, 1461)) := by decide +kernel
theorem sm_a209_260 : sm_at 209 260 = some (.if_icmp .eq 560, 3, (0, 0, 0, 0)) := by decide +kernel
theorem sm_a209_263 : sm_at 209 263 = some (.iconst 0, 1, (0, 0, 0, 0)) := by decide +kernel
theorem sm_a209_264 : sm_at 209 264 = some (.ireturn, 1, (0, 0, 0, 0)) := by decide +kernel
theorem sm_a209_265 : sm_at 209 265 = some (.aload_n 1, 1, (0, 0, 0, 0)) := by decide +kernel
theorem sm_a209_266 : sm_at 209 266 = some (.aload_n 0, 1, (0, 0, 0, 0)) := by decide +kernel
theorem sm_a209_267 : sm_at 209 267 = some (.iload_n 3, 1, (0, 0, 0, 0)) := by decide +kernel
theorem sm_a209_268 : sm_at 209 268 = some (.iconst 1, 1, (0, 0, 0, 0)) := by decide +kernel
theorem sm_a209_269 : sm_at 209 269 = some (.iadd, 1, (0, 0, 0, 0)) := by decide +kernel
theorem sm_a209_270 : sm_at 209 270 = some (.iaload, 1, (0, 0, 0, 0)) := by decide +kernel
theorem sm_a209_271 : sm_at 209 271 = some (.aload_n 0, 1, (0, 0, 0, 0)) := by decide +kernel
theorem sm_a209_272 : sm_at 209 272 = some (.iload_n 3, 1, (0, 0, 0, 0)) := by decide +kernel
theorem sm_a209_273 : sm_at 209 273 = some (.iconst 2, 1, (0, 0, 0, 0)) := by decide +kernel
theorem sm_a209_274 : sm_at 209 274 = some (.iadd, 1, (0, 0, 0, 0)) := by decide +kernel
theorem sm_a209_275 : sm_at 209 275 = some (.iaload, 1, (0, 0, 0, 0)) := by decide +kernel
theorem sm_a209_276 : sm_at 209 276 = some (.aload_n 0, 1, (0, 0, 0, 0)) := by decide +kernel
theorem sm_a209_277 : sm_at 209 277 = some (.iload_n 3, 1, (0, 0, 0, 0)) := by decide +kernel
theorem sm_a209_278 : sm_at 209 278 = some (.iconst 3, 1, (0, 0, 0, 0)) := by decide +kernel
theorem sm_a209_279 : sm_at 209 279 = some (.iadd, 1, (0, 0, 0, 0)) := by decide +kernel
theorem sm_a209_280 : sm_at 209 280 = some (.iaload, 1, (0, 0, 0, 0)) := by decide +kernel
theorem sm_a209_281 : sm_at 209 281 = some (.aload_n 0, 1, (0, 0, 0, 0)) := by decide +kernel
theorem sm_a209_282 : sm_at 209 282 = some (.iload_n 3, 1, (0, 0, 0, 0)) := by decide +kernel
theorem sm_a209_283 : sm_at 209 283 = some (.iconst 4, 1, (0, 0, 0, 0)) := by decide +kernel
theorem sm_a209_284 : sm_at 209 284 = some (.iadd, 1, (0, 0, 0, 0)) := by decide +kernel
theorem sm_a209_285 : sm_at 209 285 = some (.iaload, 1, (0, 0, 0, 0)) := by decide +kernel
theorem sm_a209_286 : sm_at 209 286 = some (.invokevirtual 36, 3, (10, 5, 0, 516)) := by decide +kernel
theorem sm_a209_289 : sm_at 209 289 = some (.aload_n 2, 1, (0, 0, 0, 0)) := by decide +kernel
theorem sm_a209_290 : sm_at 209 290 = some (.aload_n 0, 1, (0, 0, 0, 0)) := by decide +kernel
theorem sm_a209_291 : sm_at 209 291 = some (.iload_n 3, 1, (0, 0, 0, 0)) := by decide +kernel
theorem sm_a209_292 : sm_at 209 292 = some (.iconst 1, 1, (0, 0, 0, 0)) := by decide +kernel
theorem sm_a209_293 : sm_at 209 293 = some (.iadd, 1, (0, 0, 0, 0)) := by decide +kernel
theorem sm_a209_294 : sm_at 209 294 = some (.iaload, 1, (0, 0, 0, 0)) := by decide +kernel
theorem sm_a209_295 : sm_at 209 295 = some (.aload_n 0, 1, (0, 0, 0, 0)) := by decide +kernel
theorem sm_a209_296 : sm_at 209 296 = some (.iload_n 3, 1, (0, 0, 0, 0)) := by decide +kernel
theorem sm_a209_297 : sm_at 209 297 = some (.iconst 2, 1, (0, 0, 0, 0)) := by decide +kernel
theorem sm_a209_298 : sm_at 209 298 = some (.iadd, 1, (0, 0, 0, 0)) := by decide +kernel
theorem sm_a209_299 : sm_at 209 299 = some (.iaload, 1, (0, 0, 0, 0)) := by decide +kernel
theorem sm_a209_300 : sm_at 209 300 = some (.aload_n 0, 1, (0, 0, 0, 0)) := by decide +kernel
theorem sm_a209_301 : sm_at 209 301 = some (.iload_n 3, 1, (0, 0, 0, 0)) := by decide +kernel
theorem sm_a209_302 : sm_at 209 302 = some (.iconst 3, 1, (0, 0, 0, 0)) := by decide +kernel
theorem sm_a209_303 : sm_at 209 303 = some (.iadd, 1, (0, 0, 0, 0)) := by decide +kernel
theorem sm_a209_304 : sm_at 209 304 = some (.iaload, 1, (0, 0, 0, 0)) := by decide +kernel
theorem sm_a209_305 : sm_at 209 305 = some (.aload_n 0, 1, (0, 0, 0, 0)) := by decide +kernel
theorem sm_a209_306 : sm_at 209 306 = some (.iload_n 3, 1, (0, 0, 0, 0)) := by decide +kernel
theorem sm_a209_307 : sm_at 209 307 = some (.iconst 4, 1, (0, 0, 0, 0)) := by decide +kernel
theorem sm_a209_308 : sm_at 209 308 = some (.iadd, 1, (0, 0, 0, 0)) := by decide +kernel
theorem sm_a209_309 : sm_at 209 309 = some (.iaload, 1, (0, 0, 0, 0)) := by decide +kernel
theorem sm_a209_310 : sm_at 209 310 = some (.invokevirtual 39, 3, (10, 193, 12, 1466)) := by decide +kernel
theorem sm_a209_313 : sm_at 209 313 = some (.if_icmp .eq 507, 3, (0, 0, 0, 0)) := by decide +kernel
theorem sm_a209_316 : sm_at 209 316 = some (.iconst 0, 1, (0, 0, 0, 0)) := by decide +kernel
theorem sm_a209_317 : sm_at 209 317 = some (.ireturn, 1, (0, 0, 0, 0)) := by decide +kernel
theorem sm_a209_318 : sm_at 209 318 = some (.aload_n 1, 1, (0, 0, 0, 0)) := by decide +kernel
theorem sm_a209_319 : sm_at 209 319 = some (.aload_n 0, 1, (0, 0, 0, 0)) := by decide +kernel
theorem sm_a209_320 : sm_at 209 320 = some (.iload_n 3, 1, (0, 0, 0, 0)) := by decide +kernel
theorem sm_a209_321 : sm_at 209 321 = some (.iconst 1, 1, (0, 0, 0, 0)) := by decide +kernel
theorem sm_a209_322 : sm_at 209 322 = some (.iadd, 1, (0, 0, 0, 0)) := by decide +kernel
theorem sm_a209_323 : sm_at 209 323 = some (.iaload, 1, (0, 0, 0, 0)) := by decide +kernel
theorem sm_a209_324 : sm_at 209 324 = some (.invokevirtual 40, 3, (10, 6, 0, 580)) := by decide +kernel
theorem sm_a209_327 : sm_at 209 327 = some (.aload_n 2, 1, (0, 0, 0, 0)) := by decide +kernel
theorem sm_a209_328 : sm_at 209 328 = some (.aload_n 0, 1, (0, 0, 0, 0)) := by decide +kernel
theorem sm_a209_329 : sm_at 209 329 = some (.iload_n 3, 1, (0, 0, 0, 0)) := by decide +kernel
theorem sm_a209_330 : sm_at 209 330 = some (.iconst 1, 1, (0, 0, 0, 0)) := by decide +kernel
theorem sm_a209_331 : sm_at 209 331 = some (.iadd, 1, (0, 0, 0, 0)) := by decide +kernel
theorem sm_a209_332 : sm_at 209 332 = some (.iaload, 1, (0, 0, 0, 0)) := by decide +kernel
theorem sm_a209_333 : sm_at 209 333 = some (.invokevirtual 44, 3, (10, 194, 12, 1474)) := by decide +kernel
theorem sm_a209_336 : sm_at 209 336 = some (.if_icmp .eq 484, 3, (0, 0, 0, 0)) := by decide +kernel
theorem sm_a209_339 : sm_at 209 339 = some (.iconst 0, 1, (0, 0, 0, 0)) := by decide +kernel
theorem sm_a209_340 : sm_at 209 340 = some (.ireturn, 1, (0, 0, 0, 0)) := by decide +kernel
theorem sm_a209_341 : sm_at 209 341 = some (.aload_n 1, 1, (0, 0, 0, 0)) := by decide +kernel
theorem sm_a209_342 : sm_at 209 342 = some (.aload_n 0, 1, (0, 0, 0, 0)) := by decide +kernel
theorem sm_a209_343 : sm_at 209 343 = some (.iload_n 3, 1, (0, 0, 0, 0)) := by decide +kernel
theorem sm_a209_344 : sm_at 209 344 = some (.iconst 1, 1, (0, 0, 0, 0)) := by decide +kernel
theorem sm_a209_345 : sm_at 209 345 = some (.iadd, 1, (0, 0, 0, 0)) := by decide +kernel
theorem sm_a209_346 : sm_at 209 346 = some (.iaload, 1, (0, 0, 0, 0)) := by decide +kernel
theorem sm_a209_347 : sm_at 209 347 = some (.invokevirtual 45, 3, (10, 7, 0, 685)) := by decide +kernel
theorem sm_a209_350 : sm_at 209 350 = some (.aload_n 2, 1, (0, 0, 0, 0)) := by decide +kernel
theorem sm_a209_351 : sm_at 209 351 = some (.aload_n 0, 1, (0, 0, 0, 0)) := by decide +kernel
theorem sm_a209_352 : sm_at 209 352 = some (.iload_n 3, 1, (0, 0, 0, 0)) := by decide +kernel
theorem sm_a209_353 : sm_at 209 353 = some (.iconst 1, 1, (0, 0, 0, 0)) := by decide +kernel
theorem sm_a209_354 : sm_at 209 354 = some (.iadd, 1, (0, 0, 0, 0)) := by decide +kernel
theorem sm_a209_355 : sm_at 209 355 = some (.iaload, 1, (0, 0, 0, 0)) := by decide +kernel
theorem sm_a209_356 : sm_at 209 356 = some (.invokevirtual 48, 3, (10, 195, 12, 1490)) := by decide +kernel
theorem sm_a209_359 : sm_at 209 359 = some (.if_icmp .eq 461, 3, (0, 0, 0, 0)) := by decide +kernel
theorem sm_a209_362 : sm_at 209 362 = some (.iconst 0, 1, (0, 0, 0, 0)) := by decide +kernel
theorem sm_a209_363 : sm_at 209 363 = some (.ireturn, 1, (0, 0, 0, 0)) := by decide +kernel
theorem sm_a209_364 : sm_at 209 364 = some (.aload_n 1, 1, (0, 0, 0, 0)) := by decide +kernel
theorem sm_a209_365 : sm_at 209 365 = some (.aload_n 0, 1, (0, 0, 0, 0)) := by decide +kernel
theorem sm_a209_366 : sm_at 209 366 = some (.iload_n 3, 1, (0, 0, 0, 0)) := by decide +kernel
theorem sm_a209_367 : sm_at 209 367 = some (.iconst 1, 1, (0, 0, 0, 0)) := by decide +kernel
theorem sm_a209_368 : sm_at 209 368 = some (.iadd, 1, (0, 0, 0, 0)) := by decide +kernel
theorem sm_a209_369 : sm_at 209 369 = some (.iaload, 1, (0, 0, 0, 0)) := by decide +kernel
theorem sm_a209_370 : sm_at 209 370 = some (.aload_n 0, 1, (0, 0, 0, 0)) := by decide +kernel
theorem sm_a209_371 : sm_at 209 371 = some (.iload_n 3, 1, (0, 0, 0, 0)) := by decide +kernel
theorem sm_a209_372 : sm_at 209 372 = some (.iconst 2, 1, (0, 0, 0, 0)) := by decide +kernel
theorem sm_a209_373 : sm_at 209 373 = some (.iadd, 1, (0, 0, 0, 0)) := by decide +kernel
theorem sm_a209_374 : sm_at 209 374 = some (.iaload, 1, (0, 0, 0, 0)) := by decide +kernel
theorem sm_a209_375 : sm_at 209 375 = some (.aload_n 0, 1, (0, 0, 0, 0)) := by decide +kernel
theorem sm_a209_376 : sm_at 209 376 = some (.iload_n 3, 1, (0, 0, 0, 0)) := by decide +kernel
theorem sm_a209_377 : sm_at 209 377 = some (.iconst 3, 1, (0, 0, 0, 0)) := by decide +kernel
theorem sm_a209_378 : sm_at 209 378 = some (.iadd, 1, (0, 0, 0, 0)) := by decide +kernel
theorem sm_a209_379 : sm_at 209 379 = some (.iaload, 1, (0, 0, 0, 0)) := by decide +kernel
theorem sm_a209_380 : sm_at 209 380 = some (.invokevirtual 49, 3, (10, 8, 0, 697)) := by decide +kernel
theorem sm_a209_383 : sm_at 209 383 = some (.aload_n 2, 1, (0, 0, 0, 0)) := by decide +kernel
theorem sm_a209_384 : sm_at 209 384 = some (.aload_n 0, 1, (0, 0, 0, 0)) := by decide +kernel
theorem sm_a209_385 : sm_at 209 385 = some (.iload_n 3, 1, (0, 0, 0, 0)) := by decide +kernel
theorem sm_a209_386 : sm_at 209 386 = some (.iconst 1, 1, (0, 0, 0, 0)) := by decide +kernel
theorem sm_a209_387 : sm_at 209 387 = some (.iadd, 1, (0, 0, 0, 0)) := by decide +kernel
theorem sm_a209_388 : sm_at 209 388 = some (.iaload, 1, (0, 0, 0, 0)) := by decide +kernel
theorem sm_a209_389 : sm_at 209 389 = some (.aload_n 0, 1, (0, 0, 0, 0)) := by decide +kernel
theorem sm_a209_390 : sm_at 209 390 = some (.iload_n 3, 1, (0, 0, 0, 0)) := by decide +kernel
theorem sm_a209_391 : sm_at 209 391 = some (.iconst 2, 1, (0, 0, 0, 0)) := by decide +kernel
theorem sm_a209_392 : sm_at 209 392 = some (.iadd, 1, (0, 0, 0, 0)) := by decide +kernel
theorem sm_a209_393 : sm_at 209 393 = some (.iaload, 1, (0, 0, 0, 0)) := by decide +kernel
theorem sm_a209_394 : sm_at 209 394 = some (.aload_n 0, 1, (0, 0, 0, 0)) := by decide +kernel
theorem sm_a209_395 : sm_at 209 395 = some (.iload_n 3, 1, (0, 0, 0, 0)) := by decide +kernel
theorem sm_a209_396 : sm_at 209 396 = some (.iconst 3, 1, (0, 0, 0, 0)) := by decide +kernel
theorem sm_a209_397 : sm_at 209 397 = some (.iadd, 1, (0, 0, 0, 0)) := by decide +kernel
theorem sm_a209_398 : sm_at 209 398 = some (.iaload, 1, (0, 0, 0, 0)) := by decide +kernel
theorem sm_a209_399 : sm_at 209 399 = some (.invokevirtual 53, 3, (10, 196, 12, 1494)) := by decide +kernel
theorem sm_a209_402 : sm_at 209 402 = some (.if_icmp .eq 418, 3, (0, 0, 0, 0)) := by decide +kernel
theorem sm_a209_405 : sm_at 209 405 = some (.iconst 0, 1, (0, 0, 0, 0)) := by decide +kernel
theorem sm_a209_406 : sm_at 209 406 = some (.ireturn, 1, (0, 0, 0, 0)) := by decide +kernel
theorem sm_a209_407 : sm_at 209 407 = some (.aload_n 1, 1, (0, 0, 0, 0)) := by decide +kernel
theorem sm_a209_408 : sm_at 209 408 = some (.aload_n 0, 1, (0, 0, 0, 0)) := by decide +kernel
theorem sm_a209_409 : sm_at 209 409 = some (.iload_n 3, 1, (0, 0, 0, 0)) := by decide +kernel
theorem sm_a209_410 : sm_at 209 410 = some (.iconst 1, 1, (0, 0, 0, 0)) := by decide +kernel
theorem sm_a209_411 : sm_at 209 411 = some (.iadd, 1, (0, 0, 0, 0)) := by decide +kernel
theorem sm_a209_412 : sm_at 209 412 = some (.iaload, 1, (0, 0, 0, 0)) := by decide +kernel
theorem sm_a209_413 : sm_at 209 413 = some (.aload_n 0, 1, (0, 0, 0, 0)) := by decide +kernel
theorem sm_a209_414 : sm_at 209 414 = some (.iload_n 3, 1, (0, 0, 0, 0)) := by decide +kernel
theorem sm_a209_415 : sm_at 209 415 = some (.iconst 2, 1, (0, 0, 0, 0)) := by decide +kernel
theorem sm_a209_416 : sm_at 209 416 = some (.iadd, 1, (0, 0, 0, 0)) := by decide +kernel
theorem sm_a209_417 : sm_at 209 417 = some (.iaload, 1, (0, 0, 0, 0)) := by decide +kernel
theorem sm_a209_418 : sm_at 209 418 = some (.aload_n 0, 1, (0, 0, 0, 0)) := by decide +kernel
theorem sm_a209_419 : sm_at 209 419 = some (.iload_n 3, 1, (0, 0, 0, 0)) := by decide +kernel
theorem sm_a209_420 : sm_at 209 420 = some (.iconst 3, 1, (0, 0, 0, 0)) := by decide +kernel
theorem sm_a209_421 : sm_at 209 421 = some (.iadd, 1, (0, 0, 0, 0)) := by decide +kernel
theorem sm_a209_422 : sm_at 209 422 = some (.iaload, 1, (0, 0, 0, 0)) := by decide +kernel
theorem sm_a209_423 : sm_at 209 423 = some (.invokevirtual 54, 3, (10, 9, 0, 727)) := by decide +kernel
theorem sm_a209_426 : sm_at 209 426 = some (.aload_n 2, 1, (0, 0, 0, 0)) := by decide +kernel
theorem sm_a209_427 : sm_at 209 427 = some (.aload_n 0, 1, (0, 0, 0, 0)) := by decide +kernel
theorem sm_a209_428 : sm_at 209 428 = some (.iload_n 3, 1, (0, 0, 0, 0)) := by decide +kernel
theorem sm_a209_429 : sm_at 209 429 = some (.iconst 1, 1, (0, 0, 0, 0)) := by decide +kernel
theorem sm_a209_430 : sm_at 209 430 = some (.iadd, 1, (0, 0, 0, 0)) := by decide +kernel
theorem sm_a209_431 : sm_at 209 431 = some (.iaload, 1, (0, 0, 0, 0)) := by decide +kernel
theorem sm_a209_432 : sm_at 209 432 = some (.aload_n 0, 1, (0, 0, 0, 0)) := by decide +kernel
theorem sm_a209_433 : sm_at 209 433 = some (.iload_n 3, 1, (0, 0, 0, 0)) := by decide +kernel
theorem sm_a209_434 : sm_at 209 434 = some (.iconst 2, 1, (0, 0, 0, 0)) := by decide +kernel
theorem sm_a209_435 : sm_at 209 435 = some (.iadd, 1, (0, 0, 0, 0)) := by decide +kernel
theorem sm_a209_436 : sm_at 209 436 = some (.iaload, 1, (0, 0, 0, 0)) := by decide +kernel
theorem sm_a209_437 : sm_at 209 437 = some (.aload_n 0, 1, (0, 0, 0, 0)) := by decide +kernel
theorem sm_a209_438 : sm_at 209 438 = some (.iload_n 3, 1, (0, 0, 0, 0)) := by decide +kernel
theorem sm_a209_439 : sm_at 209 439 = some (.iconst 3, 1, (0, 0, 0, 0)) := by decide +kernel
theorem sm_a209_440 : sm_at 209 440 = some (.iadd, 1, (0, 0, 0, 0)) := by decide +kernel
theorem sm_a209_441 : sm_at 209 441 = some (.iaload, 1, (0, 0, 0, 0)) := by decide +kernel
theorem sm_a209_442 : sm_at 209 442 = some (.invokevirtual 57, 3, (10, 197, 12, 1506)) := by decide +kernel
theorem sm_a209_445 : sm_at 209 445 = some (.if_icmp .eq 375, 3, (0, 0, 0, 0)) := by decide +kernel
theorem sm_a209_448 : sm_at 209 448 = some (.iconst 0, 1, (0, 0, 0, 0)) := by decide +kernel
theorem sm_a209_449 : sm_at 209 449 = some (.ireturn, 1, (0, 0, 0, 0)) := by decide +kernel
theorem sm_a209_450 : sm_at 209 450 = some (.aload_n 1, 1, (0, 0, 0, 0)) := by decide +kernel
theorem sm_a209_451 : sm_at 209 451 = some (.aload_n 0, 1, (0, 0, 0, 0)) := by decide +kernel
theorem sm_a209_452 : sm_at 209 452 = some (.iload_n 3, 1, (0, 0, 0, 0)) := by decide +kernel
theorem sm_a209_453 : sm_at 209 453 = some (.iconst 1, 1, (0, 0, 0, 0)) := by decide +kernel
theorem sm_a209_454 : sm_at 209 454 = some (.iadd, 1, (0, 0, 0, 0)) := by decide +kernel
theorem sm_a209_455 : sm_at 209 455 = some (.iaload, 1, (0, 0, 0, 0)) := by decide +kernel
theorem sm_a209_456 : sm_at 209 456 = some (.aload_n 0, 1, (0, 0, 0, 0)) := by decide +kernel
theorem sm_a209_457 : sm_at 209 457 = some (.iload_n 3, 1, (0, 0, 0, 0)) := by decide +kernel
theorem sm_a209_458 : sm_at 209 458 = some (.iconst 2, 1, (0, 0, 0, 0)) := by decide +kernel
theorem sm_a209_459 : sm_at 209 459 = some (.iadd, 1, (0, 0, 0, 0)) := by decide +kernel
theorem sm_a209_460 : sm_at 209 460 = some (.iaload, 1, (0, 0, 0, 0)) := by decide +kernel
theorem sm_a209_461 : sm_at 209 461 = some (.aload_n 0, 1, (0, 0, 0, 0)) := by decide +kernel
theorem sm_a209_462 : sm_at 209 462 = some (.iload_n 3, 1, (0, 0, 0, 0)) := by decide +kernel
theorem sm_a209_463 : sm_at 209 463 = some (.iconst 3, 1, (0, 0, 0, 0)) := by decide +kernel
theorem sm_a209_464 : sm_at 209 464 = some (.iadd, 1, (0, 0, 0, 0)) := by decide +kernel
theorem sm_a209_465 : sm_at 209 465 = some (.iaload, 1, (0, 0, 0, 0)) := by decide +kernel
theorem sm_a209_466 : sm_at 209 466 = some (.aload_n 0, 1, (0, 0, 0, 0)) := by decide +kernel
theorem sm_a209_467 : sm_at 209 467 = some (.iload_n 3, 1, (0, 0, 0, 0)) := by decide +kernel
theorem sm_a209_468 : sm_at 209 468 = some (.iconst 4, 1, (0, 0, 0, 0)) := by decide +kernel
theorem sm_a209_469 : sm_at 209 469 = some (.iadd, 1, (0, 0, 0, 0)) := by decide +kernel
theorem sm_a209_470 : sm_at 209 470 = some (.iaload, 1, (0, 0, 0, 0)) := by decide +kernel
theorem sm_a209_471 : sm_at 209 471 = some (.aload_n 0, 1, (0, 0, 0, 0)) := by decide +kernel
theorem sm_a209_472 : sm_at 209 472 = some (.iload_n 3, 1, (0, 0, 0, 0)) := by decide +kernel
theorem sm_a209_473 : sm_at 209 473 = some (.iconst 5, 1, (0, 0, 0, 0)) := by decide +kernel
theorem sm_a209_474 : sm_at 209 474 = some (.iadd, 1, (0, 0, 0, 0)) := by decide +kernel
theorem sm_a209_475 : sm_at 209 475 = some (.iaload, 1, (0, 0, 0, 0)) := by decide +kernel
theorem sm_a209_476 : sm_at 209 476 = some (.invokevirtual 58, 3, (10, 10, 0, 731)) := by decide +kernel
theorem sm_a209_479 : sm_at 209 479 = some (.aload_n 2, 1, (0, 0, 0, 0)) := by decide +kernel
theorem sm_a209_480 : sm_at 209 480 = some (.aload_n 0, 1, (0, 0, 0, 0)) := by decide +kernel
theorem sm_a209_481 : sm_at 209 481 = some (.iload_n 3, 1, (0, 0, 0, 0)) := by decide +kernel
theorem sm_a209_482 : sm_at 209 482 = some (.iconst 1, 1, (0, 0, 0, 0)) := by decide +kernel
theorem sm_a209_483 : sm_at 209 483 = some (.iadd, 1, (0, 0, 0, 0)) := by decide +kernel
theorem sm_a209_484 : sm_at 209 484 = some (.iaload, 1, (0, 0, 0, 0)) := by decide +kernel
theorem sm_a209_485 : sm_at 209 485 = some (.aload_n 0, 1, (0, 0, 0, 0)) := by decide +kernel
theorem sm_a209_486 : sm_at 209 486 = some (.iload_n 3, 1, (0, 0, 0, 0)) := by decide +kernel
theorem sm_a209_487 : sm_at 209 487 = some (.iconst 2, 1, (0, 0, 0, 0)) := by decide +kernel
theorem sm_a209_488 : sm_at 209 488 = some (.iadd, 1, (0, 0, 0, 0)) := by decide +kernel
theorem sm_a209_489 : sm_at 209 489 = some (.iaload, 1, (0, 0, 0, 0)) := by decide +kernel
theorem sm_a209_490 : sm_at 209 490 = some (.aload_n 0, 1, (0, 0, 0, 0)) := by decide +kernel
theorem sm_a209_491 : sm_at 209 491 = some (.iload_n 3, 1, (0, 0, 0, 0)) := by decide +kernel
theorem sm_a209_492 : sm_at 209 492 = some (.iconst 3, 1, (0, 0, 0, 0)) := by decide +kernel
theorem sm_a209_493 : sm_at 209 493 = some (.iadd, 1, (0, 0, 0, 0)) := by decide +kernel
theorem sm_a209_494 : sm_at 209 494 = some (.iaload, 1, (0, 0, 0, 0)) := by decide +kernel
theorem sm_a209_495 : sm_at 209 495 = some (.aload_n 0, 1, (0, 0, 0, 0)) := by decide +kernel
theorem sm_a209_496 : sm_at 209 496 = some (.iload_n 3, 1, (0, 0, 0, 0)) := by decide +kernel
theorem sm_a209_497 : sm_at 209 497 = some (.iconst 4, 1, (0, 0, 0, 0)) := by decide +kernel
theorem sm_a209_498 : sm_at 209 498 = some (.iadd, 1, (0, 0, 0, 0)) := by decide +kernel
theorem sm_a209_499 : sm_at 209 499 = some (.iaload, 1, (0, 0, 0, 0)) := by decide +kernel
theorem sm_a209_500 : sm_at 209 500 = some (.aload_n 0, 1, (0, 0, 0, 0)) := by decide +kernel
theorem sm_a209_501 : sm_at 209 501 = some (.iload_n 3, 1, (0, 0, 0, 0)) := by decide +kernel
theorem sm_a209_502 : sm_at 209 502 = some (.iconst 5, 1, (0, 0, 0, 0)) := by decide +kernel
theorem sm_a209_503 : sm_at 209 503 = some (.iadd, 1, (0, 0, 0, 0)) := by decide +kernel
theorem sm_a209_504 : sm_at 209 504 = some (.iaload, 1, (0, 0, 0, 0)) := by decide +kernel
theorem sm_a209_505 : sm_at 209 505 = some (.invokevirtual 62, 3, (10, 198, 12, 1510)) := by decide +kernel
theorem sm_a209_508 : sm_at 209 508 = some (.if_icmp .eq 312, 3, (0, 0, 0, 0)) := by decide +kernel
theorem sm_a209_511 : sm_at 209 511 = some (.iconst 0, 1, (0, 0, 0, 0)) := by decide +kernel
theorem sm_a209_512 : sm_at 209 512 = some (.ireturn, 1, (0, 0, 0, 0)) := by decide +kernel
theorem sm_a209_513 : sm_at 209 513 = some (.aload_n 1, 1, (0, 0, 0, 0)) := by decide +kernel
theorem sm_a209_514 : sm_at 209 514 = some (.aload_n 0, 1, (0, 0, 0, 0)) := by decide +kernel
theorem sm_a209_515 : sm_at 209 515 = some (.iload_n 3, 1, (0, 0, 0, 0)) := by decide +kernel
theorem sm_a209_516 : sm_at 209 516 = some (.iconst 1, 1, (0, 0, 0, 0)) := by decide +kernel
theorem sm_a209_517 : sm_at 209 517 = some (.iadd, 1, (0, 0, 0, 0)) := by decide +kernel
theorem sm_a209_518 : sm_at 209 518 = some (.iaload, 1, (0, 0, 0, 0)) := by decide +kernel
theorem sm_a209_519 : sm_at 209 519 = some (.invokevirtual 63, 3, (10, 11, 0, 744)) := by decide +kernel
theorem sm_a209_522 : sm_at 209 522 = some (.aload_n 2, 1, (0, 0, 0, 0)) := by decide +kernel
theorem sm_a209_523 : sm_at 209 523 = some (.aload_n 0, 1, (0, 0, 0, 0)) := by decide +kernel
theorem sm_a209_524 : sm_at 209 524 = some (.iload_n 3, 1, (0, 0, 0, 0)) := by decide +kernel
theorem sm_a209_525 : sm_at 209 525 = some (.iconst 1, 1, (0, 0, 0, 0)) := by decide +kernel
theorem sm_a209_526 : sm_at 209 526 = some (.iadd, 1, (0, 0, 0, 0)) := by decide +kernel
theorem sm_a209_527 : sm_at 209 527 = some (.iaload, 1, (0, 0, 0, 0)) := by decide +kernel
theorem sm_a209_528 : sm_at 209 528 = some (.invokevirtual 66, 3, (10, 199, 12, 1515)) := by decide +kernel
theorem sm_a209_531 : sm_at 209 531 = some (.if_icmp .eq 289, 3, (0, 0, 0, 0)) := by decide +kernel
theorem sm_a209_534 : sm_at 209 534 = some (.iconst 0, 1, (0, 0, 0, 0)) := by decide +kernel
theorem sm_a209_535 : sm_at 209 535 = some (.ireturn, 1, (0, 0, 0, 0)) := by decide +kernel
theorem sm_a209_536 : sm_at 209 536 = some (.aload_n 1, 1, (0, 0, 0, 0)) := by decide +kernel
theorem sm_a209_537 : sm_at 209 537 = some (.aload_n 0, 1, (0, 0, 0, 0)) := by decide +kernel
theorem sm_a209_538 : sm_at 209 538 = some (.iload_n 3, 1, (0, 0, 0, 0)) := by decide +kernel
theorem sm_a209_539 : sm_at 209 539 = some (.iconst 1, 1, (0, 0, 0, 0)) := by decide +kernel
theorem sm_a209_540 : sm_at 209 540 = some (.iadd, 1, (0, 0, 0, 0)) := by decide +kernel
theorem sm_a209_541 : sm_at 209 541 = some (.iaload, 1, (0, 0, 0, 0)) := by decide +kernel
theorem sm_a209_542 : sm_at 209 542 = some (.aload_n 0, 1, (0, 0, 0, 0)) := by decide +kernel
theorem sm_a209_543 : sm_at 209 543 = some (.iload_n 3, 1, (0, 0, 0, 0)) := by decide +kernel
theorem sm_a209_544 : sm_at 209 544 = some (.iconst 2, 1, (0, 0, 0, 0)) := by decide +kernel
theorem sm_a209_545 : sm_at 209 545 = some (.iadd, 1, (0, 0, 0, 0)) := by decide +kernel
theorem sm_a209_546 : sm_at 209 546 = some (.iaload, 1, (0, 0, 0, 0)) := by decide +kernel
theorem sm_a209_547 : sm_at 209 547 = some (.aload_n 0, 1, (0, 0, 0, 0)) := by decide +kernel
theorem sm_a209_548 : sm_at 209 548 = some (.iload_n 3, 1, (0, 0, 0, 0)) := by decide +kernel
theorem sm_a209_549 : sm_at 209 549 = some (.iconst 3, 1, (0, 0, 0, 0)) := by decide +kernel
theorem sm_a209_550 : sm_at 209 550 = some (.iadd, 1, (0, 0, 0, 0)) := by decide +kernel
theorem sm_a209_551 : sm_at 209 551 = some (.iaload, 1, (0, 0, 0, 0)) := by decide +kernel
theorem sm_a209_552 : sm_at 209 552 = some (.invokevirtual 67, 3, (10, 12, 0, 1113)) := by decide +kernel
theorem sm_a209_555 : sm_at 209 555 = some (.aload_n 2, 1, (0, 0, 0, 0)) := by decide +kernel
theorem sm_a209_556 : sm_at 209 556 = some (.aload_n 0, 1, (0, 0, 0, 0)) := by decide +kernel
theorem sm_a209_557 : sm_at 209 557 = some (.iload_n 3, 1, (0, 0, 0, 0)) := by decide +kernel
theorem sm_a209_558 : sm_at 209 558 = some (.iconst 1, 1, (0, 0, 0, 0)) := by decide +kernel
theorem sm_a209_559 : sm_at 209 559 = some (.iadd, 1, (0, 0, 0, 0)) := by decide +kernel
theorem sm_a209_560 : sm_at 209 560 = some (.iaload, 1, (0, 0, 0, 0)) := by decide +kernel
theorem sm_a209_561 : sm_at 209 561 = some (.aload_n 0, 1, (0, 0, 0, 0)) := by decide +kernel
theorem sm_a209_562 : sm_at 209 562 = some (.iload_n 3, 1, (0, 0, 0, 0)) := by decide +kernel
theorem sm_a209_563 : sm_at 209 563 = some (.iconst 2, 1, (0, 0, 0, 0)) := by decide +kernel
theorem sm_a209_564 : sm_at 209 564 = some (.iadd, 1, (0, 0, 0, 0)) := by decide +kernel
theorem sm_a209_565 : sm_at 209 565 = some (.iaload, 1, (0, 0, 0, 0)) := by decide +kernel
theorem sm_a209_566 : sm_at 209 566 = some (.aload_n 0, 1, (0, 0, 0, 0)) := by decide +kernel
theorem sm_a209_567 : sm_at 209 567 = some (.iload_n 3, 1, (0, 0, 0, 0)) := by decide +kernel
theorem sm_a209_568 : sm_at 209 568 = some (.iconst 3, 1, (0, 0, 0, 0)) := by decide +kernel
theorem sm_a209_569 : sm_at 209 569 = some (.iadd, 1, (0, 0, 0, 0)) := by decide +kernel
theorem sm_a209_570 : sm_at 209 570 = some (.iaload, 1, (0, 0, 0, 0)) := by decide +kernel
theorem sm_a209_571 : sm_at 209 571 = some (.invokevirtual 70, 3, (10, 200, 12, 1653)) := by decide +kernel
theorem sm_a209_574 : sm_at 209 574 = some (.if_icmp .eq 246, 3, (0, 0, 0, 0)) := by decide +kernel
theorem sm_a209_577 : sm_at 209 577 = some (.iconst 0, 1, (0, 0, 0, 0)) := by decide +kernel
theorem sm_a209_578 : sm_at 209 578 = some (.ireturn, 1, (0, 0, 0, 0)) := by decide +kernel
theorem sm_a209_579 : sm_at 209 579 = some (.aload_n 1, 1, (0, 0, 0, 0)) := by decide +kernel
theorem sm_a209_580 : sm_at 209 580 = some (.aload_n 0, 1, (0, 0, 0, 0)) := by decide +kernel
theorem sm_a209_581 : sm_at 209 581 = some (.iload_n 3, 1, (0, 0, 0, 0)) := by decide +kernel
theorem sm_a209_582 : sm_at 209 582 = some (.iconst 1, 1, (0, 0, 0, 0)) := by decide +kernel
theorem sm_a209_583 : sm_at 209 583 = some (.iadd, 1, (0, 0, 0, 0)) := by decide +kernel
theorem sm_a209_584 : sm_at 209 584 = some (.iaload, 1, (0, 0, 0, 0)) := by decide +kernel
theorem sm_a209_585 : sm_at 209 585 = some (.aload_n 0, 1, (0, 0, 0, 0)) := by decide +kernel
theorem sm_a209_586 : sm_at 209 586 = some (.iload_n 3, 1, (0, 0, 0, 0)) := by decide +kernel
theorem sm_a209_587 : sm_at 209 587 = some (.iconst 2, 1, (0, 0, 0, 0)) := by decide +kernel
theorem sm_a209_588 : sm_at 209 588 = some (.iadd, 1, (0, 0, 0, 0)) := by decide +kernel
theorem sm_a209_589 : sm_at 209 589 = some (.iaload, 1, (0, 0, 0, 0)) := by decide +kernel
theorem sm_a209_590 : sm_at 209 590 = some (.invokevirtual 71, 3, (10, 13, 0, 1123)) := by decide +kernel
theorem sm_a209_593 : sm_at 209 593 = some (.aload_n 2, 1, (0, 0, 0, 0)) := by decide +kernel
theorem sm_a209_594 : sm_at 209 594 = some (.aload_n 0, 1, (0, 0, 0, 0)) := by decide +kernel
theorem sm_a209_595 : sm_at 209 595 = some (.iload_n 3, 1, (0, 0, 0, 0)) := by decide +kernel
theorem sm_a209_596 : sm_at 209 596 = some (.iconst 1, 1, (0, 0, 0, 0)) := by decide +kernel
theorem sm_a209_597 : sm_at 209 597 = some (.iadd, 1, (0, 0, 0, 0)) := by decide +kernel
theorem sm_a209_598 : sm_at 209 598 = some (.iaload, 1, (0, 0, 0, 0)) := by decide +kernel
theorem sm_a209_599 : sm_at 209 599 = some (.aload_n 0, 1, (0, 0, 0, 0)) := by decide +kernel
theorem sm_a209_600 : sm_at 209 600 = some (.iload_n 3, 1, (0, 0, 0, 0)) := by decide +kernel
theorem sm_a209_601 : sm_at 209 601 = some (.iconst 2, 1, (0, 0, 0, 0)) := by decide +kernel
theorem sm_a209_602 : sm_at 209 602 = some (.iadd, 1, (0, 0, 0, 0)) := by decide +kernel
theorem sm_a209_603 : sm_at 209 603 = some (.iaload, 1, (0, 0, 0, 0)) := by decide +kernel
theorem sm_a209_604 : sm_at 209 604 = some (.invokevirtual 75, 3, (10, 201, 12, 1657)) := by decide +kernel
theorem sm_a209_607 : sm_at 209 607 = some (.if_icmp .eq 213, 3, (0, 0, 0, 0)) := by decide +kernel
theorem sm_a209_610 : sm_at 209 610 = some (.iconst 0, 1, (0, 0, 0, 0)) := by decide +kernel
theorem sm_a209_611 : sm_at 209 611 = some (.ireturn, 1, (0, 0, 0, 0)) := by decide +kernel
theorem sm_a209_612 : sm_at 209 612 = some (.aload_n 1, 1, (0, 0, 0, 0)) := by decide +kernel
theorem sm_a209_613 : sm_at 209 613 = some (.aload_n 0, 1, (0, 0, 0, 0)) := by decide +kernel
theorem sm_a209_614 : sm_at 209 614 = some (.iload_n 3, 1, (0, 0, 0, 0)) := by decide +kernel
theorem sm_a209_615 : sm_at 209 615 = some (.iconst 1, 1, (0, 0, 0, 0)) := by decide +kernel
theorem sm_a209_616 : sm_at 209 616 = some (.iadd, 1, (0, 0, 0, 0)) := by decide +kernel
theorem sm_a209_617 : sm_at 209 617 = some (.iaload, 1, (0, 0, 0, 0)) := by decide +kernel
theorem sm_a209_618 : sm_at 209 618 = some (.aload_n 0, 1, (0, 0, 0, 0)) := by decide +kernel
theorem sm_a209_619 : sm_at 209 619 = some (.iload_n 3, 1, (0, 0, 0, 0)) := by decide +kernel
theorem sm_a209_620 : sm_at 209 620 = some (.iconst 2, 1, (0, 0, 0, 0)) := by decide +kernel
theorem sm_a209_621 : sm_at 209 621 = some (.iadd, 1, (0, 0, 0, 0)) := by decide +kernel
theorem sm_a209_622 : sm_at 209 622 = some (.iaload, 1, (0, 0, 0, 0)) := by decide +kernel
theorem sm_a209_623 : sm_at 209 623 = some (.aload_n 0, 1, (0, 0, 0, 0)) := by decide +kernel
theorem sm_a209_624 : sm_at 209 624 = some (.iload_n 3, 1, (0, 0, 0, 0)) := by decide +kernel
theorem sm_a209_625 : sm_at 209 625 = some (.iconst 3, 1, (0, 0, 0, 0)) := by decide +kernel
theorem sm_a209_626 : sm_at 209 626 = some (.iadd, 1, (0, 0, 0, 0)) := by decide +kernel
theorem sm_a209_627 : sm_at 209 627 = some (.iaload, 1, (0, 0, 0, 0)) := by decide +kernel
theorem sm_a209_628 : sm_at 209 628 = some (.invokevirtual 76, 3, (10, 15, 0, 1127)) := by decide +kernel
theorem sm_a209_631 : sm_at 209 631 = some (.aload_n 2, 1, (0, 0, 0, 0)) := by decide +kernel
theorem sm_a209_632 : sm_at 209 632 = some (.aload_n 0, 1, (0, 0, 0, 0)) := by decide +kernel
theorem sm_a209_633 : sm_at 209 633 = some (.iload_n 3, 1, (0, 0, 0, 0)) := by decide +kernel
theorem sm_a209_634 : sm_at 209 634 = some (.iconst 1, 1, (0, 0, 0, 0)) := by decide +kernel
theorem sm_a209_635 : sm_at 209 635 = some (.iadd, 1, (0, 0, 0, 0)) := by decide +kernel
theorem sm_a209_636 : sm_at 209 636 = some (.iaload, 1, (0, 0, 0, 0)) := by decide +kernel
theorem sm_a209_637 : sm_at 209 637 = some (.aload_n 0, 1, (0, 0, 0, 0)) := by decide +kernel
theorem sm_a209_638 : sm_at 209 638 = some (.iload_n 3, 1, (0, 0, 0, 0)) := by decide +kernel
theorem sm_a209_639 : sm_at 209 639 = some (.iconst 2, 1, (0, 0, 0, 0)) := by decide +kernel
theorem sm_a209_640 : sm_at 209 640 = some (.iadd, 1, (0, 0, 0, 0)) := by decide +kernel
theorem sm_a209_641 : sm_at 209 641 = some (.iaload, 1, (0, 0, 0, 0)) := by decide +kernel
theorem sm_a209_642 : sm_at 209 642 = some (.aload_n 0, 1, (0, 0, 0, 0)) := by decide +kernel
theorem sm_a209_643 : sm_at 209 643 = some (.iload_n 3, 1, (0, 0, 0, 0)) := by decide +kernel
theorem sm_a209_644 : sm_at 209 644 = some (.iconst 3, 1, (0, 0, 0, 0)) := by decide +kernel
theorem sm_a209_645 : sm_at 209 645 = some (.iadd, 1, (0, 0, 0, 0)) := by decide +kernel
theorem sm_a209_646 : sm_at 209 646 = some (.iaload, 1, (0, 0, 0, 0)) := by decide +kernel
theorem sm_a209_647 : sm_at 209 647 = some (.invokevirtual 80, 3, (10, 202, 12, 1661)) := by decide +kernel
theorem sm_a209_650 : sm_at 209 650 = some (.if_icmp .eq 170, 3, (0, 0, 0, 0)) := by decide +kernel
theorem sm_a209_653 : sm_at 209 653 = some (.iconst 0, 1, (0, 0, 0, 0)) := by decide +kernel
theorem sm_a209_654 : sm_at 209 654 = some (.ireturn, 1, (0, 0, 0, 0)) := by decide +kernel
theorem sm_a209_655 : sm_at 209 655 = some (.aload_n 1, 1, (0, 0, 0, 0)) := by decide +kernel
theorem sm_a209_656 : sm_at 209 656 = some (.aload_n 0, 1, (0, 0, 0, 0)) := by decide +kernel
theorem sm_a209_657 : sm_at 209 657 = some (.iload_n 3, 1, (0, 0, 0, 0)) := by decide +kernel
theorem sm_a209_658 : sm_at 209 658 = some (.iconst 1, 1, (0, 0, 0, 0)) := by decide +kernel
theorem sm_a209_659 : sm_at 209 659 = some (.iadd, 1, (0, 0, 0, 0)) := by decide +kernel
theorem sm_a209_660 : sm_at 209 660 = some (.iaload, 1, (0, 0, 0, 0)) := by decide +kernel
theorem sm_a209_661 : sm_at 209 661 = some (.invokevirtual 81, 3, (10, 16, 0, 1135)) := by decide +kernel
theorem sm_a209_664 : sm_at 209 664 = some (.aload_n 2, 1, (0, 0, 0, 0)) := by decide +kernel
theorem sm_a209_665 : sm_at 209 665 = some (.aload_n 0, 1, (0, 0, 0, 0)) := by decide +kernel
theorem sm_a209_666 : sm_at 209 666 = some (.iload_n 3, 1, (0, 0, 0, 0)) := by decide +kernel
theorem sm_a209_667 : sm_at 209 667 = some (.iconst 1, 1, (0, 0, 0, 0)) := by decide +kernel
theorem sm_a209_668 : sm_at 209 668 = some (.iadd, 1, (0, 0, 0, 0)) := by decide +kernel
theorem sm_a209_669 : sm_at 209 669 = some (.iaload, 1, (0, 0, 0, 0)) := by decide +kernel
theorem sm_a209_670 : sm_at 209 670 = some (.invokevirtual 84, 3, (10, 203, 12, 1665)) := by decide +kernel
theorem sm_a209_673 : sm_at 209 673 = some (.if_icmp .eq 147, 3, (0, 0, 0, 0)) := by decide +kernel
theorem sm_a209_676 : sm_at 209 676 = some (.iconst 0, 1, (0, 0, 0, 0)) := by decide +kernel
theorem sm_a209_677 : sm_at 209 677 = some (.ireturn, 1, (0, 0, 0, 0)) := by decide +kernel
theorem sm_a209_678 : sm_at 209 678 = some (.aload_n 1, 1, (0, 0, 0, 0)) := by decide +kernel
theorem sm_a209_679 : sm_at 209 679 = some (.aload_n 0, 1, (0, 0, 0, 0)) := by decide +kernel
theorem sm_a209_680 : sm_at 209 680 = some (.iload_n 3, 1, (0, 0, 0, 0)) := by decide +kernel
theorem sm_a209_681 : sm_at 209 681 = some (.iconst 1, 1, (0, 0, 0, 0)) := by decide +kernel
theorem sm_a209_682 : sm_at 209 682 = some (.iadd, 1, (0, 0, 0, 0)) := by decide +kernel
theorem sm_a209_683 : sm_at 209 683 = some (.iaload, 1, (0, 0, 0, 0)) := by decide +kernel
theorem sm_a209_684 : sm_at 209 684 = some (.aload_n 0, 1, (0, 0, 0, 0)) := by decide +kernel
theorem sm_a209_685 : sm_at 209 685 = some (.iload_n 3, 1, (0, 0, 0, 0)) := by decide +kernel
theorem sm_a209_686 : sm_at 209 686 = some (.iconst 2, 1, (0, 0, 0, 0)) := by decide +kernel
theorem sm_a209_687 : sm_at 209 687 = some (.iadd, 1, (0, 0, 0, 0)) := by decide +kernel
theorem sm_a209_688 : sm_at 209 688 = some (.iaload, 1, (0, 0, 0, 0)) := by decide +kernel
theorem sm_a209_689 : sm_at 209 689 = some (.invokevirtual 85, 3, (10, 17, 0, 1139)) := by decide +kernel
theorem sm_a209_692 : sm_at 209 692 = some (.aload_n 2, 1, (0, 0, 0, 0)) := by decide +kernel
theorem sm_a209_693 : sm_at 209 693 = some (.aload_n 0, 1, (0, 0, 0, 0)) := by decide +kernel
theorem sm_a209_694 : sm_at 209 694 = some (.iload_n 3, 1, (0, 0, 0, 0)) := by decide +kernel
theorem sm_a209_695 : sm_at 209 695 = some (.iconst 1, 1, (0, 0, 0, 0)) := by decide +kernel
theorem sm_a209_696 : sm_at 209 696 = some (.iadd, 1, (0, 0, 0, 0)) := by decide +kernel
theorem sm_a209_697 : sm_at 209 697 = some (.iaload, 1, (0, 0, 0, 0)) := by decide +kernel
theorem sm_a209_698 : sm_at 209 698 = some (.aload_n 0, 1, (0, 0, 0, 0)) := by decide +kernel
theorem sm_a209_699 : sm_at 209 699 = some (.iload_n 3, 1, (0, 0, 0, 0)) := by decide +kernel
theorem sm_a209_700 : sm_at 209 700 = some (.iconst 2, 1, (0, 0, 0, 0)) := by decide +kernel
theorem sm_a209_701 : sm_at 209 701 = some (.iadd, 1, (0, 0, 0, 0)) := by decide +kernel
theorem sm_a209_702 : sm_at 209 702 = some (.iaload, 1, (0, 0, 0, 0)) := by decide +kernel
theorem sm_a209_703 : sm_at 209 703 = some (.invokevirtual 88, 3, (10, 204, 12, 1669)) := by decide +kernel
theorem sm_a209_706 : sm_at 209 706 = some (.if_icmp .eq 114, 3, (0, 0, 0, 0)) := by decide +kernel
theorem sm_a209_709 : sm_at 209 709 = some (.iconst 0, 1, (0, 0, 0, 0)) := by decide +kernel
theorem sm_a209_710 : sm_at 209 710 = some (.ireturn, 1, (0, 0, 0, 0)) := by decide +kernel
theorem sm_a209_711 : sm_at 209 711 = some (.aload_n 1, 1, (0, 0, 0, 0)) := by decide +kernel
theorem sm_a209_712 : sm_at 209 712 = some (.aload_n 0, 1, (0, 0, 0, 0)) := by decide +kernel
theorem sm_a209_713 : sm_at 209 713 = some (.iload_n 3, 1, (0, 0, 0, 0)) := by decide +kernel
theorem sm_a209_714 : sm_at 209 714 = some (.iconst 1, 1, (0, 0, 0, 0)) := by decide +kernel
theorem sm_a209_715 : sm_at 209 715 = some (.iadd, 1, (0, 0, 0, 0)) := by decide +kernel
theorem sm_a209_716 : sm_at 209 716 = some (.iaload, 1, (0, 0, 0, 0)) := by decide +kernel
theorem sm_a209_717 : sm_at 209 717 = some (.aload_n 0, 1, (0, 0, 0, 0)) := by decide +kernel
theorem sm_a209_718 : sm_at 209 718 = some (.iload_n 3, 1, (0, 0, 0, 0)) := by decide +kernel
theorem sm_a209_719 : sm_at 209 719 = some (.iconst 2, 1, (0, 0, 0, 0)) := by decide +kernel
theorem sm_a209_720 : sm_at 209 720 = some (.iadd, 1, (0, 0, 0, 0)) := by decide +kernel
theorem sm_a209_721 : sm_at 209 721 = some (.iaload, 1, (0, 0, 0, 0)) := by decide +kernel
theorem sm_a209_722 : sm_at 209 722 = some (.invokevirtual 89, 3, (10, 18, 0, 1144)) := by decide +kernel
theorem sm_a209_725 : sm_at 209 725 = some (.aload_n 2, 1, (0, 0, 0, 0)) := by decide +kernel
theorem sm_a209_726 : sm_at 209 726 = some (.aload_n 0, 1, (0, 0, 0, 0)) := by decide +kernel
theorem sm_a209_727 : sm_at 209 727 = some (.iload_n 3, 1, (0, 0, 0, 0)) := by decide +kernel
theorem sm_a209_728 : sm_at 209 728 = some (.iconst 1, 1, (0, 0, 0, 0)) := by decide +kernel
theorem sm_a209_729 : sm_at 209 729 = some (.iadd, 1, (0, 0, 0, 0)) := by decide +kernel
theorem sm_a209_730 : sm_at 209 730 = some (.iaload, 1, (0, 0, 0, 0)) := by decide +kernel
theorem sm_a209_731 : sm_at 209 731 = some (.aload_n 0, 1, (0, 0, 0, 0)) := by decide +kernel
theorem sm_a209_732 : sm_at 209 732 = some (.iload_n 3, 1, (0, 0, 0, 0)) := by decide +kernel
theorem sm_a209_733 : sm_at 209 733 = some (.iconst 2, 1, (0, 0, 0, 0)) := by decide +kernel
theorem sm_a209_734 : sm_at 209 734 = some (.iadd, 1, (0, 0, 0, 0)) := by decide +kernel
theorem sm_a209_735 : sm_at 209 735 = some (.iaload, 1, (0, 0, 0, 0)) := by decide +kernel
theorem sm_a209_736 : sm_at 209 736 = some (.invokevirtual 92, 3, (10, 205, 12, 1673)) := by decide +kernel
theorem sm_a209_739 : sm_at 209 739 = some (.if_icmp .eq 81, 3, (0, 0, 0, 0)) := by decide +kernel
theorem sm_a209_742 : sm_at 209 742 = some (.iconst 0, 1, (0, 0, 0, 0)) := by decide +kernel
theorem sm_a209_743 : sm_at 209 743 = some (.ireturn, 1, (0, 0, 0, 0)) := by decide +kernel
theorem sm_a209_744 : sm_at 209 744 = some (.aload_n 1, 1, (0, 0, 0, 0)) := by decide +kernel
theorem sm_a209_745 : sm_at 209 745 = some (.aload_n 0, 1, (0, 0, 0, 0)) := by decide +kernel
theorem sm_a209_746 : sm_at 209 746 = some (.iload_n 3, 1, (0, 0, 0, 0)) := by decide +kernel
theorem sm_a209_747 : sm_at 209 747 = some (.iconst 1, 1, (0, 0, 0, 0)) := by decide +kernel
theorem sm_a209_748 : sm_at 209 748 = some (.iadd, 1, (0, 0, 0, 0)) := by decide +kernel
theorem sm_a209_749 : sm_at 209 749 = some (.iaload, 1, (0, 0, 0, 0)) := by decide +kernel
theorem sm_a209_750 : sm_at 209 750 = some (.aload_n 0, 1, (0, 0, 0, 0)) := by decide +kernel
theorem sm_a209_751 : sm_at 209 751 = some (.iload_n 3, 1, (0, 0, 0, 0)) := by decide +kernel
theorem sm_a209_752 : sm_at 209 752 = some (.iconst 2, 1, (0, 0, 0, 0)) := by decide +kernel
theorem sm_a209_753 : sm_at 209 753 = some (.iadd, 1, (0, 0, 0, 0)) := by decide +kernel
theorem sm_a209_754 : sm_at 209 754 = some (.iaload, 1, (0, 0, 0, 0)) := by decide +kernel
theorem sm_a209_755 : sm_at 209 755 = some (.aload_n 0, 1, (0, 0, 0, 0)) := by decide +kernel
theorem sm_a209_756 : sm_at 209 756 = some (.iload_n 3, 1, (0, 0, 0, 0)) := by decide +kernel
theorem sm_a209_757 : sm_at 209 757 = some (.iconst 3, 1, (0, 0, 0, 0)) := by decide +kernel
theorem sm_a209_758 : sm_at 209 758 = some (.iadd, 1, (0, 0, 0, 0)) := by decide +kernel
theorem sm_a209_759 : sm_at 209 759 = some (.iaload, 1, (0, 0, 0, 0)) := by decide +kernel
theorem sm_a209_760 : sm_at 209 760 = some (.invokevirtual 93, 3, (10, 19, 0, 1148)) := by decide +kernel
theorem sm_a209_763 : sm_at 209 763 = some (.aload_n 2, 1, (0, 0, 0, 0)) := by decide +kernel
theorem sm_a209_764 : sm_at 209 764 = some (.aload_n 0, 1, (0, 0, 0, 0)) := by decide +kernel
theorem sm_a209_765 : sm_at 209 765 = some (.iload_n 3, 1, (0, 0, 0, 0)) := by decide +kernel
theorem sm_a209_766 : sm_at 209 766 = some (.iconst 1, 1, (0, 0, 0, 0)) := by decide +kernel
theorem sm_a209_767 : sm_at 209 767 = some (.iadd, 1, (0, 0, 0, 0)) := by decide +kernel
theorem sm_a209_768 : sm_at 209 768 = some (.iaload, 1, (0, 0, 0, 0)) := by decide +kernel
theorem sm_a209_769 : sm_at 209 769 = some (.aload_n 0, 1, (0, 0, 0, 0)) := by decide +kernel
theorem sm_a209_770 : sm_at 209 770 = some (.iload_n 3, 1, (0, 0, 0, 0)) := by decide +kernel
theorem sm_a209_771 : sm_at 209 771 = some (.iconst 2, 1, (0, 0, 0, 0)) := by decide +kernel
theorem sm_a209_772 : sm_at 209 772 = some (.iadd, 1, (0, 0, 0, 0)) := by decide +kernel
theorem sm_a209_773 : sm_at 209 773 = some (.iaload, 1, (0, 0, 0, 0)) := by decide +kernel
theorem sm_a209_774 : sm_at 209 774 = some (.aload_n 0, 1, (0, 0, 0, 0)) := by decide +kernel
theorem sm_a209_775 : sm_at 209 775 = some (.iload_n 3, 1, (0, 0, 0, 0)) := by decide +kernel
theorem sm_a209_776 : sm_at 209 776 = some (.iconst 3, 1, (0, 0, 0, 0)) := by decide +kernel
theorem sm_a209_777 : sm_at 209 777 = some (.iadd, 1, (0, 0, 0, 0)) := by decide +kernel
theorem sm_a209_778 : sm_at 209 778 = some (.iaload, 1, (0, 0, 0, 0)) := by decide +kernel
theorem sm_a209_779 : sm_at 209 779 = some (.invokevirtual 96, 3, (10, 206, 12, 1677)) := by decide +kernel
theorem sm_a209_782 : sm_at 209 782 = some (.if_icmp .eq 38, 3, (0, 0, 0, 0)) := by decide +kernel
theorem sm_a209_785 : sm_at 209 785 = some (.iconst 0, 1, (0, 0, 0, 0)) := by decide +kernel
theorem sm_a209_786 : sm_at 209 786 = some (.ireturn, 1, (0, 0, 0, 0)) := by decide +kernel
theorem sm_a209_787 : sm_at 209 787 = some (.aload_n 1, 1, (0, 0, 0, 0)) := by decide +kernel
theorem sm_a209_788 : sm_at 209 788 = some (.aload_n 0, 1, (0, 0, 0, 0)) := by decide +kernel
theorem sm_a209_789 : sm_at 209 789 = some (.iload_n 3, 1, (0, 0, 0, 0)) := by decide +kernel
theorem sm_a209_790 : sm_at 209 790 = some (.iconst 1, 1, (0, 0, 0, 0)) := by decide +kernel
theorem sm_a209_791 : sm_at 209 791 = some (.iadd, 1, (0, 0, 0, 0)) := by decide +kernel
theorem sm_a209_792 : sm_at 209 792 = some (.iaload, 1, (0, 0, 0, 0)) := by decide +kernel
theorem sm_a209_793 : sm_at 209 793 = some (.aload_n 0, 1, (0, 0, 0, 0)) := by decide +kernel
theorem sm_a209_794 : sm_at 209 794 = some (.iload_n 3, 1, (0, 0, 0, 0)) := by decide +kernel
theorem sm_a209_795 : sm_at 209 795 = some (.iconst 2, 1, (0, 0, 0, 0)) := by decide +kernel
theorem sm_a209_796 : sm_at 209 796 = some (.iadd, 1, (0, 0, 0, 0)) := by decide +kernel
theorem sm_a209_797 : sm_at 209 797 = some (.iaload, 1, (0, 0, 0, 0)) := by decide +kernel
theorem sm_a209_798 : sm_at 209 798 = some (.invokevirtual 97, 3, (10, 20, 0, 1153)) := by decide +kernel
theorem sm_a209_801 : sm_at 209 801 = some (.aload_n 2, 1, (0, 0, 0, 0)) := by decide +kernel
theorem sm_a209_802 : sm_at 209 802 = some (.aload_n 0, 1, (0, 0, 0, 0)) := by decide +kernel
theorem sm_a209_803 : sm_at 209 803 = some (.iload_n 3, 1, (0, 0, 0, 0)) := by decide +kernel
theorem sm_a209_804 : sm_at 209 804 = some (.iconst 1, 1, (0, 0, 0, 0)) := by decide +kernel
theorem sm_a209_805 : sm_at 209 805 = some (.iadd, 1, (0, 0, 0, 0)) := by decide +kernel
theorem sm_a209_806 : sm_at 209 806 = some (.iaload, 1, (0, 0, 0, 0)) := by decide +kernel
theorem sm_a209_807 : sm_at 209 807 = some (.aload_n 0, 1, (0, 0, 0, 0)) := by decide +kernel
theorem sm_a209_808 : sm_at 209 808 = some (.iload_n 3, 1, (0, 0, 0, 0)) := by decide +kernel
theorem sm_a209_809 : sm_at 209 809 = some (.iconst 2, 1, (0, 0, 0, 0)) := by decide +kernel
theorem sm_a209_810 : sm_at 209 810 = some (.iadd, 1, (0, 0, 0, 0)) := by decide +kernel
theorem sm_a209_811 : sm_at 209 811 = some (.iaload, 1, (0, 0, 0, 0)) := by decide +kernel
theorem sm_a209_812 : sm_at 209 812 = some (.invokevirtual 100, 3, (10, 207, 12, 1681)) := by decide +kernel
theorem sm_a209_815 : sm_at 209 815 = some (.if_icmp .eq 5, 3, (0, 0, 0, 0)) := by decide +kernel
theorem sm_a209_818 : sm_at 209 818 = some (.iconst 0, 1, (0, 0, 0, 0)) := by decide +kernel
theorem sm_a209_819 : sm_at 209 819 = some (.ireturn, 1, (0, 0, 0, 0)) := by decide +kernel
theorem sm_a209_820 : sm_at 209 820 = some (.iinc 3 6, 3, (0, 0, 0, 0)) := by decide +kernel
theorem sm_a209_823 : sm_at 209 823 = some (.goto (-795), 3, (0, 0, 0, 0)) := by decide +kernel
theorem sm_a209_826 : sm_at 209 826 = some (.iconst 1, 1, (0, 0, 0, 0)) := by decide +kernel
theorem sm_a209_827 : sm_at 209 827 = some (.ireturn, 1, (0, 0, 0, 0)) := by decide +kernel
theorem bb_209_0 {d : Nat} {M : sm_M} {Q : Option sm_V → sm_M → Prop} {r0 : Option Nat} {z1 : Option sm_V} {z2 : Option sm_V} {z3 : Option sm_V}
    (h : sm_Run d 208 0 (sm_ent 208 [.inr r0, .inl 0]) [] (sm_new M 3 0 5) (fun v M1 => sm_Run (d + 1) 209 9 [some (.inr r0), z1, z2, z3] (v.toList ++ [.inr (some (sm_N M)), .inr (some (sm_N M))]) M1 Q)) :
    sm_Run (d + 1) 209 0 [some (.inr r0), z1, z2, z3] [] M Q := by
  refine ru_go (t := (3, [some (.inr r0), z1, z2, z3], [.inr (some (sm_N M))], sm_new M 3 0 5)) sm_a209_0 rfl rfl rfl ?_
  refine ru_go (t := (4, [some (.inr r0), z1, z2, z3], [.inr (some (sm_N M)), .inr (some (sm_N M))], sm_new M 3 0 5)) sm_a209_3 rfl rfl rfl ?_
  refine ru_go (t := (5, [some (.inr r0), z1, z2, z3], [.inr r0, .inr (some (sm_N M)), .inr (some (sm_N M))], sm_new M 3 0 5)) sm_a209_4 rfl rfl rfl ?_
  refine ru_go (t := (6, [some (.inr r0), z1, z2, z3], [.inl 0, .inr r0, .inr (some (sm_N M)), .inr (some (sm_N M))], sm_new M 3 0 5)) sm_a209_5 rfl rfl (st_iconst (by decide)) ?_
  exact ru_call (p := 9) sm_a209_6 rfl (sc_stat (Or.inl rfl) (Nat.le_of_ble_eq_true rfl) rfl rfl (Nat.le_of_ble_eq_true rfl)) rfl h
theorem bb_209_9 {d : Nat} {M : sm_M} {Q : Option sm_V → sm_M → Prop} {r0 : Option Nat} {z1 : Option sm_V} {z2 : Option sm_V} {z3 : Option sm_V} {y0 : Int32} {t1 : Option Nat} {t2 : Option Nat}
    (h : ∃ b_1, t1 = some b_1 ∧ sm_Run d 0 0 (sm_ent 0 [.inr (some b_1), .inl y0]) [] M (fun v M1 => sm_Run (d + 1) 209 12 [some (.inr r0), z1, z2, z3] (v.toList ++ [.inr t2]) M1 Q)) :
    sm_Run (d + 1) 209 9 [some (.inr r0), z1, z2, z3] [.inl y0, .inr t1, .inr t2] M Q := by
  obtain ⟨b_1, hb_2, h⟩ := h
  rw [hb_2]
  exact ru_call (p := 12) sm_a209_9 rfl (sc_spec (Or.inl rfl) rfl rfl (Nat.le_of_ble_eq_true rfl)) rfl h
theorem bb_209_12 {d : Nat} {M : sm_M} {Q : Option sm_V → sm_M → Prop} {r0 : Option Nat} {z1 : Option sm_V} {z2 : Option sm_V} {z3 : Option sm_V} {t0 : Option Nat}
    (h : sm_Run d 208 0 (sm_ent 208 [.inr r0, .inl 0]) [] (sm_new M 39 0 88) (fun v M1 => sm_Run (d + 1) 209 22 [some (.inr r0), some (.inr t0), z2, z3] (v.toList ++ [.inr (some (sm_N M)), .inr (some (sm_N M))]) M1 Q)) :
    sm_Run (d + 1) 209 12 [some (.inr r0), z1, z2, z3] [.inr t0] M Q := by
  refine ru_go (t := (13, [some (.inr r0), some (.inr t0), z2, z3], [], M)) sm_a209_12 rfl rfl rfl ?_
  refine ru_go (t := (16, [some (.inr r0), some (.inr t0), z2, z3], [.inr (some (sm_N M))], sm_new M 39 0 88)) sm_a209_13 rfl rfl rfl ?_
  refine ru_go (t := (17, [some (.inr r0), some (.inr t0), z2, z3], [.inr (some (sm_N M)), .inr (some (sm_N M))], sm_new M 39 0 88)) sm_a209_16 rfl rfl rfl ?_
  refine ru_go (t := (18, [some (.inr r0), some (.inr t0), z2, z3], [.inr r0, .inr (some (sm_N M)), .inr (some (sm_N M))], sm_new M 39 0 88)) sm_a209_17 rfl rfl rfl ?_
  refine ru_go (t := (19, [some (.inr r0), some (.inr t0), z2, z3], [.inl 0, .inr r0, .inr (some (sm_N M)), .inr (some (sm_N M))], sm_new M 39 0 88)) sm_a209_18 rfl rfl (st_iconst (by decide)) ?_
  exact ru_call (p := 22) sm_a209_19 rfl (sc_stat (Or.inl rfl) (Nat.le_of_ble_eq_true rfl) rfl rfl (Nat.le_of_ble_eq_true rfl)) rfl h
theorem bb_209_22 {d : Nat} {M : sm_M} {Q : Option sm_V → sm_M → Prop} {r0 : Option Nat} {r1 : Option Nat} {z2 : Option sm_V} {z3 : Option sm_V} {y0 : Int32} {t1 : Option Nat} {t2 : Option Nat}
    (h : ∃ b_1, t1 = some b_1 ∧ sm_Run d 150 0 (sm_ent 150 [.inr (some b_1), .inl y0]) [] M (fun v M1 => sm_Run (d + 1) 209 25 [some (.inr r0), some (.inr r1), z2, z3] (v.toList ++ [.inr t2]) M1 Q)) :
    sm_Run (d + 1) 209 22 [some (.inr r0), some (.inr r1), z2, z3] [.inl y0, .inr t1, .inr t2] M Q := by
  obtain ⟨b_1, hb_2, h⟩ := h
  rw [hb_2]
  exact ru_call (p := 25) sm_a209_22 rfl (sc_spec (Or.inl rfl) rfl rfl (Nat.le_of_ble_eq_true rfl)) rfl h
theorem bb_209_25 {d : Nat} {M : sm_M} {Q : Option sm_V → sm_M → Prop} {r0 : Option Nat} {r1 : Option Nat} {z2 : Option sm_V} {z3 : Option sm_V} {t0 : Option Nat}
    (h : sm_Run (d + 1) 209 28 [some (.inr r0), some (.inr r1), some (.inr t0), some (.inl 1)] [] M Q) :
    sm_Run (d + 1) 209 25 [some (.inr r0), some (.inr r1), z2, z3] [.inr t0] M Q := by
  refine ru_go (t := (26, [some (.inr r0), some (.inr r1), some (.inr t0), z3], [], M)) sm_a209_25 rfl rfl rfl ?_
  refine ru_go (t := (27, [some (.inr r0), some (.inr r1), some (.inr t0), z3], [.inl 1], M)) sm_a209_26 rfl rfl (st_iconst (by decide)) ?_
  refine ru_go (t := (28, [some (.inr r0), some (.inr r1), some (.inr t0), some (.inl 1)], [], M)) sm_a209_27 rfl rfl rfl ?_
  exact h
theorem bb_209_28 {d : Nat} {M : sm_M} {Q : Option sm_V → sm_M → Prop} {r0 : Option Nat} {r1 : Option Nat} {r2 : Option Nat} {x3 : Int32}
    (h : ∃ b_1, r0 = some b_1 ∧ (1 ≤ sm_K M b_1 ∧ sm_K M b_1 % 3 ≠ 0) ∧ ((((Int32.ofNat (sm_L M b_1)) - 6) < x3 → Q (some (.inl 1)) M) ∧ (¬ (((Int32.ofNat (sm_L M b_1)) - 6) < x3) → sm_iA M b_1 ∧ sm_in_ M b_1 x3 ∧ ((((sm_I M b_1 (x3).toNatClampNeg) &&& 31) = 0 → sm_in_ M b_1 (x3 + 1) ∧ sm_in_ M b_1 (x3 + 2) ∧ sm_in_ M b_1 (x3 + 3) ∧ sm_in_ M b_1 (x3 + 4) ∧ sm_in_ M b_1 (x3 + 5) ∧ ∃ b_13, r1 = some b_13 ∧ sm_K M b_13 = 3 ∧ sm_Run d 1 0 (sm_ent 1 [.inr (some b_13), .inl (sm_I M b_1 (x3 + 1).toNatClampNeg), .inl (sm_I M b_1 (x3 + 2).toNatClampNeg), .inl (sm_I M b_1 (x3 + 3).toNatClampNeg), .inl (sm_I M b_1 (x3 + 4).toNatClampNeg), .inl (sm_I M b_1 (x3 + 5).toNatClampNeg)]) [] M (fun v M1 => sm_Run (d + 1) 209 157 [some (.inr (some b_1)), some (.inr (some b_13)), some (.inr r2), some (.inl x3)] (v.toList ++ []) M1 Q)) ∧ (((sm_I M b_1 (x3).toNatClampNeg) &&& 31) = 1 → sm_in_ M b_1 (x3 + 1) ∧ ∃ b_18, r1 = some b_18 ∧ sm_K M b_18 = 3 ∧ sm_Run d 3 0 (sm_ent 3 [.inr (some b_18), .inl (sm_I M b_1 (x3 + 1).toNatClampNeg)]) [] M (fun v M1 => sm_Run (d + 1) 209 198 [some (.inr (some b_1)), some (.inr (some b_18)), some (.inr r2), some (.inl x3)] (v.toList ++ []) M1 Q)) ∧ (((sm_I M b_1 (x3).toNatClampNeg) &&& 31) = 2 → sm_in_ M b_1 (x3 + 1) ∧ sm_in_ M b_1 (x3 + 2) ∧ sm_in_ M b_1 (x3 + 3) ∧ sm_in_ M b_1 (x3 + 4) ∧ ∃ b_26, r1 = some b_26 ∧ sm_K M b_26 = 3 ∧ sm_Run d 4 0 (sm_ent 4 [.inr (some b_26), .inl (sm_I M b_1 (x3 + 1).toNatClampNeg), .inl (sm_I M b_1 (x3 + 2).toNatClampNeg), .inl (sm_I M b_1 (x3 + 3).toNatClampNeg), .inl (sm_I M b_1 (x3 + 4).toNatClampNeg)]) [] M (fun v M1 => sm_Run (d + 1) 209 236 [some (.inr (some b_1)), some (.inr (some b_26)), some (.inr r2), some (.inl x3)] (v.toList ++ []) M1 Q)) ∧ (((sm_I M b_1 (x3).toNatClampNeg) &&& 31) = 3 → sm_in_ M b_1 (x3 + 1) ∧ sm_in_ M b_1 (x3 + 2) ∧ sm_in_ M b_1 (x3 + 3) ∧ sm_in_ M b_1 (x3 + 4) ∧ ∃ b_34, r1 = some b_34 ∧ sm_K M b_34 = 3 ∧ sm_Run d 5 0 (sm_ent 5 [.inr (some b_34), .inl (sm_I M b_1 (x3 + 1).toNatClampNeg), .inl (sm_I M b_1 (x3 + 2).toNatClampNeg), .inl (sm_I M b_1 (x3 + 3).toNatClampNeg), .inl (sm_I M b_1 (x3 + 4).toNatClampNeg)]) [] M (fun v M1 => sm_Run (d + 1) 209 289 [some (.inr (some b_1)), some (.inr (some b_34)), some (.inr r2), some (.inl x3)] (v.toList ++ []) M1 Q)) ∧ (((sm_I M b_1 (x3).toNatClampNeg) &&& 31) = 4 → sm_in_ M b_1 (x3 + 1) ∧ ∃ b_39, r1 = some b_39 ∧ sm_K M b_39 = 3 ∧ sm_Run d 6 0 (sm_ent 6 [.inr (some b_39), .inl (sm_I M b_1 (x3 + 1).toNatClampNeg)]) [] M (fun v M1 => sm_Run (d + 1) 209 327 [some (.inr (some b_1)), some (.inr (some b_39)), some (.inr r2), some (.inl x3)] (v.toList ++ []) M1 Q)) ∧ (((sm_I M b_1 (x3).toNatClampNeg) &&& 31) = 5 → sm_in_ M b_1 (x3 + 1) ∧ ∃ b_44, r1 = some b_44 ∧ sm_K M b_44 = 3 ∧ sm_Run d 7 0 (sm_ent 7 [.inr (some b_44), .inl (sm_I M b_1 (x3 + 1).toNatClampNeg)]) [] M (fun v M1 => sm_Run (d + 1) 209 350 [some (.inr (some b_1)), some (.inr (some b_44)), some (.inr r2), some (.inl x3)] (v.toList ++ []) M1 Q)) ∧ (((sm_I M b_1 (x3).toNatClampNeg) &&& 31) = 6 → sm_in_ M b_1 (x3 + 1) ∧ sm_in_ M b_1 (x3 + 2) ∧ sm_in_ M b_1 (x3 + 3) ∧ ∃ b_51, r1 = some b_51 ∧ sm_K M b_51 = 3 ∧ sm_Run d 8 0 (sm_ent 8 [.inr (some b_51), .inl (sm_I M b_1 (x3 + 1).toNatClampNeg), .inl (sm_I M b_1 (x3 + 2).toNatClampNeg), .inl (sm_I M b_1 (x3 + 3).toNatClampNeg)]) [] M (fun v M1 => sm_Run (d + 1) 209 383 [some (.inr (some b_1)), some (.inr (some b_51)), some (.inr r2), some (.inl x3)] (v.toList ++ []) M1 Q)) ∧ (((sm_I M b_1 (x3).toNatClampNeg) &&& 31) = 7 → sm_in_ M b_1 (x3 + 1) ∧ sm_in_ M b_1 (x3 + 2) ∧ sm_in_ M b_1 (x3 + 3) ∧ ∃ b_58, r1 = some b_58 ∧ sm_K M b_58 = 3 ∧ sm_Run d 9 0 (sm_ent 9 [.inr (some b_58), .inl (sm_I M b_1 (x3 + 1).toNatClampNeg), .inl (sm_I M b_1 (x3 + 2).toNatClampNeg), .inl (sm_I M b_1 (x3 + 3).toNatClampNeg)]) [] M (fun v M1 => sm_Run (d + 1) 209 426 [some (.inr (some b_1)), some (.inr (some b_58)), some (.inr r2), some (.inl x3)] (v.toList ++ []) M1 Q)) ∧ (((sm_I M b_1 (x3).toNatClampNeg) &&& 31) = 8 → sm_in_ M b_1 (x3 + 1) ∧ sm_in_ M b_1 (x3 + 2) ∧ sm_in_ M b_1 (x3 + 3) ∧ sm_in_ M b_1 (x3 + 4) ∧ sm_in_ M b_1 (x3 + 5) ∧ ∃ b_67, r1 = some b_67 ∧ sm_K M b_67 = 3 ∧ sm_Run d 10 0 (sm_ent 10 [.inr (some b_67), .inl (sm_I M b_1 (x3 + 1).toNatClampNeg), .inl (sm_I M b_1 (x3 + 2).toNatClampNeg), .inl (sm_I M b_1 (x3 + 3).toNatClampNeg), .inl (sm_I M b_1 (x3 + 4).toNatClampNeg), .inl (sm_I M b_1 (x3 + 5).toNatClampNeg)]) [] M (fun v M1 => sm_Run (d + 1) 209 479 [some (.inr (some b_1)), some (.inr (some b_67)), some (.inr r2), some (.inl x3)] (v.toList ++ []) M1 Q)) ∧ (((sm_I M b_1 (x3).toNatClampNeg) &&& 31) = 9 → sm_in_ M b_1 (x3 + 1) ∧ ∃ b_72, r1 = some b_72 ∧ sm_K M b_72 = 3 ∧ sm_Run d 11 0 (sm_ent 11 [.inr (some b_72), .inl (sm_I M b_1 (x3 + 1).toNatClampNeg)]) [] M (fun v M1 => sm_Run (d + 1) 209 522 [some (.inr (some b_1)), some (.inr (some b_72)), some (.inr r2), some (.inl x3)] (v.toList ++ []) M1 Q)) ∧ (((sm_I M b_1 (x3).toNatClampNeg) &&& 31) = 10 → sm_in_ M b_1 (x3 + 1) ∧ sm_in_ M b_1 (x3 + 2) ∧ sm_in_ M b_1 (x3 + 3) ∧ ∃ b_79, r1 = some b_79 ∧ sm_K M b_79 = 3 ∧ sm_Run d 12 0 (sm_ent 12 [.inr (some b_79), .inl (sm_I M b_1 (x3 + 1).toNatClampNeg), .inl (sm_I M b_1 (x3 + 2).toNatClampNeg), .inl (sm_I M b_1 (x3 + 3).toNatClampNeg)]) [] M (fun v M1 => sm_Run (d + 1) 209 555 [some (.inr (some b_1)), some (.inr (some b_79)), some (.inr r2), some (.inl x3)] (v.toList ++ []) M1 Q)) ∧ (((sm_I M b_1 (x3).toNatClampNeg) &&& 31) = 11 → sm_in_ M b_1 (x3 + 1) ∧ sm_in_ M b_1 (x3 + 2) ∧ ∃ b_85, r1 = some b_85 ∧ sm_K M b_85 = 3 ∧ sm_Run d 13 0 (sm_ent 13 [.inr (some b_85), .inl (sm_I M b_1 (x3 + 1).toNatClampNeg), .inl (sm_I M b_1 (x3 + 2).toNatClampNeg)]) [] M (fun v M1 => sm_Run (d + 1) 209 593 [some (.inr (some b_1)), some (.inr (some b_85)), some (.inr r2), some (.inl x3)] (v.toList ++ []) M1 Q)) ∧ (((sm_I M b_1 (x3).toNatClampNeg) &&& 31) = 12 → sm_in_ M b_1 (x3 + 1) ∧ sm_in_ M b_1 (x3 + 2) ∧ sm_in_ M b_1 (x3 + 3) ∧ ∃ b_92, r1 = some b_92 ∧ sm_K M b_92 = 3 ∧ sm_Run d 15 0 (sm_ent 15 [.inr (some b_92), .inl (sm_I M b_1 (x3 + 1).toNatClampNeg), .inl (sm_I M b_1 (x3 + 2).toNatClampNeg), .inl (sm_I M b_1 (x3 + 3).toNatClampNeg)]) [] M (fun v M1 => sm_Run (d + 1) 209 631 [some (.inr (some b_1)), some (.inr (some b_92)), some (.inr r2), some (.inl x3)] (v.toList ++ []) M1 Q)) ∧ (((sm_I M b_1 (x3).toNatClampNeg) &&& 31) = 13 → sm_in_ M b_1 (x3 + 1) ∧ ∃ b_97, r1 = some b_97 ∧ sm_K M b_97 = 3 ∧ sm_Run d 16 0 (sm_ent 16 [.inr (some b_97), .inl (sm_I M b_1 (x3 + 1).toNatClampNeg)]) [] M (fun v M1 => sm_Run (d + 1) 209 664 [some (.inr (some b_1)), some (.inr (some b_97)), some (.inr r2), some (.inl x3)] (v.toList ++ []) M1 Q)) ∧ (((sm_I M b_1 (x3).toNatClampNeg) &&& 31) = 14 → sm_in_ M b_1 (x3 + 1) ∧ sm_in_ M b_1 (x3 + 2) ∧ ∃ b_103, r1 = some b_103 ∧ sm_K M b_103 = 3 ∧ sm_Run d 17 0 (sm_ent 17 [.inr (some b_103), .inl (sm_I M b_1 (x3 + 1).toNatClampNeg), .inl (sm_I M b_1 (x3 + 2).toNatClampNeg)]) [] M (fun v M1 => sm_Run (d + 1) 209 692 [some (.inr (some b_1)), some (.inr (some b_103)), some (.inr r2), some (.inl x3)] (v.toList ++ []) M1 Q)) ∧ (((sm_I M b_1 (x3).toNatClampNeg) &&& 31) = 15 → sm_in_ M b_1 (x3 + 1) ∧ sm_in_ M b_1 (x3 + 2) ∧ ∃ b_109, r1 = some b_109 ∧ sm_K M b_109 = 3 ∧ sm_Run d 18 0 (sm_ent 18 [.inr (some b_109), .inl (sm_I M b_1 (x3 + 1).toNatClampNeg), .inl (sm_I M b_1 (x3 + 2).toNatClampNeg)]) [] M (fun v M1 => sm_Run (d + 1) 209 725 [some (.inr (some b_1)), some (.inr (some b_109)), some (.inr r2), some (.inl x3)] (v.toList ++ []) M1 Q)) ∧ (((sm_I M b_1 (x3).toNatClampNeg) &&& 31) = 16 → sm_in_ M b_1 (x3 + 1) ∧ sm_in_ M b_1 (x3 + 2) ∧ sm_in_ M b_1 (x3 + 3) ∧ ∃ b_116, r1 = some b_116 ∧ sm_K M b_116 = 3 ∧ sm_Run d 19 0 (sm_ent 19 [.inr (some b_116), .inl (sm_I M b_1 (x3 + 1).toNatClampNeg), .inl (sm_I M b_1 (x3 + 2).toNatClampNeg), .inl (sm_I M b_1 (x3 + 3).toNatClampNeg)]) [] M (fun v M1 => sm_Run (d + 1) 209 763 [some (.inr (some b_1)), some (.inr (some b_116)), some (.inr r2), some (.inl x3)] (v.toList ++ []) M1 Q)) ∧ (((sm_I M b_1 (x3).toNatClampNeg) &&& 31) = 17 → sm_in_ M b_1 (x3 + 1) ∧ sm_in_ M b_1 (x3 + 2) ∧ ∃ b_122, r1 = some b_122 ∧ sm_K M b_122 = 3 ∧ sm_Run d 20 0 (sm_ent 20 [.inr (some b_122), .inl (sm_I M b_1 (x3 + 1).toNatClampNeg), .inl (sm_I M b_1 (x3 + 2).toNatClampNeg)]) [] M (fun v M1 => sm_Run (d + 1) 209 801 [some (.inr (some b_1)), some (.inr (some b_122)), some (.inr r2), some (.inl x3)] (v.toList ++ []) M1 Q)) ∧ (¬ ((sm_I M b_1 (x3).toNatClampNeg) &&& 31) = 0 → ¬ ((sm_I M b_1 (x3).toNatClampNeg) &&& 31) = 1 → ¬ ((sm_I M b_1 (x3).toNatClampNeg) &&& 31) = 2 → ¬ ((sm_I M b_1 (x3).toNatClampNeg) &&& 31) = 3 → ¬ ((sm_I M b_1 (x3).toNatClampNeg) &&& 31) = 4 → ¬ ((sm_I M b_1 (x3).toNatClampNeg) &&& 31) = 5 → ¬ ((sm_I M b_1 (x3).toNatClampNeg) &&& 31) = 6 → ¬ ((sm_I M b_1 (x3).toNatClampNeg) &&& 31) = 7 → ¬ ((sm_I M b_1 (x3).toNatClampNeg) &&& 31) = 8 → ¬ ((sm_I M b_1 (x3).toNatClampNeg) &&& 31) = 9 → ¬ ((sm_I M b_1 (x3).toNatClampNeg) &&& 31) = 10 → ¬ ((sm_I M b_1 (x3).toNatClampNeg) &&& 31) = 11 → ¬ ((sm_I M b_1 (x3).toNatClampNeg) &&& 31) = 12 → ¬ ((sm_I M b_1 (x3).toNatClampNeg) &&& 31) = 13 → ¬ ((sm_I M b_1 (x3).toNatClampNeg) &&& 31) = 14 → ¬ ((sm_I M b_1 (x3).toNatClampNeg) &&& 31) = 15 → ¬ ((sm_I M b_1 (x3).toNatClampNeg) &&& 31) = 16 → ¬ ((sm_I M b_1 (x3).toNatClampNeg) &&& 31) = 17 → sm_Run (d + 1) 209 28 [some (.inr (some b_1)), some (.inr r1), some (.inr r2), some (.inl (x3 + 6))] [] M Q))))) :
    sm_Run (d + 1) 209 28 [some (.inr r0), some (.inr r1), some (.inr r2), some (.inl x3)] [] M Q := by
  refine ru_go (t := (29, [some (.inr r0), some (.inr r1), some (.inr r2), some (.inl x3)], [.inl x3], M)) sm_a209_28 rfl rfl rfl ?_
  refine ru_go (t := (30, [some (.inr r0), some (.inr r1), some (.inr r2), some (.inl x3)], [.inr r0, .inl x3], M)) sm_a209_29 rfl rfl rfl ?_
  obtain ⟨b_1, hb_2, h⟩ := h
  rw [hb_2]
  obtain ⟨h_3, h⟩ := h
  refine ru_go (t := (31, [some (.inr (some b_1)), some (.inr r1), some (.inr r2), some (.inl x3)], [.inl (Int32.ofNat (sm_L M b_1)), .inl x3], M)) sm_a209_30 rfl rfl (st_alen h_3) ?_
  refine ru_go (t := (33, [some (.inr (some b_1)), some (.inr r1), some (.inr r2), some (.inl x3)], [.inl 6, .inl (Int32.ofNat (sm_L M b_1)), .inl x3], M)) sm_a209_31 rfl rfl (st_bipush (by decide)) ?_
  refine ru_go (t := (34, [some (.inr (some b_1)), some (.inr r1), some (.inr r2), some (.inl x3)], [.inl ((Int32.ofNat (sm_L M b_1)) - 6), .inl x3], M)) sm_a209_33 rfl rfl rfl ?_
  refine ru_icmp (pc := 34) (p := 826) (p2 := 37) sm_a209_34 (by decide) rfl ⟨fun hc_4 => ?_, fun hc_4 => ?_⟩
  · have h := h.1 hc_4
    refine ru_go (t := (827, [some (.inr (some b_1)), some (.inr r1), some (.inr r2), some (.inl x3)], [.inl 1], M)) sm_a209_826 rfl rfl (st_iconst (by decide)) ?_
    exact ru_ret sm_a209_827 (sm_rvz rfl (by decide)) h
  · have h := h.2 hc_4
    refine ru_go (t := (38, [some (.inr (some b_1)), some (.inr r1), some (.inr r2), some (.inl x3)], [.inr (some b_1)], M)) sm_a209_37 rfl rfl rfl ?_
    refine ru_go (t := (39, [some (.inr (some b_1)), some (.inr r1), some (.inr r2), some (.inl x3)], [.inl x3, .inr (some b_1)], M)) sm_a209_38 rfl rfl rfl ?_
    obtain ⟨h_5, h⟩ := h
    obtain ⟨h_6, h⟩ := h
    refine ru_go (t := (40, [some (.inr (some b_1)), some (.inr r1), some (.inr r2), some (.inl x3)], [.inl (sm_I M b_1 (x3).toNatClampNeg)], M)) sm_a209_39 rfl rfl (st_iald h_5 h_6) ?_
    refine ru_go (t := (42, [some (.inr (some b_1)), some (.inr r1), some (.inr r2), some (.inl x3)], [.inl 31, .inl (sm_I M b_1 (x3).toNatClampNeg)], M)) sm_a209_40 rfl rfl (st_bipush (by decide)) ?_
    refine ru_go (t := (43, [some (.inr (some b_1)), some (.inr r1), some (.inr r2), some (.inl x3)], [.inl ((sm_I M b_1 (x3).toNatClampNeg) &&& 31)], M)) sm_a209_42 rfl rfl rfl ?_
    by_cases hc_7 : ((sm_I M b_1 (x3).toNatClampNeg) &&& 31) = 0
    · have h := h.1 hc_7
      refine ru_tsw (pc := 43) (v := 0) (p := 128) sm_a209_43 hc_7 (by decide) ?_
      refine ru_go (t := (129, [some (.inr (some b_1)), some (.inr r1), some (.inr r2), some (.inl x3)], [.inr r1], M)) sm_a209_128 rfl rfl rfl ?_
      refine ru_go (t := (130, [some (.inr (some b_1)), some (.inr r1), some (.inr r2), some (.inl x3)], [.inr (some b_1), .inr r1], M)) sm_a209_129 rfl rfl rfl ?_
      refine ru_go (t := (131, [some (.inr (some b_1)), some (.inr r1), some (.inr r2), some (.inl x3)], [.inl x3, .inr (some b_1), .inr r1], M)) sm_a209_130 rfl rfl rfl ?_
      refine ru_go (t := (132, [some (.inr (some b_1)), some (.inr r1), some (.inr r2), some (.inl x3)], [.inl 1, .inl x3, .inr (some b_1), .inr r1], M)) sm_a209_131 rfl rfl (st_iconst (by decide)) ?_
      refine ru_go (t := (133, [some (.inr (some b_1)), some (.inr r1), some (.inr r2), some (.inl x3)], [.inl (x3 + 1), .inr (some b_1), .inr r1], M)) sm_a209_132 rfl rfl rfl ?_
      obtain ⟨h_8, h⟩ := h
      refine ru_go (t := (134, [some (.inr (some b_1)), some (.inr r1), some (.inr r2), some (.inl x3)], [.inl (sm_I M b_1 (x3 + 1).toNatClampNeg), .inr r1], M)) sm_a209_133 rfl rfl (st_iald h_5 h_8) ?_
      refine ru_go (t := (135, [some (.inr (some b_1)), some (.inr r1), some (.inr r2), some (.inl x3)], [.inr (some b_1), .inl (sm_I M b_1 (x3 + 1).toNatClampNeg), .inr r1], M)) sm_a209_134 rfl rfl rfl ?_
      refine ru_go (t := (136, [some (.inr (some b_1)), some (.inr r1), some (.inr r2), some (.inl x3)], [.inl x3, .inr (some b_1), .inl (sm_I M b_1 (x3 + 1).toNatClampNeg), .inr r1], M)) sm_a209_135 rfl rfl rfl ?_
      refine ru_go (t := (137, [some (.inr (some b_1)), some (.inr r1), some (.inr r2), some (.inl x3)], [.inl 2, .inl x3, .inr (some b_1), .inl (sm_I M b_1 (x3 + 1).toNatClampNeg), .inr r1], M)) sm_a209_136 rfl rfl (st_iconst (by decide)) ?_
      refine ru_go (t := (138, [some (.inr (some b_1)), some (.inr r1), some (.inr r2), some (.inl x3)], [.inl (x3 + 2), .inr (some b_1), .inl (sm_I M b_1 (x3 + 1).toNatClampNeg), .inr r1], M)) sm_a209_137 rfl rfl rfl ?_
      obtain ⟨h_9, h⟩ := h
      refine ru_go (t := (139, [some (.inr (some b_1)), some (.inr r1), some (.inr r2), some (.inl x3)], [.inl (sm_I M b_1 (x3 + 2).toNatClampNeg), .inl (sm_I M b_1 (x3 + 1).toNatClampNeg), .inr r1], M)) sm_a209_138 rfl rfl (st_iald h_5 h_9) ?_
      refine ru_go (t := (140, [some (.inr (some b_1)), some (.inr r1), some (.inr r2), some (.inl x3)], [.inr (some b_1), .inl (sm_I M b_1 (x3 + 2).toNatClampNeg), .inl (sm_I M b_1 (x3 + 1).toNatClampNeg), .inr r1], M)) sm_a209_139 rfl rfl rfl ?_
      refine ru_go (t := (141, [some (.inr (some b_1)), some (.inr r1), some (.inr r2), some (.inl x3)], [.inl x3, .inr (some b_1), .inl (sm_I M b_1 (x3 + 2).toNatClampNeg), .inl (sm_I M b_1 (x3 + 1).toNatClampNeg), .inr r1], M)) sm_a209_140 rfl rfl rfl ?_
      refine ru_go (t := (142, [some (.inr (some b_1)), some (.inr r1), some (.inr r2), some (.inl x3)], [.inl 3, .inl x3, .inr (some b_1), .inl (sm_I M b_1 (x3 + 2).toNatClampNeg), .inl (sm_I M b_1 (x3 + 1).toNatClampNeg), .inr r1], M)) sm_a209_141 rfl rfl (st_iconst (by decide)) ?_
      refine ru_go (t := (143, [some (.inr (some b_1)), some (.inr r1), some (.inr r2), some (.inl x3)], [.inl (x3 + 3), .inr (some b_1), .inl (sm_I M b_1 (x3 + 2).toNatClampNeg), .inl (sm_I M b_1 (x3 + 1).toNatClampNeg), .inr r1], M)) sm_a209_142 rfl rfl rfl ?_
      obtain ⟨h_10, h⟩ := h
      refine ru_go (t := (144, [some (.inr (some b_1)), some (.inr r1), some (.inr r2), some (.inl x3)], [.inl (sm_I M b_1 (x3 + 3).toNatClampNeg), .inl (sm_I M b_1 (x3 + 2).toNatClampNeg), .inl (sm_I M b_1 (x3 + 1).toNatClampNeg), .inr r1], M)) sm_a209_143 rfl rfl (st_iald h_5 h_10) ?_
      refine ru_go (t := (145, [some (.inr (some b_1)), some (.inr r1), some (.inr r2), some (.inl x3)], [.inr (some b_1), .inl (sm_I M b_1 (x3 + 3).toNatClampNeg), .inl (sm_I M b_1 (x3 + 2).toNatClampNeg), .inl (sm_I M b_1 (x3 + 1).toNatClampNeg), .inr r1], M)) sm_a209_144 rfl rfl rfl ?_
      refine ru_go (t := (146, [some (.inr (some b_1)), some (.inr r1), some (.inr r2), some (.inl x3)], [.inl x3, .inr (some b_1), .inl (sm_I M b_1 (x3 + 3).toNatClampNeg), .inl (sm_I M b_1 (x3 + 2).toNatClampNeg), .inl (sm_I M b_1 (x3 + 1).toNatClampNeg), .inr r1], M)) sm_a209_145 rfl rfl rfl ?_
      refine ru_go (t := (147, [some (.inr (some b_1)), some (.inr r1), some (.inr r2), some (.inl x3)], [.inl 4, .inl x3, .inr (some b_1), .inl (sm_I M b_1 (x3 + 3).toNatClampNeg), .inl (sm_I M b_1 (x3 + 2).toNatClampNeg), .inl (sm_I M b_1 (x3 + 1).toNatClampNeg), .inr r1], M)) sm_a209_146 rfl rfl (st_iconst (by decide)) ?_
      refine ru_go (t := (148, [some (.inr (some b_1)), some (.inr r1), some (.inr r2), some (.inl x3)], [.inl (x3 + 4), .inr (some b_1), .inl (sm_I M b_1 (x3 + 3).toNatClampNeg), .inl (sm_I M b_1 (x3 + 2).toNatClampNeg), .inl (sm_I M b_1 (x3 + 1).toNatClampNeg), .inr r1], M)) sm_a209_147 rfl rfl rfl ?_
      obtain ⟨h_11, h⟩ := h
      refine ru_go (t := (149, [some (.inr (some b_1)), some (.inr r1), some (.inr r2), some (.inl x3)], [.inl (sm_I M b_1 (x3 + 4).toNatClampNeg), .inl (sm_I M b_1 (x3 + 3).toNatClampNeg), .inl (sm_I M b_1 (x3 + 2).toNatClampNeg), .inl (sm_I M b_1 (x3 + 1).toNatClampNeg), .inr r1], M)) sm_a209_148 rfl rfl (st_iald h_5 h_11) ?_
      refine ru_go (t := (150, [some (.inr (some b_1)), some (.inr r1), some (.inr r2), some (.inl x3)], [.inr (some b_1), .inl (sm_I M b_1 (x3 + 4).toNatClampNeg), .inl (sm_I M b_1 (x3 + 3).toNatClampNeg), .inl (sm_I M b_1 (x3 + 2).toNatClampNeg), .inl (sm_I M b_1 (x3 + 1).toNatClampNeg), .inr r1], M)) sm_a209_149 rfl rfl rfl ?_
      refine ru_go (t := (151, [some (.inr (some b_1)), some (.inr r1), some (.inr r2), some (.inl x3)], [.inl x3, .inr (some b_1), .inl (sm_I M b_1 (x3 + 4).toNatClampNeg), .inl (sm_I M b_1 (x3 + 3).toNatClampNeg), .inl (sm_I M b_1 (x3 + 2).toNatClampNeg), .inl (sm_I M b_1 (x3 + 1).toNatClampNeg), .inr r1], M)) sm_a209_150 rfl rfl rfl ?_
      refine ru_go (t := (152, [some (.inr (some b_1)), some (.inr r1), some (.inr r2), some (.inl x3)], [.inl 5, .inl x3, .inr (some b_1), .inl (sm_I M b_1 (x3 + 4).toNatClampNeg), .inl (sm_I M b_1 (x3 + 3).toNatClampNeg), .inl (sm_I M b_1 (x3 + 2).toNatClampNeg), .inl (sm_I M b_1 (x3 + 1).toNatClampNeg), .inr r1], M)) sm_a209_151 rfl rfl (st_iconst (by decide)) ?_
      refine ru_go (t := (153, [some (.inr (some b_1)), some (.inr r1), some (.inr r2), some (.inl x3)], [.inl (x3 + 5), .inr (some b_1), .inl (sm_I M b_1 (x3 + 4).toNatClampNeg), .inl (sm_I M b_1 (x3 + 3).toNatClampNeg), .inl (sm_I M b_1 (x3 + 2).toNatClampNeg), .inl (sm_I M b_1 (x3 + 1).toNatClampNeg), .inr r1], M)) sm_a209_152 rfl rfl rfl ?_
      obtain ⟨h_12, h⟩ := h
      refine ru_go (t := (154, [some (.inr (some b_1)), some (.inr r1), some (.inr r2), some (.inl x3)], [.inl (sm_I M b_1 (x3 + 5).toNatClampNeg), .inl (sm_I M b_1 (x3 + 4).toNatClampNeg), .inl (sm_I M b_1 (x3 + 3).toNatClampNeg), .inl (sm_I M b_1 (x3 + 2).toNatClampNeg), .inl (sm_I M b_1 (x3 + 1).toNatClampNeg), .inr r1], M)) sm_a209_153 rfl rfl (st_iald h_5 h_12) ?_
      obtain ⟨b_13, hb_14, h⟩ := h
      rw [hb_14]
      obtain ⟨h_15, h⟩ := h
      exact ru_call (p := 157) sm_a209_154 rfl (sc_virt (Or.inl rfl) rfl rfl h_15 (Nat.le_of_ble_eq_true rfl)) rfl h
    · by_cases hc_16 : ((sm_I M b_1 (x3).toNatClampNeg) &&& 31) = 1
      · have h := h.2.1 hc_16
        refine ru_tsw (pc := 43) (v := 1) (p := 189) sm_a209_43 hc_16 (by decide) ?_
        refine ru_go (t := (190, [some (.inr (some b_1)), some (.inr r1), some (.inr r2), some (.inl x3)], [.inr r1], M)) sm_a209_189 rfl rfl rfl ?_
        refine ru_go (t := (191, [some (.inr (some b_1)), some (.inr r1), some (.inr r2), some (.inl x3)], [.inr (some b_1), .inr r1], M)) sm_a209_190 rfl rfl rfl ?_
        refine ru_go (t := (192, [some (.inr (some b_1)), some (.inr r1), some (.inr r2), some (.inl x3)], [.inl x3, .inr (some b_1), .inr r1], M)) sm_a209_191 rfl rfl rfl ?_
        refine ru_go (t := (193, [some (.inr (some b_1)), some (.inr r1), some (.inr r2), some (.inl x3)], [.inl 1, .inl x3, .inr (some b_1), .inr r1], M)) sm_a209_192 rfl rfl (st_iconst (by decide)) ?_
        refine ru_go (t := (194, [some (.inr (some b_1)), some (.inr r1), some (.inr r2), some (.inl x3)], [.inl (x3 + 1), .inr (some b_1), .inr r1], M)) sm_a209_193 rfl rfl rfl ?_
        obtain ⟨h_17, h⟩ := h
        refine ru_go (t := (195, [some (.inr (some b_1)), some (.inr r1), some (.inr r2), some (.inl x3)], [.inl (sm_I M b_1 (x3 + 1).toNatClampNeg), .inr r1], M)) sm_a209_194 rfl rfl (st_iald h_5 h_17) ?_
        obtain ⟨b_18, hb_19, h⟩ := h
        rw [hb_19]
        obtain ⟨h_20, h⟩ := h
        exact ru_call (p := 198) sm_a209_195 rfl (sc_virt (Or.inl rfl) rfl rfl h_20 (Nat.le_of_ble_eq_true rfl)) rfl h
      · by_cases hc_21 : ((sm_I M b_1 (x3).toNatClampNeg) &&& 31) = 2
        · have h := h.2.2.1 hc_21
          refine ru_tsw (pc := 43) (v := 2) (p := 212) sm_a209_43 hc_21 (by decide) ?_
          refine ru_go (t := (213, [some (.inr (some b_1)), some (.inr r1), some (.inr r2), some (.inl x3)], [.inr r1], M)) sm_a209_212 rfl rfl rfl ?_
          refine ru_go (t := (214, [some (.inr (some b_1)), some (.inr r1), some (.inr r2), some (.inl x3)], [.inr (some b_1), .inr r1], M)) sm_a209_213 rfl rfl rfl ?_
          refine ru_go (t := (215, [some (.inr (some b_1)), some (.inr r1), some (.inr r2), some (.inl x3)], [.inl x3, .inr (some b_1), .inr r1], M)) sm_a209_214 rfl rfl rfl ?_
          refine ru_go (t := (216, [some (.inr (some b_1)), some (.inr r1), some (.inr r2), some (.inl x3)], [.inl 1, .inl x3, .inr (some b_1), .inr r1], M)) sm_a209_215 rfl rfl (st_iconst (by decide)) ?_
          refine ru_go (t := (217, [some (.inr (some b_1)), some (.inr r1), some (.inr r2), some (.inl x3)], [.inl (x3 + 1), .inr (some b_1), .inr r1], M)) sm_a209_216 rfl rfl rfl ?_
          obtain ⟨h_22, h⟩ := h
          refine ru_go (t := (218, [some (.inr (some b_1)), some (.inr r1), some (.inr r2), some (.inl x3)], [.inl (sm_I M b_1 (x3 + 1).toNatClampNeg), .inr r1], M)) sm_a209_217 rfl rfl (st_iald h_5 h_22) ?_
          refine ru_go (t := (219, [some (.inr (some b_1)), some (.inr r1), some (.inr r2), some (.inl x3)], [.inr (some b_1), .inl (sm_I M b_1 (x3 + 1).toNatClampNeg), .inr r1], M)) sm_a209_218 rfl rfl rfl ?_
          refine ru_go (t := (220, [some (.inr (some b_1)), some (.inr r1), some (.inr r2), some (.inl x3)], [.inl x3, .inr (some b_1), .inl (sm_I M b_1 (x3 + 1).toNatClampNeg), .inr r1], M)) sm_a209_219 rfl rfl rfl ?_
          refine ru_go (t := (221, [some (.inr (some b_1)), some (.inr r1), some (.inr r2), some (.inl x3)], [.inl 2, .inl x3, .inr (some b_1), .inl (sm_I M b_1 (x3 + 1).toNatClampNeg), .inr r1], M)) sm_a209_220 rfl rfl (st_iconst (by decide)) ?_
          refine ru_go (t := (222, [some (.inr (some b_1)), some (.inr r1), some (.inr r2), some (.inl x3)], [.inl (x3 + 2), .inr (some b_1), .inl (sm_I M b_1 (x3 + 1).toNatClampNeg), .inr r1], M)) sm_a209_221 rfl rfl rfl ?_
          obtain ⟨h_23, h⟩ := h
          refine ru_go (t := (223, [some (.inr (some b_1)), some (.inr r1), some (.inr r2), some (.inl x3)], [.inl (sm_I M b_1 (x3 + 2).toNatClampNeg), .inl (sm_I M b_1 (x3 + 1).toNatClampNeg), .inr r1], M)) sm_a209_222 rfl rfl (st_iald h_5 h_23) ?_
          refine ru_go (t := (224, [some (.inr (some b_1)), some (.inr r1), some (.inr r2), some (.inl x3)], [.inr (some b_1), .inl (sm_I M b_1 (x3 + 2).toNatClampNeg), .inl (sm_I M b_1 (x3 + 1).toNatClampNeg), .inr r1], M)) sm_a209_223 rfl rfl rfl ?_
          refine ru_go (t := (225, [some (.inr (some b_1)), some (.inr r1), some (.inr r2), some (.inl x3)], [.inl x3, .inr (some b_1), .inl (sm_I M b_1 (x3 + 2).toNatClampNeg), .inl (sm_I M b_1 (x3 + 1).toNatClampNeg), .inr r1], M)) sm_a209_224 rfl rfl rfl ?_
          refine ru_go (t := (226, [some (.inr (some b_1)), some (.inr r1), some (.inr r2), some (.inl x3)], [.inl 3, .inl x3, .inr (some b_1), .inl (sm_I M b_1 (x3 + 2).toNatClampNeg), .inl (sm_I M b_1 (x3 + 1).toNatClampNeg), .inr r1], M)) sm_a209_225 rfl rfl (st_iconst (by decide)) ?_
          refine ru_go (t := (227, [some (.inr (some b_1)), some (.inr r1), some (.inr r2), some (.inl x3)], [.inl (x3 + 3), .inr (some b_1), .inl (sm_I M b_1 (x3 + 2).toNatClampNeg), .inl (sm_I M b_1 (x3 + 1).toNatClampNeg), .inr r1], M)) sm_a209_226 rfl rfl rfl ?_
          obtain ⟨h_24, h⟩ := h
          refine ru_go (t := (228, [some (.inr (some b_1)), some (.inr r1), some (.inr r2), some (.inl x3)], [.inl (sm_I M b_1 (x3 + 3).toNatClampNeg), .inl (sm_I M b_1 (x3 + 2).toNatClampNeg), .inl (sm_I M b_1 (x3 + 1).toNatClampNeg), .inr r1], M)) sm_a209_227 rfl rfl (st_iald h_5 h_24) ?_
          refine ru_go (t := (229, [some (.inr (some b_1)), some (.inr r1), some (.inr r2), some (.inl x3)], [.inr (some b_1), .inl (sm_I M b_1 (x3 + 3).toNatClampNeg), .inl (sm_I M b_1 (x3 + 2).toNatClampNeg), .inl (sm_I M b_1 (x3 + 1).toNatClampNeg), .inr r1], M)) sm_a209_228 rfl rfl rfl ?_
          refine ru_go (t := (230, [some (.inr (some b_1)), some (.inr r1), some (.inr r2), some (.inl x3)], [.inl x3, .inr (some b_1), .inl (sm_I M b_1 (x3 + 3).toNatClampNeg), .inl (sm_I M b_1 (x3 + 2).toNatClampNeg), .inl (sm_I M b_1 (x3 + 1).toNatClampNeg), .inr r1], M)) sm_a209_229 rfl rfl rfl ?_
          refine ru_go (t := (231, [some (.inr (some b_1)), some (.inr r1), some (.inr r2), some (.inl x3)], [.inl 4, .inl x3, .inr (some b_1), .inl (sm_I M b_1 (x3 + 3).toNatClampNeg), .inl (sm_I M b_1 (x3 + 2).toNatClampNeg), .inl (sm_I M b_1 (x3 + 1).toNatClampNeg), .inr r1], M)) sm_a209_230 rfl rfl (st_iconst (by decide)) ?_
          refine ru_go (t := (232, [some (.inr (some b_1)), some (.inr r1), some (.inr r2), some (.inl x3)], [.inl (x3 + 4), .inr (some b_1), .inl (sm_I M b_1 (x3 + 3).toNatClampNeg), .inl (sm_I M b_1 (x3 + 2).toNatClampNeg), .inl (sm_I M b_1 (x3 + 1).toNatClampNeg), .inr r1], M)) sm_a209_231 rfl rfl rfl ?_
          obtain ⟨h_25, h⟩ := h
          refine ru_go (t := (233, [some (.inr (some b_1)), some (.inr r1), some (.inr r2), some (.inl x3)], [.inl (sm_I M b_1 (x3 + 4).toNatClampNeg), .inl (sm_I M b_1 (x3 + 3).toNatClampNeg), .inl (sm_I M b_1 (x3 + 2).toNatClampNeg), .inl (sm_I M b_1 (x3 + 1).toNatClampNeg), .inr r1], M)) sm_a209_232 rfl rfl (st_iald h_5 h_25) ?_
          obtain ⟨b_26, hb_27, h⟩ := h
          rw [hb_27]
          obtain ⟨h_28, h⟩ := h
          exact ru_call (p := 236) sm_a209_233 rfl (sc_virt (Or.inl rfl) rfl rfl h_28 (Nat.le_of_ble_eq_true rfl)) rfl h
        · by_cases hc_29 : ((sm_I M b_1 (x3).toNatClampNeg) &&& 31) = 3
          · have h := h.2.2.2.1 hc_29
            refine ru_tsw (pc := 43) (v := 3) (p := 265) sm_a209_43 hc_29 (by decide) ?_
            refine ru_go (t := (266, [some (.inr (some b_1)), some (.inr r1), some (.inr r2), some (.inl x3)], [.inr r1], M)) sm_a209_265 rfl rfl rfl ?_
            refine ru_go (t := (267, [some (.inr (some b_1)), some (.inr r1), some (.inr r2), some (.inl x3)], [.inr (some b_1), .inr r1], M)) sm_a209_266 rfl rfl rfl ?_
            refine ru_go (t := (268, [some (.inr (some b_1)), some (.inr r1), some (.inr r2), some (.inl x3)], [.inl x3, .inr (some b_1), .inr r1], M)) sm_a209_267 rfl rfl rfl ?_
            refine ru_go (t := (269, [some (.inr (some b_1)), some (.inr r1), some (.inr r2), some (.inl x3)], [.inl 1, .inl x3, .inr (some b_1), .inr r1], M)) sm_a209_268 rfl rfl (st_iconst (by decide)) ?_
            refine ru_go (t := (270, [some (.inr (some b_1)), some (.inr r1), some (.inr r2), some (.inl x3)], [.inl (x3 + 1), .inr (some b_1), .inr r1], M)) sm_a209_269 rfl rfl rfl ?_
            obtain ⟨h_30, h⟩ := h
            refine ru_go (t := (271, [some (.inr (some b_1)), some (.inr r1), some (.inr r2), some (.inl x3)], [.inl (sm_I M b_1 (x3 + 1).toNatClampNeg), .inr r1], M)) sm_a209_270 rfl rfl (st_iald h_5 h_30) ?_
            refine ru_go (t := (272, [some (.inr (some b_1)), some (.inr r1), some (.inr r2), some (.inl x3)], [.inr (some b_1), .inl (sm_I M b_1 (x3 + 1).toNatClampNeg), .inr r1], M)) sm_a209_271 rfl rfl rfl ?_
            refine ru_go (t := (273, [some (.inr (some b_1)), some (.inr r1), some (.inr r2), some (.inl x3)], [.inl x3, .inr (some b_1), .inl (sm_I M b_1 (x3 + 1).toNatClampNeg), .inr r1], M)) sm_a209_272 rfl rfl rfl ?_
            refine ru_go (t := (274, [some (.inr (some b_1)), some (.inr r1), some (.inr r2), some (.inl x3)], [.inl 2, .inl x3, .inr (some b_1), .inl (sm_I M b_1 (x3 + 1).toNatClampNeg), .inr r1], M)) sm_a209_273 rfl rfl (st_iconst (by decide)) ?_
            refine ru_go (t := (275, [some (.inr (some b_1)), some (.inr r1), some (.inr r2), some (.inl x3)], [.inl (x3 + 2), .inr (some b_1), .inl (sm_I M b_1 (x3 + 1).toNatClampNeg), .inr r1], M)) sm_a209_274 rfl rfl rfl ?_
            obtain ⟨h_31, h⟩ := h
            refine ru_go (t := (276, [some (.inr (some b_1)), some (.inr r1), some (.inr r2), some (.inl x3)], [.inl (sm_I M b_1 (x3 + 2).toNatClampNeg), .inl (sm_I M b_1 (x3 + 1).toNatClampNeg), .inr r1], M)) sm_a209_275 rfl rfl (st_iald h_5 h_31) ?_
            refine ru_go (t := (277, [some (.inr (some b_1)), some (.inr r1), some (.inr r2), some (.inl x3)], [.inr (some b_1), .inl (sm_I M b_1 (x3 + 2).toNatClampNeg), .inl (sm_I M b_1 (x3 + 1).toNatClampNeg), .inr r1], M)) sm_a209_276 rfl rfl rfl ?_
            refine ru_go (t := (278, [some (.inr (some b_1)), some (.inr r1), some (.inr r2), some (.inl x3)], [.inl x3, .inr (some b_1), .inl (sm_I M b_1 (x3 + 2).toNatClampNeg), .inl (sm_I M b_1 (x3 + 1).toNatClampNeg), .inr r1], M)) sm_a209_277 rfl rfl rfl ?_
            refine ru_go (t := (279, [some (.inr (some b_1)), some (.inr r1), some (.inr r2), some (.inl x3)], [.inl 3, .inl x3, .inr (some b_1), .inl (sm_I M b_1 (x3 + 2).toNatClampNeg), .inl (sm_I M b_1 (x3 + 1).toNatClampNeg), .inr r1], M)) sm_a209_278 rfl rfl (st_iconst (by decide)) ?_
            refine ru_go (t := (280, [some (.inr (some b_1)), some (.inr r1), some (.inr r2), some (.inl x3)], [.inl (x3 + 3), .inr (some b_1), .inl (sm_I M b_1 (x3 + 2).toNatClampNeg), .inl (sm_I M b_1 (x3 + 1).toNatClampNeg), .inr r1], M)) sm_a209_279 rfl rfl rfl ?_
            obtain ⟨h_32, h⟩ := h
            refine ru_go (t := (281, [some (.inr (some b_1)), some (.inr r1), some (.inr r2), some (.inl x3)], [.inl (sm_I M b_1 (x3 + 3).toNatClampNeg), .inl (sm_I M b_1 (x3 + 2).toNatClampNeg), .inl (sm_I M b_1 (x3 + 1).toNatClampNeg), .inr r1], M)) sm_a209_280 rfl rfl (st_iald h_5 h_32) ?_
            refine ru_go (t := (282, [some (.inr (some b_1)), some (.inr r1), some (.inr r2), some (.inl x3)], [.inr (some b_1), .inl (sm_I M b_1 (x3 + 3).toNatClampNeg), .inl (sm_I M b_1 (x3 + 2).toNatClampNeg), .inl (sm_I M b_1 (x3 + 1).toNatClampNeg), .inr r1], M)) sm_a209_281 rfl rfl rfl ?_
            refine ru_go (t := (283, [some (.inr (some b_1)), some (.inr r1), some (.inr r2), some (.inl x3)], [.inl x3, .inr (some b_1), .inl (sm_I M b_1 (x3 + 3).toNatClampNeg), .inl (sm_I M b_1 (x3 + 2).toNatClampNeg), .inl (sm_I M b_1 (x3 + 1).toNatClampNeg), .inr r1], M)) sm_a209_282 rfl rfl rfl ?_
            refine ru_go (t := (284, [some (.inr (some b_1)), some (.inr r1), some (.inr r2), some (.inl x3)], [.inl 4, .inl x3, .inr (some b_1), .inl (sm_I M b_1 (x3 + 3).toNatClampNeg), .inl (sm_I M b_1 (x3 + 2).toNatClampNeg), .inl (sm_I M b_1 (x3 + 1).toNatClampNeg), .inr r1], M)) sm_a209_283 rfl rfl (st_iconst (by decide)) ?_
            refine ru_go (t := (285, [some (.inr (some b_1)), some (.inr r1), some (.inr r2), some (.inl x3)], [.inl (x3 + 4), .inr (some b_1), .inl (sm_I M b_1 (x3 + 3).toNatClampNeg), .inl (sm_I M b_1 (x3 + 2).toNatClampNeg), .inl (sm_I M b_1 (x3 + 1).toNatClampNeg), .inr r1], M)) sm_a209_284 rfl rfl rfl ?_
            obtain ⟨h_33, h⟩ := h
            refine ru_go (t := (286, [some (.inr (some b_1)), some (.inr r1), some (.inr r2), some (.inl x3)], [.inl (sm_I M b_1 (x3 + 4).toNatClampNeg), .inl (sm_I M b_1 (x3 + 3).toNatClampNeg), .inl (sm_I M b_1 (x3 + 2).toNatClampNeg), .inl (sm_I M b_1 (x3 + 1).toNatClampNeg), .inr r1], M)) sm_a209_285 rfl rfl (st_iald h_5 h_33) ?_
            obtain ⟨b_34, hb_35, h⟩ := h
            rw [hb_35]
            obtain ⟨h_36, h⟩ := h
            exact ru_call (p := 289) sm_a209_286 rfl (sc_virt (Or.inl rfl) rfl rfl h_36 (Nat.le_of_ble_eq_true rfl)) rfl h
          · by_cases hc_37 : ((sm_I M b_1 (x3).toNatClampNeg) &&& 31) = 4
            · have h := h.2.2.2.2.1 hc_37
              refine ru_tsw (pc := 43) (v := 4) (p := 318) sm_a209_43 hc_37 (by decide) ?_
              refine ru_go (t := (319, [some (.inr (some b_1)), some (.inr r1), some (.inr r2), some (.inl x3)], [.inr r1], M)) sm_a209_318 rfl rfl rfl ?_
              refine ru_go (t := (320, [some (.inr (some b_1)), some (.inr r1), some (.inr r2), some (.inl x3)], [.inr (some b_1), .inr r1], M)) sm_a209_319 rfl rfl rfl ?_
              refine ru_go (t := (321, [some (.inr (some b_1)), some (.inr r1), some (.inr r2), some (.inl x3)], [.inl x3, .inr (some b_1), .inr r1], M)) sm_a209_320 rfl rfl rfl ?_
              refine ru_go (t := (322, [some (.inr (some b_1)), some (.inr r1), some (.inr r2), some (.inl x3)], [.inl 1, .inl x3, .inr (some b_1), .inr r1], M)) sm_a209_321 rfl rfl (st_iconst (by decide)) ?_
              refine ru_go (t := (323, [some (.inr (some b_1)), some (.inr r1), some (.inr r2), some (.inl x3)], [.inl (x3 + 1), .inr (some b_1), .inr r1], M)) sm_a209_322 rfl rfl rfl ?_
              obtain ⟨h_38, h⟩ := h
              refine ru_go (t := (324, [some (.inr (some b_1)), some (.inr r1), some (.inr r2), some (.inl x3)], [.inl (sm_I M b_1 (x3 + 1).toNatClampNeg), .inr r1], M)) sm_a209_323 rfl rfl (st_iald h_5 h_38) ?_
              obtain ⟨b_39, hb_40, h⟩ := h
              rw [hb_40]
              obtain ⟨h_41, h⟩ := h
              exact ru_call (p := 327) sm_a209_324 rfl (sc_virt (Or.inl rfl) rfl rfl h_41 (Nat.le_of_ble_eq_true rfl)) rfl h
            · by_cases hc_42 : ((sm_I M b_1 (x3).toNatClampNeg) &&& 31) = 5
              · have h := h.2.2.2.2.2.1 hc_42
                refine ru_tsw (pc := 43) (v := 5) (p := 341) sm_a209_43 hc_42 (by decide) ?_
                refine ru_go (t := (342, [some (.inr (some b_1)), some (.inr r1), some (.inr r2), some (.inl x3)], [.inr r1], M)) sm_a209_341 rfl rfl rfl ?_
                refine ru_go (t := (343, [some (.inr (some b_1)), some (.inr r1), some (.inr r2), some (.inl x3)], [.inr (some b_1), .inr r1], M)) sm_a209_342 rfl rfl rfl ?_
                refine ru_go (t := (344, [some (.inr (some b_1)), some (.inr r1), some (.inr r2), some (.inl x3)], [.inl x3, .inr (some b_1), .inr r1], M)) sm_a209_343 rfl rfl rfl ?_
                refine ru_go (t := (345, [some (.inr (some b_1)), some (.inr r1), some (.inr r2), some (.inl x3)], [.inl 1, .inl x3, .inr (some b_1), .inr r1], M)) sm_a209_344 rfl rfl (st_iconst (by decide)) ?_
                refine ru_go (t := (346, [some (.inr (some b_1)), some (.inr r1), some (.inr r2), some (.inl x3)], [.inl (x3 + 1), .inr (some b_1), .inr r1], M)) sm_a209_345 rfl rfl rfl ?_
                obtain ⟨h_43, h⟩ := h
                refine ru_go (t := (347, [some (.inr (some b_1)), some (.inr r1), some (.inr r2), some (.inl x3)], [.inl (sm_I M b_1 (x3 + 1).toNatClampNeg), .inr r1], M)) sm_a209_346 rfl rfl (st_iald h_5 h_43) ?_
                obtain ⟨b_44, hb_45, h⟩ := h
                rw [hb_45]
                obtain ⟨h_46, h⟩ := h
                exact ru_call (p := 350) sm_a209_347 rfl (sc_virt (Or.inl rfl) rfl rfl h_46 (Nat.le_of_ble_eq_true rfl)) rfl h
              · by_cases hc_47 : ((sm_I M b_1 (x3).toNatClampNeg) &&& 31) = 6
                · have h := h.2.2.2.2.2.2.1 hc_47
                  refine ru_tsw (pc := 43) (v := 6) (p := 364) sm_a209_43 hc_47 (by decide) ?_
                  refine ru_go (t := (365, [some (.inr (some b_1)), some (.inr r1), some (.inr r2), some (.inl x3)], [.inr r1], M)) sm_a209_364 rfl rfl rfl ?_
                  refine ru_go (t := (366, [some (.inr (some b_1)), some (.inr r1), some (.inr r2), some (.inl x3)], [.inr (some b_1), .inr r1], M)) sm_a209_365 rfl rfl rfl ?_
                  refine ru_go (t := (367, [some (.inr (some b_1)), some (.inr r1), some (.inr r2), some (.inl x3)], [.inl x3, .inr (some b_1), .inr r1], M)) sm_a209_366 rfl rfl rfl ?_
                  refine ru_go (t := (368, [some (.inr (some b_1)), some (.inr r1), some (.inr r2), some (.inl x3)], [.inl 1, .inl x3, .inr (some b_1), .inr r1], M)) sm_a209_367 rfl rfl (st_iconst (by decide)) ?_
                  refine ru_go (t := (369, [some (.inr (some b_1)), some (.inr r1), some (.inr r2), some (.inl x3)], [.inl (x3 + 1), .inr (some b_1), .inr r1], M)) sm_a209_368 rfl rfl rfl ?_
                  obtain ⟨h_48, h⟩ := h
                  refine ru_go (t := (370, [some (.inr (some b_1)), some (.inr r1), some (.inr r2), some (.inl x3)], [.inl (sm_I M b_1 (x3 + 1).toNatClampNeg), .inr r1], M)) sm_a209_369 rfl rfl (st_iald h_5 h_48) ?_
                  refine ru_go (t := (371, [some (.inr (some b_1)), some (.inr r1), some (.inr r2), some (.inl x3)], [.inr (some b_1), .inl (sm_I M b_1 (x3 + 1).toNatClampNeg), .inr r1], M)) sm_a209_370 rfl rfl rfl ?_
                  refine ru_go (t := (372, [some (.inr (some b_1)), some (.inr r1), some (.inr r2), some (.inl x3)], [.inl x3, .inr (some b_1), .inl (sm_I M b_1 (x3 + 1).toNatClampNeg), .inr r1], M)) sm_a209_371 rfl rfl rfl ?_
                  refine ru_go (t := (373, [some (.inr (some b_1)), some (.inr r1), some (.inr r2), some (.inl x3)], [.inl 2, .inl x3, .inr (some b_1), .inl (sm_I M b_1 (x3 + 1).toNatClampNeg), .inr r1], M)) sm_a209_372 rfl rfl (st_iconst (by decide)) ?_
                  refine ru_go (t := (374, [some (.inr (some b_1)), some (.inr r1), some (.inr r2), some (.inl x3)], [.inl (x3 + 2), .inr (some b_1), .inl (sm_I M b_1 (x3 + 1).toNatClampNeg), .inr r1], M)) sm_a209_373 rfl rfl rfl ?_
                  obtain ⟨h_49, h⟩ := h
                  refine ru_go (t := (375, [some (.inr (some b_1)), some (.inr r1), some (.inr r2), some (.inl x3)], [.inl (sm_I M b_1 (x3 + 2).toNatClampNeg), .inl (sm_I M b_1 (x3 + 1).toNatClampNeg), .inr r1], M)) sm_a209_374 rfl rfl (st_iald h_5 h_49) ?_
                  refine ru_go (t := (376, [some (.inr (some b_1)), some (.inr r1), some (.inr r2), some (.inl x3)], [.inr (some b_1), .inl (sm_I M b_1 (x3 + 2).toNatClampNeg), .inl (sm_I M b_1 (x3 + 1).toNatClampNeg), .inr r1], M)) sm_a209_375 rfl rfl rfl ?_
                  refine ru_go (t := (377, [some (.inr (some b_1)), some (.inr r1), some (.inr r2), some (.inl x3)], [.inl x3, .inr (some b_1), .inl (sm_I M b_1 (x3 + 2).toNatClampNeg), .inl (sm_I M b_1 (x3 + 1).toNatClampNeg), .inr r1], M)) sm_a209_376 rfl rfl rfl ?_
                  refine ru_go (t := (378, [some (.inr (some b_1)), some (.inr r1), some (.inr r2), some (.inl x3)], [.inl 3, .inl x3, .inr (some b_1), .inl (sm_I M b_1 (x3 + 2).toNatClampNeg), .inl (sm_I M b_1 (x3 + 1).toNatClampNeg), .inr r1], M)) sm_a209_377 rfl rfl (st_iconst (by decide)) ?_
                  refine ru_go (t := (379, [some (.inr (some b_1)), some (.inr r1), some (.inr r2), some (.inl x3)], [.inl (x3 + 3), .inr (some b_1), .inl (sm_I M b_1 (x3 + 2).toNatClampNeg), .inl (sm_I M b_1 (x3 + 1).toNatClampNeg), .inr r1], M)) sm_a209_378 rfl rfl rfl ?_
                  obtain ⟨h_50, h⟩ := h
                  refine ru_go (t := (380, [some (.inr (some b_1)), some (.inr r1), some (.inr r2), some (.inl x3)], [.inl (sm_I M b_1 (x3 + 3).toNatClampNeg), .inl (sm_I M b_1 (x3 + 2).toNatClampNeg), .inl (sm_I M b_1 (x3 + 1).toNatClampNeg), .inr r1], M)) sm_a209_379 rfl rfl (st_iald h_5 h_50) ?_
                  obtain ⟨b_51, hb_52, h⟩ := h
                  rw [hb_52]
                  obtain ⟨h_53, h⟩ := h
                  exact ru_call (p := 383) sm_a209_380 rfl (sc_virt (Or.inl rfl) rfl rfl h_53 (Nat.le_of_ble_eq_true rfl)) rfl h
                · by_cases hc_54 : ((sm_I M b_1 (x3).toNatClampNeg) &&& 31) = 7
                  · have h := h.2.2.2.2.2.2.2.1 hc_54
                    refine ru_tsw (pc := 43) (v := 7) (p := 407) sm_a209_43 hc_54 (by decide) ?_
                    refine ru_go (t := (408, [some (.inr (some b_1)), some (.inr r1), some (.inr r2), some (.inl x3)], [.inr r1], M)) sm_a209_407 rfl rfl rfl ?_
                    refine ru_go (t := (409, [some (.inr (some b_1)), some (.inr r1), some (.inr r2), some (.inl x3)], [.inr (some b_1), .inr r1], M)) sm_a209_408 rfl rfl rfl ?_
                    refine ru_go (t := (410, [some (.inr (some b_1)), some (.inr r1), some (.inr r2), some (.inl x3)], [.inl x3, .inr (some b_1), .inr r1], M)) sm_a209_409 rfl rfl rfl ?_
                    refine ru_go (t := (411, [some (.inr (some b_1)), some (.inr r1), some (.inr r2), some (.inl x3)], [.inl 1, .inl x3, .inr (some b_1), .inr r1], M)) sm_a209_410 rfl rfl (st_iconst (by decide)) ?_
                    refine ru_go (t := (412, [some (.inr (some b_1)), some (.inr r1), some (.inr r2), some (.inl x3)], [.inl (x3 + 1), .inr (some b_1), .inr r1], M)) sm_a209_411 rfl rfl rfl ?_
                    obtain ⟨h_55, h⟩ := h
                    refine ru_go (t := (413, [some (.inr (some b_1)), some (.inr r1), some (.inr r2), some (.inl x3)], [.inl (sm_I M b_1 (x3 + 1).toNatClampNeg), .inr r1], M)) sm_a209_412 rfl rfl (st_iald h_5 h_55) ?_
                    refine ru_go (t := (414, [some (.inr (some b_1)), some (.inr r1), some (.inr r2), some (.inl x3)], [.inr (some b_1), .inl (sm_I M b_1 (x3 + 1).toNatClampNeg), .inr r1], M)) sm_a209_413 rfl rfl rfl ?_
                    refine ru_go (t := (415, [some (.inr (some b_1)), some (.inr r1), some (.inr r2), some (.inl x3)], [.inl x3, .inr (some b_1), .inl (sm_I M b_1 (x3 + 1).toNatClampNeg), .inr r1], M)) sm_a209_414 rfl rfl rfl ?_
                    refine ru_go (t := (416, [some (.inr (some b_1)), some (.inr r1), some (.inr r2), some (.inl x3)], [.inl 2, .inl x3, .inr (some b_1), .inl (sm_I M b_1 (x3 + 1).toNatClampNeg), .inr r1], M)) sm_a209_415 rfl rfl (st_iconst (by decide)) ?_
                    refine ru_go (t := (417, [some (.inr (some b_1)), some (.inr r1), some (.inr r2), some (.inl x3)], [.inl (x3 + 2), .inr (some b_1), .inl (sm_I M b_1 (x3 + 1).toNatClampNeg), .inr r1], M)) sm_a209_416 rfl rfl rfl ?_
                    obtain ⟨h_56, h⟩ := h
                    refine ru_go (t := (418, [some (.inr (some b_1)), some (.inr r1), some (.inr r2), some (.inl x3)], [.inl (sm_I M b_1 (x3 + 2).toNatClampNeg), .inl (sm_I M b_1 (x3 + 1).toNatClampNeg), .inr r1], M)) sm_a209_417 rfl rfl (st_iald h_5 h_56) ?_
                    refine ru_go (t := (419, [some (.inr (some b_1)), some (.inr r1), some (.inr r2), some (.inl x3)], [.inr (some b_1), .inl (sm_I M b_1 (x3 + 2).toNatClampNeg), .inl (sm_I M b_1 (x3 + 1).toNatClampNeg), .inr r1], M)) sm_a209_418 rfl rfl rfl ?_
                    refine ru_go (t := (420, [some (.inr (some b_1)), some (.inr r1), some (.inr r2), some (.inl x3)], [.inl x3, .inr (some b_1), .inl (sm_I M b_1 (x3 + 2).toNatClampNeg), .inl (sm_I M b_1 (x3 + 1).toNatClampNeg), .inr r1], M)) sm_a209_419 rfl rfl rfl ?_
                    refine ru_go (t := (421, [some (.inr (some b_1)), some (.inr r1), some (.inr r2), some (.inl x3)], [.inl 3, .inl x3, .inr (some b_1), .inl (sm_I M b_1 (x3 + 2).toNatClampNeg), .inl (sm_I M b_1 (x3 + 1).toNatClampNeg), .inr r1], M)) sm_a209_420 rfl rfl (st_iconst (by decide)) ?_
                    refine ru_go (t := (422, [some (.inr (some b_1)), some (.inr r1), some (.inr r2), some (.inl x3)], [.inl (x3 + 3), .inr (some b_1), .inl (sm_I M b_1 (x3 + 2).toNatClampNeg), .inl (sm_I M b_1 (x3 + 1).toNatClampNeg), .inr r1], M)) sm_a209_421 rfl rfl rfl ?_
                    obtain ⟨h_57, h⟩ := h
                    refine ru_go (t := (423, [some (.inr (some b_1)), some (.inr r1), some (.inr r2), some (.inl x3)], [.inl (sm_I M b_1 (x3 + 3).toNatClampNeg), .inl (sm_I M b_1 (x3 + 2).toNatClampNeg), .inl (sm_I M b_1 (x3 + 1).toNatClampNeg), .inr r1], M)) sm_a209_422 rfl rfl (st_iald h_5 h_57) ?_
                    obtain ⟨b_58, hb_59, h⟩ := h
                    rw [hb_59]
                    obtain ⟨h_60, h⟩ := h
                    exact ru_call (p := 426) sm_a209_423 rfl (sc_virt (Or.inl rfl) rfl rfl h_60 (Nat.le_of_ble_eq_true rfl)) rfl h
                  · by_cases hc_61 : ((sm_I M b_1 (x3).toNatClampNeg) &&& 31) = 8
                    · have h := h.2.2.2.2.2.2.2.2.1 hc_61
                      refine ru_tsw (pc := 43) (v := 8) (p := 450) sm_a209_43 hc_61 (by decide) ?_
                      refine ru_go (t := (451, [some (.inr (some b_1)), some (.inr r1), some (.inr r2), some (.inl x3)], [.inr r1], M)) sm_a209_450 rfl rfl rfl ?_
                      refine ru_go (t := (452, [some (.inr (some b_1)), some (.inr r1), some (.inr r2), some (.inl x3)], [.inr (some b_1), .inr r1], M)) sm_a209_451 rfl rfl rfl ?_
                      refine ru_go (t := (453, [some (.inr (some b_1)), some (.inr r1), some (.inr r2), some (.inl x3)], [.inl x3, .inr (some b_1), .inr r1], M)) sm_a209_452 rfl rfl rfl ?_
                      refine ru_go (t := (454, [some (.inr (some b_1)), some (.inr r1), some (.inr r2), some (.inl x3)], [.inl 1, .inl x3, .inr (some b_1), .inr r1], M)) sm_a209_453 rfl rfl (st_iconst (by decide)) ?_
                      refine ru_go (t := (455, [some (.inr (some b_1)), some (.inr r1), some (.inr r2), some (.inl x3)], [.inl (x3 + 1), .inr (some b_1), .inr r1], M)) sm_a209_454 rfl rfl rfl ?_
                      obtain ⟨h_62, h⟩ := h
                      refine ru_go (t := (456, [some (.inr (some b_1)), some (.inr r1), some (.inr r2), some (.inl x3)], [.inl (sm_I M b_1 (x3 + 1).toNatClampNeg), .inr r1], M)) sm_a209_455 rfl rfl (st_iald h_5 h_62) ?_
                      refine ru_go (t := (457, [some (.inr (some b_1)), some (.inr r1), some (.inr r2), some (.inl x3)], [.inr (some b_1), .inl (sm_I M b_1 (x3 + 1).toNatClampNeg), .inr r1], M)) sm_a209_456 rfl rfl rfl ?_
                      refine ru_go (t := (458, [some (.inr (some b_1)), some (.inr r1), some (.inr r2), some (.inl x3)], [.inl x3, .inr (some b_1), .inl (sm_I M b_1 (x3 + 1).toNatClampNeg), .inr r1], M)) sm_a209_457 rfl rfl rfl ?_
                      refine ru_go (t := (459, [some (.inr (some b_1)), some (.inr r1), some (.inr r2), some (.inl x3)], [.inl 2, .inl x3, .inr (some b_1), .inl (sm_I M b_1 (x3 + 1).toNatClampNeg), .inr r1], M)) sm_a209_458 rfl rfl (st_iconst (by decide)) ?_
                      refine ru_go (t := (460, [some (.inr (some b_1)), some (.inr r1), some (.inr r2), some (.inl x3)], [.inl (x3 + 2), .inr (some b_1), .inl (sm_I M b_1 (x3 + 1).toNatClampNeg), .inr r1], M)) sm_a209_459 rfl rfl rfl ?_
                      obtain ⟨h_63, h⟩ := h
                      refine ru_go (t := (461, [some (.inr (some b_1)), some (.inr r1), some (.inr r2), some (.inl x3)], [.inl (sm_I M b_1 (x3 + 2).toNatClampNeg), .inl (sm_I M b_1 (x3 + 1).toNatClampNeg), .inr r1], M)) sm_a209_460 rfl rfl (st_iald h_5 h_63) ?_
                      refine ru_go (t := (462, [some (.inr (some b_1)), some (.inr r1), some (.inr r2), some (.inl x3)], [.inr (some b_1), .inl (sm_I M b_1 (x3 + 2).toNatClampNeg), .inl (sm_I M b_1 (x3 + 1).toNatClampNeg), .inr r1], M)) sm_a209_461 rfl rfl rfl ?_
                      refine ru_go (t := (463, [some (.inr (some b_1)), some (.inr r1), some (.inr r2), some (.inl x3)], [.inl x3, .inr (some b_1), .inl (sm_I M b_1 (x3 + 2).toNatClampNeg), .inl (sm_I M b_1 (x3 + 1).toNatClampNeg), .inr r1], M)) sm_a209_462 rfl rfl rfl ?_
                      refine ru_go (t := (464, [some (.inr (some b_1)), some (.inr r1), some (.inr r2), some (.inl x3)], [.inl 3, .inl x3, .inr (some b_1), .inl (sm_I M b_1 (x3 + 2).toNatClampNeg), .inl (sm_I M b_1 (x3 + 1).toNatClampNeg), .inr r1], M)) sm_a209_463 rfl rfl (st_iconst (by decide)) ?_
                      refine ru_go (t := (465, [some (.inr (some b_1)), some (.inr r1), some (.inr r2), some (.inl x3)], [.inl (x3 + 3), .inr (some b_1), .inl (sm_I M b_1 (x3 + 2).toNatClampNeg), .inl (sm_I M b_1 (x3 + 1).toNatClampNeg), .inr r1], M)) sm_a209_464 rfl rfl rfl ?_
                      obtain ⟨h_64, h⟩ := h
                      refine ru_go (t := (466, [some (.inr (some b_1)), some (.inr r1), some (.inr r2), some (.inl x3)], [.inl (sm_I M b_1 (x3 + 3).toNatClampNeg), .inl (sm_I M b_1 (x3 + 2).toNatClampNeg), .inl (sm_I M b_1 (x3 + 1).toNatClampNeg), .inr r1], M)) sm_a209_465 rfl rfl (st_iald h_5 h_64) ?_
                      refine ru_go (t := (467, [some (.inr (some b_1)), some (.inr r1), some (.inr r2), some (.inl x3)], [.inr (some b_1), .inl (sm_I M b_1 (x3 + 3).toNatClampNeg), .inl (sm_I M b_1 (x3 + 2).toNatClampNeg), .inl (sm_I M b_1 (x3 + 1).toNatClampNeg), .inr r1], M)) sm_a209_466 rfl rfl rfl ?_
                      refine ru_go (t := (468, [some (.inr (some b_1)), some (.inr r1), some (.inr r2), some (.inl x3)], [.inl x3, .inr (some b_1), .inl (sm_I M b_1 (x3 + 3).toNatClampNeg), .inl (sm_I M b_1 (x3 + 2).toNatClampNeg), .inl (sm_I M b_1 (x3 + 1).toNatClampNeg), .inr r1], M)) sm_a209_467 rfl rfl rfl ?_
                      refine ru_go (t := (469, [some (.inr (some b_1)), some (.inr r1), some (.inr r2), some (.inl x3)], [.inl 4, .inl x3, .inr (some b_1), .inl (sm_I M b_1 (x3 + 3).toNatClampNeg), .inl (sm_I M b_1 (x3 + 2).toNatClampNeg), .inl (sm_I M b_1 (x3 + 1).toNatClampNeg), .inr r1], M)) sm_a209_468 rfl rfl (st_iconst (by decide)) ?_
                      refine ru_go (t := (470, [some (.inr (some b_1)), some (.inr r1), some (.inr r2), some (.inl x3)], [.inl (x3 + 4), .inr (some b_1), .inl (sm_I M b_1 (x3 + 3).toNatClampNeg), .inl (sm_I M b_1 (x3 + 2).toNatClampNeg), .inl (sm_I M b_1 (x3 + 1).toNatClampNeg), .inr r1], M)) sm_a209_469 rfl rfl rfl ?_
                      obtain ⟨h_65, h⟩ := h
                      refine ru_go (t := (471, [some (.inr (some b_1)), some (.inr r1), some (.inr r2), some (.inl x3)], [.inl (sm_I M b_1 (x3 + 4).toNatClampNeg), .inl (sm_I M b_1 (x3 + 3).toNatClampNeg), .inl (sm_I M b_1 (x3 + 2).toNatClampNeg), .inl (sm_I M b_1 (x3 + 1).toNatClampNeg), .inr r1], M)) sm_a209_470 rfl rfl (st_iald h_5 h_65) ?_
                      refine ru_go (t := (472, [some (.inr (some b_1)), some (.inr r1), some (.inr r2), some (.inl x3)], [.inr (some b_1), .inl (sm_I M b_1 (x3 + 4).toNatClampNeg), .inl (sm_I M b_1 (x3 + 3).toNatClampNeg), .inl (sm_I M b_1 (x3 + 2).toNatClampNeg), .inl (sm_I M b_1 (x3 + 1).toNatClampNeg), .inr r1], M)) sm_a209_471 rfl rfl rfl ?_
                      refine ru_go (t := (473, [some (.inr (some b_1)), some (.inr r1), some (.inr r2), some (.inl x3)], [.inl x3, .inr (some b_1), .inl (sm_I M b_1 (x3 + 4).toNatClampNeg), .inl (sm_I M b_1 (x3 + 3).toNatClampNeg), .inl (sm_I M b_1 (x3 + 2).toNatClampNeg), .inl (sm_I M b_1 (x3 + 1).toNatClampNeg), .inr r1], M)) sm_a209_472 rfl rfl rfl ?_
                      refine ru_go (t := (474, [some (.inr (some b_1)), some (.inr r1), some (.inr r2), some (.inl x3)], [.inl 5, .inl x3, .inr (some b_1), .inl (sm_I M b_1 (x3 + 4).toNatClampNeg), .inl (sm_I M b_1 (x3 + 3).toNatClampNeg), .inl (sm_I M b_1 (x3 + 2).toNatClampNeg), .inl (sm_I M b_1 (x3 + 1).toNatClampNeg), .inr r1], M)) sm_a209_473 rfl rfl (st_iconst (by decide)) ?_
                      refine ru_go (t := (475, [some (.inr (some b_1)), some (.inr r1), some (.inr r2), some (.inl x3)], [.inl (x3 + 5), .inr (some b_1), .inl (sm_I M b_1 (x3 + 4).toNatClampNeg), .inl (sm_I M b_1 (x3 + 3).toNatClampNeg), .inl (sm_I M b_1 (x3 + 2).toNatClampNeg), .inl (sm_I M b_1 (x3 + 1).toNatClampNeg), .inr r1], M)) sm_a209_474 rfl rfl rfl ?_
                      obtain ⟨h_66, h⟩ := h
                      refine ru_go (t := (476, [some (.inr (some b_1)), some (.inr r1), some (.inr r2), some (.inl x3)], [.inl (sm_I M b_1 (x3 + 5).toNatClampNeg), .inl (sm_I M b_1 (x3 + 4).toNatClampNeg), .inl (sm_I M b_1 (x3 + 3).toNatClampNeg), .inl (sm_I M b_1 (x3 + 2).toNatClampNeg), .inl (sm_I M b_1 (x3 + 1).toNatClampNeg), .inr r1], M)) sm_a209_475 rfl rfl (st_iald h_5 h_66) ?_
                      obtain ⟨b_67, hb_68, h⟩ := h
                      rw [hb_68]
                      obtain ⟨h_69, h⟩ := h
                      exact ru_call (p := 479) sm_a209_476 rfl (sc_virt (Or.inl rfl) rfl rfl h_69 (Nat.le_of_ble_eq_true rfl)) rfl h
                    · by_cases hc_70 : ((sm_I M b_1 (x3).toNatClampNeg) &&& 31) = 9
                      · have h := h.2.2.2.2.2.2.2.2.2.1 hc_70
                        refine ru_tsw (pc := 43) (v := 9) (p := 513) sm_a209_43 hc_70 (by decide) ?_
                        refine ru_go (t := (514, [some (.inr (some b_1)), some (.inr r1), some (.inr r2), some (.inl x3)], [.inr r1], M)) sm_a209_513 rfl rfl rfl ?_
                        refine ru_go (t := (515, [some (.inr (some b_1)), some (.inr r1), some (.inr r2), some (.inl x3)], [.inr (some b_1), .inr r1], M)) sm_a209_514 rfl rfl rfl ?_
                        refine ru_go (t := (516, [some (.inr (some b_1)), some (.inr r1), some (.inr r2), some (.inl x3)], [.inl x3, .inr (some b_1), .inr r1], M)) sm_a209_515 rfl rfl rfl ?_
                        refine ru_go (t := (517, [some (.inr (some b_1)), some (.inr r1), some (.inr r2), some (.inl x3)], [.inl 1, .inl x3, .inr (some b_1), .inr r1], M)) sm_a209_516 rfl rfl (st_iconst (by decide)) ?_
                        refine ru_go (t := (518, [some (.inr (some b_1)), some (.inr r1), some (.inr r2), some (.inl x3)], [.inl (x3 + 1), .inr (some b_1), .inr r1], M)) sm_a209_517 rfl rfl rfl ?_
                        obtain ⟨h_71, h⟩ := h
                        refine ru_go (t := (519, [some (.inr (some b_1)), some (.inr r1), some (.inr r2), some (.inl x3)], [.inl (sm_I M b_1 (x3 + 1).toNatClampNeg), .inr r1], M)) sm_a209_518 rfl rfl (st_iald h_5 h_71) ?_
                        obtain ⟨b_72, hb_73, h⟩ := h
                        rw [hb_73]
                        obtain ⟨h_74, h⟩ := h
                        exact ru_call (p := 522) sm_a209_519 rfl (sc_virt (Or.inl rfl) rfl rfl h_74 (Nat.le_of_ble_eq_true rfl)) rfl h
                      · by_cases hc_75 : ((sm_I M b_1 (x3).toNatClampNeg) &&& 31) = 10
                        · have h := h.2.2.2.2.2.2.2.2.2.2.1 hc_75
                          refine ru_tsw (pc := 43) (v := 10) (p := 536) sm_a209_43 hc_75 (by decide) ?_
                          refine ru_go (t := (537, [some (.inr (some b_1)), some (.inr r1), some (.inr r2), some (.inl x3)], [.inr r1], M)) sm_a209_536 rfl rfl rfl ?_
                          refine ru_go (t := (538, [some (.inr (some b_1)), some (.inr r1), some (.inr r2), some (.inl x3)], [.inr (some b_1), .inr r1], M)) sm_a209_537 rfl rfl rfl ?_
                          refine ru_go (t := (539, [some (.inr (some b_1)), some (.inr r1), some (.inr r2), some (.inl x3)], [.inl x3, .inr (some b_1), .inr r1], M)) sm_a209_538 rfl rfl rfl ?_
                          refine ru_go (t := (540, [some (.inr (some b_1)), some (.inr r1), some (.inr r2), some (.inl x3)], [.inl 1, .inl x3, .inr (some b_1), .inr r1], M)) sm_a209_539 rfl rfl (st_iconst (by decide)) ?_
                          refine ru_go (t := (541, [some (.inr (some b_1)), some (.inr r1), some (.inr r2), some (.inl x3)], [.inl (x3 + 1), .inr (some b_1), .inr r1], M)) sm_a209_540 rfl rfl rfl ?_
                          obtain ⟨h_76, h⟩ := h
                          refine ru_go (t := (542, [some (.inr (some b_1)), some (.inr r1), some (.inr r2), some (.inl x3)], [.inl (sm_I M b_1 (x3 + 1).toNatClampNeg), .inr r1], M)) sm_a209_541 rfl rfl (st_iald h_5 h_76) ?_
                          refine ru_go (t := (543, [some (.inr (some b_1)), some (.inr r1), some (.inr r2), some (.inl x3)], [.inr (some b_1), .inl (sm_I M b_1 (x3 + 1).toNatClampNeg), .inr r1], M)) sm_a209_542 rfl rfl rfl ?_
                          refine ru_go (t := (544, [some (.inr (some b_1)), some (.inr r1), some (.inr r2), some (.inl x3)], [.inl x3, .inr (some b_1), .inl (sm_I M b_1 (x3 + 1).toNatClampNeg), .inr r1], M)) sm_a209_543 rfl rfl rfl ?_
                          refine ru_go (t := (545, [some (.inr (some b_1)), some (.inr r1), some (.inr r2), some (.inl x3)], [.inl 2, .inl x3, .inr (some b_1), .inl (sm_I M b_1 (x3 + 1).toNatClampNeg), .inr r1], M)) sm_a209_544 rfl rfl (st_iconst (by decide)) ?_
                          refine ru_go (t := (546, [some (.inr (some b_1)), some (.inr r1), some (.inr r2), some (.inl x3)], [.inl (x3 + 2), .inr (some b_1), .inl (sm_I M b_1 (x3 + 1).toNatClampNeg), .inr r1], M)) sm_a209_545 rfl rfl rfl ?_
                          obtain ⟨h_77, h⟩ := h
                          refine ru_go (t := (547, [some (.inr (some b_1)), some (.inr r1), some (.inr r2), some (.inl x3)], [.inl (sm_I M b_1 (x3 + 2).toNatClampNeg), .inl (sm_I M b_1 (x3 + 1).toNatClampNeg), .inr r1], M)) sm_a209_546 rfl rfl (st_iald h_5 h_77) ?_
                          refine ru_go (t := (548, [some (.inr (some b_1)), some (.inr r1), some (.inr r2), some (.inl x3)], [.inr (some b_1), .inl (sm_I M b_1 (x3 + 2).toNatClampNeg), .inl (sm_I M b_1 (x3 + 1).toNatClampNeg), .inr r1], M)) sm_a209_547 rfl rfl rfl ?_
                          refine ru_go (t := (549, [some (.inr (some b_1)), some (.inr r1), some (.inr r2), some (.inl x3)], [.inl x3, .inr (some b_1), .inl (sm_I M b_1 (x3 + 2).toNatClampNeg), .inl (sm_I M b_1 (x3 + 1).toNatClampNeg), .inr r1], M)) sm_a209_548 rfl rfl rfl ?_
                          refine ru_go (t := (550, [some (.inr (some b_1)), some (.inr r1), some (.inr r2), some (.inl x3)], [.inl 3, .inl x3, .inr (some b_1), .inl (sm_I M b_1 (x3 + 2).toNatClampNeg), .inl (sm_I M b_1 (x3 + 1).toNatClampNeg), .inr r1], M)) sm_a209_549 rfl rfl (st_iconst (by decide)) ?_
                          refine ru_go (t := (551, [some (.inr (some b_1)), some (.inr r1), some (.inr r2), some (.inl x3)], [.inl (x3 + 3), .inr (some b_1), .inl (sm_I M b_1 (x3 + 2).toNatClampNeg), .inl (sm_I M b_1 (x3 + 1).toNatClampNeg), .inr r1], M)) sm_a209_550 rfl rfl rfl ?_
                          obtain ⟨h_78, h⟩ := h
                          refine ru_go (t := (552, [some (.inr (some b_1)), some (.inr r1), some (.inr r2), some (.inl x3)], [.inl (sm_I M b_1 (x3 + 3).toNatClampNeg), .inl (sm_I M b_1 (x3 + 2).toNatClampNeg), .inl (sm_I M b_1 (x3 + 1).toNatClampNeg), .inr r1], M)) sm_a209_551 rfl rfl (st_iald h_5 h_78) ?_
                          obtain ⟨b_79, hb_80, h⟩ := h
                          rw [hb_80]
                          obtain ⟨h_81, h⟩ := h
                          exact ru_call (p := 555) sm_a209_552 rfl (sc_virt (Or.inl rfl) rfl rfl h_81 (Nat.le_of_ble_eq_true rfl)) rfl h
                        · by_cases hc_82 : ((sm_I M b_1 (x3).toNatClampNeg) &&& 31) = 11
                          · have h := h.2.2.2.2.2.2.2.2.2.2.2.1 hc_82
                            refine ru_tsw (pc := 43) (v := 11) (p := 579) sm_a209_43 hc_82 (by decide) ?_
                            refine ru_go (t := (580, [some (.inr (some b_1)), some (.inr r1), some (.inr r2), some (.inl x3)], [.inr r1], M)) sm_a209_579 rfl rfl rfl ?_
                            refine ru_go (t := (581, [some (.inr (some b_1)), some (.inr r1), some (.inr r2), some (.inl x3)], [.inr (some b_1), .inr r1], M)) sm_a209_580 rfl rfl rfl ?_
                            refine ru_go (t := (582, [some (.inr (some b_1)), some (.inr r1), some (.inr r2), some (.inl x3)], [.inl x3, .inr (some b_1), .inr r1], M)) sm_a209_581 rfl rfl rfl ?_
                            refine ru_go (t := (583, [some (.inr (some b_1)), some (.inr r1), some (.inr r2), some (.inl x3)], [.inl 1, .inl x3, .inr (some b_1), .inr r1], M)) sm_a209_582 rfl rfl (st_iconst (by decide)) ?_
                            refine ru_go (t := (584, [some (.inr (some b_1)), some (.inr r1), some (.inr r2), some (.inl x3)], [.inl (x3 + 1), .inr (some b_1), .inr r1], M)) sm_a209_583 rfl rfl rfl ?_
                            obtain ⟨h_83, h⟩ := h
                            refine ru_go (t := (585, [some (.inr (some b_1)), some (.inr r1), some (.inr r2), some (.inl x3)], [.inl (sm_I M b_1 (x3 + 1).toNatClampNeg), .inr r1], M)) sm_a209_584 rfl rfl (st_iald h_5 h_83) ?_
                            refine ru_go (t := (586, [some (.inr (some b_1)), some (.inr r1), some (.inr r2), some (.inl x3)], [.inr (some b_1), .inl (sm_I M b_1 (x3 + 1).toNatClampNeg), .inr r1], M)) sm_a209_585 rfl rfl rfl ?_
                            refine ru_go (t := (587, [some (.inr (some b_1)), some (.inr r1), some (.inr r2), some (.inl x3)], [.inl x3, .inr (some b_1), .inl (sm_I M b_1 (x3 + 1).toNatClampNeg), .inr r1], M)) sm_a209_586 rfl rfl rfl ?_
                            refine ru_go (t := (588, [some (.inr (some b_1)), some (.inr r1), some (.inr r2), some (.inl x3)], [.inl 2, .inl x3, .inr (some b_1), .inl (sm_I M b_1 (x3 + 1).toNatClampNeg), .inr r1], M)) sm_a209_587 rfl rfl (st_iconst (by decide)) ?_
                            refine ru_go (t := (589, [some (.inr (some b_1)), some (.inr r1), some (.inr r2), some (.inl x3)], [.inl (x3 + 2), .inr (some b_1), .inl (sm_I M b_1 (x3 + 1).toNatClampNeg), .inr r1], M)) sm_a209_588 rfl rfl rfl ?_
                            obtain ⟨h_84, h⟩ := h
                            refine ru_go (t := (590, [some (.inr (some b_1)), some (.inr r1), some (.inr r2), some (.inl x3)], [.inl (sm_I M b_1 (x3 + 2).toNatClampNeg), .inl (sm_I M b_1 (x3 + 1).toNatClampNeg), .inr r1], M)) sm_a209_589 rfl rfl (st_iald h_5 h_84) ?_
                            obtain ⟨b_85, hb_86, h⟩ := h
                            rw [hb_86]
                            obtain ⟨h_87, h⟩ := h
                            exact ru_call (p := 593) sm_a209_590 rfl (sc_virt (Or.inl rfl) rfl rfl h_87 (Nat.le_of_ble_eq_true rfl)) rfl h
                          · by_cases hc_88 : ((sm_I M b_1 (x3).toNatClampNeg) &&& 31) = 12
                            · have h := h.2.2.2.2.2.2.2.2.2.2.2.2.1 hc_88
                              refine ru_tsw (pc := 43) (v := 12) (p := 612) sm_a209_43 hc_88 (by decide) ?_
                              refine ru_go (t := (613, [some (.inr (some b_1)), some (.inr r1), some (.inr r2), some (.inl x3)], [.inr r1], M)) sm_a209_612 rfl rfl rfl ?_
                              refine ru_go (t := (614, [some (.inr (some b_1)), some (.inr r1), some (.inr r2), some (.inl x3)], [.inr (some b_1), .inr r1], M)) sm_a209_613 rfl rfl rfl ?_
                              refine ru_go (t := (615, [some (.inr (some b_1)), some (.inr r1), some (.inr r2), some (.inl x3)], [.inl x3, .inr (some b_1), .inr r1], M)) sm_a209_614 rfl rfl rfl ?_
                              refine ru_go (t := (616, [some (.inr (some b_1)), some (.inr r1), some (.inr r2), some (.inl x3)], [.inl 1, .inl x3, .inr (some b_1), .inr r1], M)) sm_a209_615 rfl rfl (st_iconst (by decide)) ?_
                              refine ru_go (t := (617, [some (.inr (some b_1)), some (.inr r1), some (.inr r2), some (.inl x3)], [.inl (x3 + 1), .inr (some b_1), .inr r1], M)) sm_a209_616 rfl rfl rfl ?_
                              obtain ⟨h_89, h⟩ := h
                              refine ru_go (t := (618, [some (.inr (some b_1)), some (.inr r1), some (.inr r2), some (.inl x3)], [.inl (sm_I M b_1 (x3 + 1).toNatClampNeg), .inr r1], M)) sm_a209_617 rfl rfl (st_iald h_5 h_89) ?_
                              refine ru_go (t := (619, [some (.inr (some b_1)), some (.inr r1), some (.inr r2), some (.inl x3)], [.inr (some b_1), .inl (sm_I M b_1 (x3 + 1).toNatClampNeg), .inr r1], M)) sm_a209_618 rfl rfl rfl ?_
                              refine ru_go (t := (620, [some (.inr (some b_1)), some (.inr r1), some (.inr r2), some (.inl x3)], [.inl x3, .inr (some b_1), .inl (sm_I M b_1 (x3 + 1).toNatClampNeg), .inr r1], M)) sm_a209_619 rfl rfl rfl ?_
                              refine ru_go (t := (621, [some (.inr (some b_1)), some (.inr r1), some (.inr r2), some (.inl x3)], [.inl 2, .inl x3, .inr (some b_1), .inl (sm_I M b_1 (x3 + 1).toNatClampNeg), .inr r1], M)) sm_a209_620 rfl rfl (st_iconst (by decide)) ?_
                              refine ru_go (t := (622, [some (.inr (some b_1)), some (.inr r1), some (.inr r2), some (.inl x3)], [.inl (x3 + 2), .inr (some b_1), .inl (sm_I M b_1 (x3 + 1).toNatClampNeg), .inr r1], M)) sm_a209_621 rfl rfl rfl ?_
                              obtain ⟨h_90, h⟩ := h
                              refine ru_go (t := (623, [some (.inr (some b_1)), some (.inr r1), some (.inr r2), some (.inl x3)], [.inl (sm_I M b_1 (x3 + 2).toNatClampNeg), .inl (sm_I M b_1 (x3 + 1).toNatClampNeg), .inr r1], M)) sm_a209_622 rfl rfl (st_iald h_5 h_90) ?_
                              refine ru_go (t := (624, [some (.inr (some b_1)), some (.inr r1), some (.inr r2), some (.inl x3)], [.inr (some b_1), .inl (sm_I M b_1 (x3 + 2).toNatClampNeg), .inl (sm_I M b_1 (x3 + 1).toNatClampNeg), .inr r1], M)) sm_a209_623 rfl rfl rfl ?_
                              refine ru_go (t := (625, [some (.inr (some b_1)), some (.inr r1), some (.inr r2), some (.inl x3)], [.inl x3, .inr (some b_1), .inl (sm_I M b_1 (x3 + 2).toNatClampNeg), .inl (sm_I M b_1 (x3 + 1).toNatClampNeg), .inr r1], M)) sm_a209_624 rfl rfl rfl ?_
                              refine ru_go (t := (626, [some (.inr (some b_1)), some (.inr r1), some (.inr r2), some (.inl x3)], [.inl 3, .inl x3, .inr (some b_1), .inl (sm_I M b_1 (x3 + 2).toNatClampNeg), .inl (sm_I M b_1 (x3 + 1).toNatClampNeg), .inr r1], M)) sm_a209_625 rfl rfl (st_iconst (by decide)) ?_
                              refine ru_go (t := (627, [some (.inr (some b_1)), some (.inr r1), some (.inr r2), some (.inl x3)], [.inl (x3 + 3), .inr (some b_1), .inl (sm_I M b_1 (x3 + 2).toNatClampNeg), .inl (sm_I M b_1 (x3 + 1).toNatClampNeg), .inr r1], M)) sm_a209_626 rfl rfl rfl ?_
                              obtain ⟨h_91, h⟩ := h
                              refine ru_go (t := (628, [some (.inr (some b_1)), some (.inr r1), some (.inr r2), some (.inl x3)], [.inl (sm_I M b_1 (x3 + 3).toNatClampNeg), .inl (sm_I M b_1 (x3 + 2).toNatClampNeg), .inl (sm_I M b_1 (x3 + 1).toNatClampNeg), .inr r1], M)) sm_a209_627 rfl rfl (st_iald h_5 h_91) ?_
                              obtain ⟨b_92, hb_93, h⟩ := h
                              rw [hb_93]
                              obtain ⟨h_94, h⟩ := h
                              exact ru_call (p := 631) sm_a209_628 rfl (sc_virt (Or.inl rfl) rfl rfl h_94 (Nat.le_of_ble_eq_true rfl)) rfl h
                            · by_cases hc_95 : ((sm_I M b_1 (x3).toNatClampNeg) &&& 31) = 13
                              · have h := h.2.2.2.2.2.2.2.2.2.2.2.2.2.1 hc_95
                                refine ru_tsw (pc := 43) (v := 13) (p := 655) sm_a209_43 hc_95 (by decide) ?_
                                refine ru_go (t := (656, [some (.inr (some b_1)), some (.inr r1), some (.inr r2), some (.inl x3)], [.inr r1], M)) sm_a209_655 rfl rfl rfl ?_
                                refine ru_go (t := (657, [some (.inr (some b_1)), some (.inr r1), some (.inr r2), some (.inl x3)], [.inr (some b_1), .inr r1], M)) sm_a209_656 rfl rfl rfl ?_
                                refine ru_go (t := (658, [some (.inr (some b_1)), some (.inr r1), some (.inr r2), some (.inl x3)], [.inl x3, .inr (some b_1), .inr r1], M)) sm_a209_657 rfl rfl rfl ?_
                                refine ru_go (t := (659, [some (.inr (some b_1)), some (.inr r1), some (.inr r2), some (.inl x3)], [.inl 1, .inl x3, .inr (some b_1), .inr r1], M)) sm_a209_658 rfl rfl (st_iconst (by decide)) ?_
                                refine ru_go (t := (660, [some (.inr (some b_1)), some (.inr r1), some (.inr r2), some (.inl x3)], [.inl (x3 + 1), .inr (some b_1), .inr r1], M)) sm_a209_659 rfl rfl rfl ?_
                                obtain ⟨h_96, h⟩ := h
                                refine ru_go (t := (661, [some (.inr (some b_1)), some (.inr r1), some (.inr r2), some (.inl x3)], [.inl (sm_I M b_1 (x3 + 1).toNatClampNeg), .inr r1], M)) sm_a209_660 rfl rfl (st_iald h_5 h_96) ?_
                                obtain ⟨b_97, hb_98, h⟩ := h
                                rw [hb_98]
                                obtain ⟨h_99, h⟩ := h
                                exact ru_call (p := 664) sm_a209_661 rfl (sc_virt (Or.inl rfl) rfl rfl h_99 (Nat.le_of_ble_eq_true rfl)) rfl h
                              · by_cases hc_100 : ((sm_I M b_1 (x3).toNatClampNeg) &&& 31) = 14
                                · have h := h.2.2.2.2.2.2.2.2.2.2.2.2.2.2.1 hc_100
                                  refine ru_tsw (pc := 43) (v := 14) (p := 678) sm_a209_43 hc_100 (by decide) ?_
                                  refine ru_go (t := (679, [some (.inr (some b_1)), some (.inr r1), some (.inr r2), some (.inl x3)], [.inr r1], M)) sm_a209_678 rfl rfl rfl ?_
                                  refine ru_go (t := (680, [some (.inr (some b_1)), some (.inr r1), some (.inr r2), some (.inl x3)], [.inr (some b_1), .inr r1], M)) sm_a209_679 rfl rfl rfl ?_
                                  refine ru_go (t := (681, [some (.inr (some b_1)), some (.inr r1), some (.inr r2), some (.inl x3)], [.inl x3, .inr (some b_1), .inr r1], M)) sm_a209_680 rfl rfl rfl ?_
                                  refine ru_go (t := (682, [some (.inr (some b_1)), some (.inr r1), some (.inr r2), some (.inl x3)], [.inl 1, .inl x3, .inr (some b_1), .inr r1], M)) sm_a209_681 rfl rfl (st_iconst (by decide)) ?_
                                  refine ru_go (t := (683, [some (.inr (some b_1)), some (.inr r1), some (.inr r2), some (.inl x3)], [.inl (x3 + 1), .inr (some b_1), .inr r1], M)) sm_a209_682 rfl rfl rfl ?_
                                  obtain ⟨h_101, h⟩ := h
                                  refine ru_go (t := (684, [some (.inr (some b_1)), some (.inr r1), some (.inr r2), some (.inl x3)], [.inl (sm_I M b_1 (x3 + 1).toNatClampNeg), .inr r1], M)) sm_a209_683 rfl rfl (st_iald h_5 h_101) ?_
                                  refine ru_go (t := (685, [some (.inr (some b_1)), some (.inr r1), some (.inr r2), some (.inl x3)], [.inr (some b_1), .inl (sm_I M b_1 (x3 + 1).toNatClampNeg), .inr r1], M)) sm_a209_684 rfl rfl rfl ?_
                                  refine ru_go (t := (686, [some (.inr (some b_1)), some (.inr r1), some (.inr r2), some (.inl x3)], [.inl x3, .inr (some b_1), .inl (sm_I M b_1 (x3 + 1).toNatClampNeg), .inr r1], M)) sm_a209_685 rfl rfl rfl ?_
                                  refine ru_go (t := (687, [some (.inr (some b_1)), some (.inr r1), some (.inr r2), some (.inl x3)], [.inl 2, .inl x3, .inr (some b_1), .inl (sm_I M b_1 (x3 + 1).toNatClampNeg), .inr r1], M)) sm_a209_686 rfl rfl (st_iconst (by decide)) ?_
                                  refine ru_go (t := (688, [some (.inr (some b_1)), some (.inr r1), some (.inr r2), some (.inl x3)], [.inl (x3 + 2), .inr (some b_1), .inl (sm_I M b_1 (x3 + 1).toNatClampNeg), .inr r1], M)) sm_a209_687 rfl rfl rfl ?_
                                  obtain ⟨h_102, h⟩ := h
                                  refine ru_go (t := (689, [some (.inr (some b_1)), some (.inr r1), some (.inr r2), some (.inl x3)], [.inl (sm_I M b_1 (x3 + 2).toNatClampNeg), .inl (sm_I M b_1 (x3 + 1).toNatClampNeg), .inr r1], M)) sm_a209_688 rfl rfl (st_iald h_5 h_102) ?_
                                  obtain ⟨b_103, hb_104, h⟩ := h
                                  rw [hb_104]
                                  obtain ⟨h_105, h⟩ := h
                                  exact ru_call (p := 692) sm_a209_689 rfl (sc_virt (Or.inl rfl) rfl rfl h_105 (Nat.le_of_ble_eq_true rfl)) rfl h
                                · by_cases hc_106 : ((sm_I M b_1 (x3).toNatClampNeg) &&& 31) = 15
                                  · have h := h.2.2.2.2.2.2.2.2.2.2.2.2.2.2.2.1 hc_106
                                    refine ru_tsw (pc := 43) (v := 15) (p := 711) sm_a209_43 hc_106 (by decide) ?_
                                    refine ru_go (t := (712, [some (.inr (some b_1)), some (.inr r1), some (.inr r2), some (.inl x3)], [.inr r1], M)) sm_a209_711 rfl rfl rfl ?_
                                    refine ru_go (t := (713, [some (.inr (some b_1)), some (.inr r1), some (.inr r2), some (.inl x3)], [.inr (some b_1), .inr r1], M)) sm_a209_712 rfl rfl rfl ?_
                                    refine ru_go (t := (714, [some (.inr (some b_1)), some (.inr r1), some (.inr r2), some (.inl x3)], [.inl x3, .inr (some b_1), .inr r1], M)) sm_a209_713 rfl rfl rfl ?_
                                    refine ru_go (t := (715, [some (.inr (some b_1)), some (.inr r1), some (.inr r2), some (.inl x3)], [.inl 1, .inl x3, .inr (some b_1), .inr r1], M)) sm_a209_714 rfl rfl (st_iconst (by decide)) ?_
                                    refine ru_go (t := (716, [some (.inr (some b_1)), some (.inr r1), some (.inr r2), some (.inl x3)], [.inl (x3 + 1), .inr (some b_1), .inr r1], M)) sm_a209_715 rfl rfl rfl ?_
                                    obtain ⟨h_107, h⟩ := h
                                    refine ru_go (t := (717, [some (.inr (some b_1)), some (.inr r1), some (.inr r2), some (.inl x3)], [.inl (sm_I M b_1 (x3 + 1).toNatClampNeg), .inr r1], M)) sm_a209_716 rfl rfl (st_iald h_5 h_107) ?_
                                    refine ru_go (t := (718, [some (.inr (some b_1)), some (.inr r1), some (.inr r2), some (.inl x3)], [.inr (some b_1), .inl (sm_I M b_1 (x3 + 1).toNatClampNeg), .inr r1], M)) sm_a209_717 rfl rfl rfl ?_
                                    refine ru_go (t := (719, [some (.inr (some b_1)), some (.inr r1), some (.inr r2), some (.inl x3)], [.inl x3, .inr (some b_1), .inl (sm_I M b_1 (x3 + 1).toNatClampNeg), .inr r1], M)) sm_a209_718 rfl rfl rfl ?_
                                    refine ru_go (t := (720, [some (.inr (some b_1)), some (.inr r1), some (.inr r2), some (.inl x3)], [.inl 2, .inl x3, .inr (some b_1), .inl (sm_I M b_1 (x3 + 1).toNatClampNeg), .inr r1], M)) sm_a209_719 rfl rfl (st_iconst (by decide)) ?_
                                    refine ru_go (t := (721, [some (.inr (some b_1)), some (.inr r1), some (.inr r2), some (.inl x3)], [.inl (x3 + 2), .inr (some b_1), .inl (sm_I M b_1 (x3 + 1).toNatClampNeg), .inr r1], M)) sm_a209_720 rfl rfl rfl ?_
                                    obtain ⟨h_108, h⟩ := h
                                    refine ru_go (t := (722, [some (.inr (some b_1)), some (.inr r1), some (.inr r2), some (.inl x3)], [.inl (sm_I M b_1 (x3 + 2).toNatClampNeg), .inl (sm_I M b_1 (x3 + 1).toNatClampNeg), .inr r1], M)) sm_a209_721 rfl rfl (st_iald h_5 h_108) ?_
                                    obtain ⟨b_109, hb_110, h⟩ := h
                                    rw [hb_110]
                                    obtain ⟨h_111, h⟩ := h
                                    exact ru_call (p := 725) sm_a209_722 rfl (sc_virt (Or.inl rfl) rfl rfl h_111 (Nat.le_of_ble_eq_true rfl)) rfl h
                                  · by_cases hc_112 : ((sm_I M b_1 (x3).toNatClampNeg) &&& 31) = 16
                                    · have h := h.2.2.2.2.2.2.2.2.2.2.2.2.2.2.2.2.1 hc_112
                                      refine ru_tsw (pc := 43) (v := 16) (p := 744) sm_a209_43 hc_112 (by decide) ?_
                                      refine ru_go (t := (745, [some (.inr (some b_1)), some (.inr r1), some (.inr r2), some (.inl x3)], [.inr r1], M)) sm_a209_744 rfl rfl rfl ?_
                                      refine ru_go (t := (746, [some (.inr (some b_1)), some (.inr r1), some (.inr r2), some (.inl x3)], [.inr (some b_1), .inr r1], M)) sm_a209_745 rfl rfl rfl ?_
                                      refine ru_go (t := (747, [some (.inr (some b_1)), some (.inr r1), some (.inr r2), some (.inl x3)], [.inl x3, .inr (some b_1), .inr r1], M)) sm_a209_746 rfl rfl rfl ?_
                                      refine ru_go (t := (748, [some (.inr (some b_1)), some (.inr r1), some (.inr r2), some (.inl x3)], [.inl 1, .inl x3, .inr (some b_1), .inr r1], M)) sm_a209_747 rfl rfl (st_iconst (by decide)) ?_
                                      refine ru_go (t := (749, [some (.inr (some b_1)), some (.inr r1), some (.inr r2), some (.inl x3)], [.inl (x3 + 1), .inr (some b_1), .inr r1], M)) sm_a209_748 rfl rfl rfl ?_
                                      obtain ⟨h_113, h⟩ := h
                                      refine ru_go (t := (750, [some (.inr (some b_1)), some (.inr r1), some (.inr r2), some (.inl x3)], [.inl (sm_I M b_1 (x3 + 1).toNatClampNeg), .inr r1], M)) sm_a209_749 rfl rfl (st_iald h_5 h_113) ?_
                                      refine ru_go (t := (751, [some (.inr (some b_1)), some (.inr r1), some (.inr r2), some (.inl x3)], [.inr (some b_1), .inl (sm_I M b_1 (x3 + 1).toNatClampNeg), .inr r1], M)) sm_a209_750 rfl rfl rfl ?_
                                      refine ru_go (t := (752, [some (.inr (some b_1)), some (.inr r1), some (.inr r2), some (.inl x3)], [.inl x3, .inr (some b_1), .inl (sm_I M b_1 (x3 + 1).toNatClampNeg), .inr r1], M)) sm_a209_751 rfl rfl rfl ?_
                                      refine ru_go (t := (753, [some (.inr (some b_1)), some (.inr r1), some (.inr r2), some (.inl x3)], [.inl 2, .inl x3, .inr (some b_1), .inl (sm_I M b_1 (x3 + 1).toNatClampNeg), .inr r1], M)) sm_a209_752 rfl rfl (st_iconst (by decide)) ?_
                                      refine ru_go (t := (754, [some (.inr (some b_1)), some (.inr r1), some (.inr r2), some (.inl x3)], [.inl (x3 + 2), .inr (some b_1), .inl (sm_I M b_1 (x3 + 1).toNatClampNeg), .inr r1], M)) sm_a209_753 rfl rfl rfl ?_
                                      obtain ⟨h_114, h⟩ := h
                                      refine ru_go (t := (755, [some (.inr (some b_1)), some (.inr r1), some (.inr r2), some (.inl x3)], [.inl (sm_I M b_1 (x3 + 2).toNatClampNeg), .inl (sm_I M b_1 (x3 + 1).toNatClampNeg), .inr r1], M)) sm_a209_754 rfl rfl (st_iald h_5 h_114) ?_
                                      refine ru_go (t := (756, [some (.inr (some b_1)), some (.inr r1), some (.inr r2), some (.inl x3)], [.inr (some b_1), .inl (sm_I M b_1 (x3 + 2).toNatClampNeg), .inl (sm_I M b_1 (x3 + 1).toNatClampNeg), .inr r1], M)) sm_a209_755 rfl rfl rfl ?_
                                      refine ru_go (t := (757, [some (.inr (some b_1)), some (.inr r1), some (.inr r2), some (.inl x3)], [.inl x3, .inr (some b_1), .inl (sm_I M b_1 (x3 + 2).toNatClampNeg), .inl (sm_I M b_1 (x3 + 1).toNatClampNeg), .inr r1], M)) sm_a209_756 rfl rfl rfl ?_
                                      refine ru_go (t := (758, [some (.inr (some b_1)), some (.inr r1), some (.inr r2), some (.inl x3)], [.inl 3, .inl x3, .inr (some b_1), .inl (sm_I M b_1 (x3 + 2).toNatClampNeg), .inl (sm_I M b_1 (x3 + 1).toNatClampNeg), .inr r1], M)) sm_a209_757 rfl rfl (st_iconst (by decide)) ?_
                                      refine ru_go (t := (759, [some (.inr (some b_1)), some (.inr r1), some (.inr r2), some (.inl x3)], [.inl (x3 + 3), .inr (some b_1), .inl (sm_I M b_1 (x3 + 2).toNatClampNeg), .inl (sm_I M b_1 (x3 + 1).toNatClampNeg), .inr r1], M)) sm_a209_758 rfl rfl rfl ?_
                                      obtain ⟨h_115, h⟩ := h
                                      refine ru_go (t := (760, [some (.inr (some b_1)), some (.inr r1), some (.inr r2), some (.inl x3)], [.inl (sm_I M b_1 (x3 + 3).toNatClampNeg), .inl (sm_I M b_1 (x3 + 2).toNatClampNeg), .inl (sm_I M b_1 (x3 + 1).toNatClampNeg), .inr r1], M)) sm_a209_759 rfl rfl (st_iald h_5 h_115) ?_
                                      obtain ⟨b_116, hb_117, h⟩ := h
                                      rw [hb_117]
                                      obtain ⟨h_118, h⟩ := h
                                      exact ru_call (p := 763) sm_a209_760 rfl (sc_virt (Or.inl rfl) rfl rfl h_118 (Nat.le_of_ble_eq_true rfl)) rfl h
                                    · by_cases hc_119 : ((sm_I M b_1 (x3).toNatClampNeg) &&& 31) = 17
                                      · have h := h.2.2.2.2.2.2.2.2.2.2.2.2.2.2.2.2.2.1 hc_119
                                        refine ru_tsw (pc := 43) (v := 17) (p := 787) sm_a209_43 hc_119 (by decide) ?_
                                        refine ru_go (t := (788, [some (.inr (some b_1)), some (.inr r1), some (.inr r2), some (.inl x3)], [.inr r1], M)) sm_a209_787 rfl rfl rfl ?_
                                        refine ru_go (t := (789, [some (.inr (some b_1)), some (.inr r1), some (.inr r2), some (.inl x3)], [.inr (some b_1), .inr r1], M)) sm_a209_788 rfl rfl rfl ?_
                                        refine ru_go (t := (790, [some (.inr (some b_1)), some (.inr r1), some (.inr r2), some (.inl x3)], [.inl x3, .inr (some b_1), .inr r1], M)) sm_a209_789 rfl rfl rfl ?_
                                        refine ru_go (t := (791, [some (.inr (some b_1)), some (.inr r1), some (.inr r2), some (.inl x3)], [.inl 1, .inl x3, .inr (some b_1), .inr r1], M)) sm_a209_790 rfl rfl (st_iconst (by decide)) ?_
                                        refine ru_go (t := (792, [some (.inr (some b_1)), some (.inr r1), some (.inr r2), some (.inl x3)], [.inl (x3 + 1), .inr (some b_1), .inr r1], M)) sm_a209_791 rfl rfl rfl ?_
                                        obtain ⟨h_120, h⟩ := h
                                        refine ru_go (t := (793, [some (.inr (some b_1)), some (.inr r1), some (.inr r2), some (.inl x3)], [.inl (sm_I M b_1 (x3 + 1).toNatClampNeg), .inr r1], M)) sm_a209_792 rfl rfl (st_iald h_5 h_120) ?_
                                        refine ru_go (t := (794, [some (.inr (some b_1)), some (.inr r1), some (.inr r2), some (.inl x3)], [.inr (some b_1), .inl (sm_I M b_1 (x3 + 1).toNatClampNeg), .inr r1], M)) sm_a209_793 rfl rfl rfl ?_
                                        refine ru_go (t := (795, [some (.inr (some b_1)), some (.inr r1), some (.inr r2), some (.inl x3)], [.inl x3, .inr (some b_1), .inl (sm_I M b_1 (x3 + 1).toNatClampNeg), .inr r1], M)) sm_a209_794 rfl rfl rfl ?_
                                        refine ru_go (t := (796, [some (.inr (some b_1)), some (.inr r1), some (.inr r2), some (.inl x3)], [.inl 2, .inl x3, .inr (some b_1), .inl (sm_I M b_1 (x3 + 1).toNatClampNeg), .inr r1], M)) sm_a209_795 rfl rfl (st_iconst (by decide)) ?_
                                        refine ru_go (t := (797, [some (.inr (some b_1)), some (.inr r1), some (.inr r2), some (.inl x3)], [.inl (x3 + 2), .inr (some b_1), .inl (sm_I M b_1 (x3 + 1).toNatClampNeg), .inr r1], M)) sm_a209_796 rfl rfl rfl ?_
                                        obtain ⟨h_121, h⟩ := h
                                        refine ru_go (t := (798, [some (.inr (some b_1)), some (.inr r1), some (.inr r2), some (.inl x3)], [.inl (sm_I M b_1 (x3 + 2).toNatClampNeg), .inl (sm_I M b_1 (x3 + 1).toNatClampNeg), .inr r1], M)) sm_a209_797 rfl rfl (st_iald h_5 h_121) ?_
                                        obtain ⟨b_122, hb_123, h⟩ := h
                                        rw [hb_123]
                                        obtain ⟨h_124, h⟩ := h
                                        exact ru_call (p := 801) sm_a209_798 rfl (sc_virt (Or.inl rfl) rfl rfl h_124 (Nat.le_of_ble_eq_true rfl)) rfl h
                                      · have h := h.2.2.2.2.2.2.2.2.2.2.2.2.2.2.2.2.2.2 hc_7 hc_16 hc_21 hc_29 hc_37 hc_42 hc_47 hc_54 hc_61 hc_70 hc_75 hc_82 hc_88 hc_95 hc_100 hc_106 hc_112 hc_119
                                        have zhc_7 := sm_ne_toInt hc_7; rw [show (0 : Int32).toInt = 0 by decide] at zhc_7
                                        have zhc_16 := sm_ne_toInt hc_16; rw [show (1 : Int32).toInt = 1 by decide] at zhc_16
                                        have zhc_21 := sm_ne_toInt hc_21; rw [show (2 : Int32).toInt = 2 by decide] at zhc_21
                                        have zhc_29 := sm_ne_toInt hc_29; rw [show (3 : Int32).toInt = 3 by decide] at zhc_29
                                        have zhc_37 := sm_ne_toInt hc_37; rw [show (4 : Int32).toInt = 4 by decide] at zhc_37
                                        have zhc_42 := sm_ne_toInt hc_42; rw [show (5 : Int32).toInt = 5 by decide] at zhc_42
                                        have zhc_47 := sm_ne_toInt hc_47; rw [show (6 : Int32).toInt = 6 by decide] at zhc_47
                                        have zhc_54 := sm_ne_toInt hc_54; rw [show (7 : Int32).toInt = 7 by decide] at zhc_54
                                        have zhc_61 := sm_ne_toInt hc_61; rw [show (8 : Int32).toInt = 8 by decide] at zhc_61
                                        have zhc_70 := sm_ne_toInt hc_70; rw [show (9 : Int32).toInt = 9 by decide] at zhc_70
                                        have zhc_75 := sm_ne_toInt hc_75; rw [show (10 : Int32).toInt = 10 by decide] at zhc_75
                                        have zhc_82 := sm_ne_toInt hc_82; rw [show (11 : Int32).toInt = 11 by decide] at zhc_82
                                        have zhc_88 := sm_ne_toInt hc_88; rw [show (12 : Int32).toInt = 12 by decide] at zhc_88
                                        have zhc_95 := sm_ne_toInt hc_95; rw [show (13 : Int32).toInt = 13 by decide] at zhc_95
                                        have zhc_100 := sm_ne_toInt hc_100; rw [show (14 : Int32).toInt = 14 by decide] at zhc_100
                                        have zhc_106 := sm_ne_toInt hc_106; rw [show (15 : Int32).toInt = 15 by decide] at zhc_106
                                        have zhc_112 := sm_ne_toInt hc_112; rw [show (16 : Int32).toInt = 16 by decide] at zhc_112
                                        have zhc_119 := sm_ne_toInt hc_119; rw [show (17 : Int32).toInt = 17 by decide] at zhc_119
                                        refine ru_tswd (pc := 43) (p := 820) sm_a209_43 (by omega) (by decide) ?_
                                        refine ru_go (t := (823, [some (.inr (some b_1)), some (.inr r1), some (.inr r2), some (.inl (x3 + 6))], [], M)) sm_a209_820 rfl rfl (st_iinc rfl (by decide)) ?_
                                        refine ru_go (t := (28, [some (.inr (some b_1)), some (.inr r1), some (.inr r2), some (.inl (x3 + 6))], [], M)) sm_a209_823 rfl rfl (st_goto (pc := 823) (by decide)) ?_
                                        exact h
theorem bb_209_157 {d : Nat} {M : sm_M} {Q : Option sm_V → sm_M → Prop} {r0 : Option Nat} {r1 : Option Nat} {r2 : Option Nat} {x3 : Int32}
    (h : ∃ b_1, r0 = some b_1 ∧ sm_iA M b_1 ∧ sm_in_ M b_1 (x3 + 1) ∧ sm_in_ M b_1 (x3 + 2) ∧ sm_in_ M b_1 (x3 + 3) ∧ sm_in_ M b_1 (x3 + 4) ∧ sm_in_ M b_1 (x3 + 5) ∧ ∃ b_9, r2 = some b_9 ∧ sm_K M b_9 = 39 ∧ sm_Run d 152 0 (sm_ent 152 [.inr (some b_9), .inl (sm_I M b_1 (x3 + 1).toNatClampNeg), .inl (sm_I M b_1 (x3 + 2).toNatClampNeg), .inl (sm_I M b_1 (x3 + 3).toNatClampNeg), .inl (sm_I M b_1 (x3 + 4).toNatClampNeg), .inl (sm_I M b_1 (x3 + 5).toNatClampNeg)]) [] M (fun v M1 => sm_Run (d + 1) 209 186 [some (.inr (some b_1)), some (.inr r1), some (.inr (some b_9)), some (.inl x3)] (v.toList ++ []) M1 Q)) :
    sm_Run (d + 1) 209 157 [some (.inr r0), some (.inr r1), some (.inr r2), some (.inl x3)] [] M Q := by
  refine ru_go (t := (158, [some (.inr r0), some (.inr r1), some (.inr r2), some (.inl x3)], [.inr r2], M)) sm_a209_157 rfl rfl rfl ?_
  refine ru_go (t := (159, [some (.inr r0), some (.inr r1), some (.inr r2), some (.inl x3)], [.inr r0, .inr r2], M)) sm_a209_158 rfl rfl rfl ?_
  refine ru_go (t := (160, [some (.inr r0), some (.inr r1), some (.inr r2), some (.inl x3)], [.inl x3, .inr r0, .inr r2], M)) sm_a209_159 rfl rfl rfl ?_
  refine ru_go (t := (161, [some (.inr r0), some (.inr r1), some (.inr r2), some (.inl x3)], [.inl 1, .inl x3, .inr r0, .inr r2], M)) sm_a209_160 rfl rfl (st_iconst (by decide)) ?_
  refine ru_go (t := (162, [some (.inr r0), some (.inr r1), some (.inr r2), some (.inl x3)], [.inl (x3 + 1), .inr r0, .inr r2], M)) sm_a209_161 rfl rfl rfl ?_
  obtain ⟨b_1, hb_2, h⟩ := h
  rw [hb_2]
  obtain ⟨h_3, h⟩ := h
  obtain ⟨h_4, h⟩ := h
  refine ru_go (t := (163, [some (.inr (some b_1)), some (.inr r1), some (.inr r2), some (.inl x3)], [.inl (sm_I M b_1 (x3 + 1).toNatClampNeg), .inr r2], M)) sm_a209_162 rfl rfl (st_iald h_3 h_4) ?_
  refine ru_go (t := (164, [some (.inr (some b_1)), some (.inr r1), some (.inr r2), some (.inl x3)], [.inr (some b_1), .inl (sm_I M b_1 (x3 + 1).toNatClampNeg), .inr r2], M)) sm_a209_163 rfl rfl rfl ?_
  refine ru_go (t := (165, [some (.inr (some b_1)), some (.inr r1), some (.inr r2), some (.inl x3)], [.inl x3, .inr (some b_1), .inl (sm_I M b_1 (x3 + 1).toNatClampNeg), .inr r2], M)) sm_a209_164 rfl rfl rfl ?_
  refine ru_go (t := (166, [some (.inr (some b_1)), some (.inr r1), some (.inr r2), some (.inl x3)], [.inl 2, .inl x3, .inr (some b_1), .inl (sm_I M b_1 (x3 + 1).toNatClampNeg), .inr r2], M)) sm_a209_165 rfl rfl (st_iconst (by decide)) ?_
  refine ru_go (t := (167, [some (.inr (some b_1)), some (.inr r1), some (.inr r2), some (.inl x3)], [.inl (x3 + 2), .inr (some b_1), .inl (sm_I M b_1 (x3 + 1).toNatClampNeg), .inr r2], M)) sm_a209_166 rfl rfl rfl ?_
  obtain ⟨h_5, h⟩ := h
  refine ru_go (t := (168, [some (.inr (some b_1)), some (.inr r1), some (.inr r2), some (.inl x3)], [.inl (sm_I M b_1 (x3 + 2).toNatClampNeg), .inl (sm_I M b_1 (x3 + 1).toNatClampNeg), .inr r2], M)) sm_a209_167 rfl rfl (st_iald h_3 h_5) ?_
  refine ru_go (t := (169, [some (.inr (some b_1)), some (.inr r1), some (.inr r2), some (.inl x3)], [.inr (some b_1), .inl (sm_I M b_1 (x3 + 2).toNatClampNeg), .inl (sm_I M b_1 (x3 + 1).toNatClampNeg), .inr r2], M)) sm_a209_168 rfl rfl rfl ?_
  refine ru_go (t := (170, [some (.inr (some b_1)), some (.inr r1), some (.inr r2), some (.inl x3)], [.inl x3, .inr (some b_1), .inl (sm_I M b_1 (x3 + 2).toNatClampNeg), .inl (sm_I M b_1 (x3 + 1).toNatClampNeg), .inr r2], M)) sm_a209_169 rfl rfl rfl ?_
  refine ru_go (t := (171, [some (.inr (some b_1)), some (.inr r1), some (.inr r2), some (.inl x3)], [.inl 3, .inl x3, .inr (some b_1), .inl (sm_I M b_1 (x3 + 2).toNatClampNeg), .inl (sm_I M b_1 (x3 + 1).toNatClampNeg), .inr r2], M)) sm_a209_170 rfl rfl (st_iconst (by decide)) ?_
  refine ru_go (t := (172, [some (.inr (some b_1)), some (.inr r1), some (.inr r2), some (.inl x3)], [.inl (x3 + 3), .inr (some b_1), .inl (sm_I M b_1 (x3 + 2).toNatClampNeg), .inl (sm_I M b_1 (x3 + 1).toNatClampNeg), .inr r2], M)) sm_a209_171 rfl rfl rfl ?_
  obtain ⟨h_6, h⟩ := h
  refine ru_go (t := (173, [some (.inr (some b_1)), some (.inr r1), some (.inr r2), some (.inl x3)], [.inl (sm_I M b_1 (x3 + 3).toNatClampNeg), .inl (sm_I M b_1 (x3 + 2).toNatClampNeg), .inl (sm_I M b_1 (x3 + 1).toNatClampNeg), .inr r2], M)) sm_a209_172 rfl rfl (st_iald h_3 h_6) ?_
  refine ru_go (t := (174, [some (.inr (some b_1)), some (.inr r1), some (.inr r2), some (.inl x3)], [.inr (some b_1), .inl (sm_I M b_1 (x3 + 3).toNatClampNeg), .inl (sm_I M b_1 (x3 + 2).toNatClampNeg), .inl (sm_I M b_1 (x3 + 1).toNatClampNeg), .inr r2], M)) sm_a209_173 rfl rfl rfl ?_
  refine ru_go (t := (175, [some (.inr (some b_1)), some (.inr r1), some (.inr r2), some (.inl x3)], [.inl x3, .inr (some b_1), .inl (sm_I M b_1 (x3 + 3).toNatClampNeg), .inl (sm_I M b_1 (x3 + 2).toNatClampNeg), .inl (sm_I M b_1 (x3 + 1).toNatClampNeg), .inr r2], M)) sm_a209_174 rfl rfl rfl ?_
  refine ru_go (t := (176, [some (.inr (some b_1)), some (.inr r1), some (.inr r2), some (.inl x3)], [.inl 4, .inl x3, .inr (some b_1), .inl (sm_I M b_1 (x3 + 3).toNatClampNeg), .inl (sm_I M b_1 (x3 + 2).toNatClampNeg), .inl (sm_I M b_1 (x3 + 1).toNatClampNeg), .inr r2], M)) sm_a209_175 rfl rfl (st_iconst (by decide)) ?_
  refine ru_go (t := (177, [some (.inr (some b_1)), some (.inr r1), some (.inr r2), some (.inl x3)], [.inl (x3 + 4), .inr (some b_1), .inl (sm_I M b_1 (x3 + 3).toNatClampNeg), .inl (sm_I M b_1 (x3 + 2).toNatClampNeg), .inl (sm_I M b_1 (x3 + 1).toNatClampNeg), .inr r2], M)) sm_a209_176 rfl rfl rfl ?_
  obtain ⟨h_7, h⟩ := h
  refine ru_go (t := (178, [some (.inr (some b_1)), some (.inr r1), some (.inr r2), some (.inl x3)], [.inl (sm_I M b_1 (x3 + 4).toNatClampNeg), .inl (sm_I M b_1 (x3 + 3).toNatClampNeg), .inl (sm_I M b_1 (x3 + 2).toNatClampNeg), .inl (sm_I M b_1 (x3 + 1).toNatClampNeg), .inr r2], M)) sm_a209_177 rfl rfl (st_iald h_3 h_7) ?_
  refine ru_go (t := (179, [some (.inr (some b_1)), some (.inr r1), some (.inr r2), some (.inl x3)], [.inr (some b_1), .inl (sm_I M b_1 (x3 + 4).toNatClampNeg), .inl (sm_I M b_1 (x3 + 3).toNatClampNeg), .inl (sm_I M b_1 (x3 + 2).toNatClampNeg), .inl (sm_I M b_1 (x3 + 1).toNatClampNeg), .inr r2], M)) sm_a209_178 rfl rfl rfl ?_
  refine ru_go (t := (180, [some (.inr (some b_1)), some (.inr r1), some (.inr r2), some (.inl x3)], [.inl x3, .inr (some b_1), .inl (sm_I M b_1 (x3 + 4).toNatClampNeg), .inl (sm_I M b_1 (x3 + 3).toNatClampNeg), .inl (sm_I M b_1 (x3 + 2).toNatClampNeg), .inl (sm_I M b_1 (x3 + 1).toNatClampNeg), .inr r2], M)) sm_a209_179 rfl rfl rfl ?_
  refine ru_go (t := (181, [some (.inr (some b_1)), some (.inr r1), some (.inr r2), some (.inl x3)], [.inl 5, .inl x3, .inr (some b_1), .inl (sm_I M b_1 (x3 + 4).toNatClampNeg), .inl (sm_I M b_1 (x3 + 3).toNatClampNeg), .inl (sm_I M b_1 (x3 + 2).toNatClampNeg), .inl (sm_I M b_1 (x3 + 1).toNatClampNeg), .inr r2], M)) sm_a209_180 rfl rfl (st_iconst (by decide)) ?_
  refine ru_go (t := (182, [some (.inr (some b_1)), some (.inr r1), some (.inr r2), some (.inl x3)], [.inl (x3 + 5), .inr (some b_1), .inl (sm_I M b_1 (x3 + 4).toNatClampNeg), .inl (sm_I M b_1 (x3 + 3).toNatClampNeg), .inl (sm_I M b_1 (x3 + 2).toNatClampNeg), .inl (sm_I M b_1 (x3 + 1).toNatClampNeg), .inr r2], M)) sm_a209_181 rfl rfl rfl ?_
  obtain ⟨h_8, h⟩ := h
  refine ru_go (t := (183, [some (.inr (some b_1)), some (.inr r1), some (.inr r2), some (.inl x3)], [.inl (sm_I M b_1 (x3 + 5).toNatClampNeg), .inl (sm_I M b_1 (x3 + 4).toNatClampNeg), .inl (sm_I M b_1 (x3 + 3).toNatClampNeg), .inl (sm_I M b_1 (x3 + 2).toNatClampNeg), .inl (sm_I M b_1 (x3 + 1).toNatClampNeg), .inr r2], M)) sm_a209_182 rfl rfl (st_iald h_3 h_8) ?_
  obtain ⟨b_9, hb_10, h⟩ := h
  rw [hb_10]
  obtain ⟨h_11, h⟩ := h
  exact ru_call (p := 186) sm_a209_183 rfl (sc_virt (Or.inl rfl) rfl rfl h_11 (Nat.le_of_ble_eq_true rfl)) rfl h
theorem bb_209_186 {d : Nat} {M : sm_M} {Q : Option sm_V → sm_M → Prop} {r0 : Option Nat} {r1 : Option Nat} {r2 : Option Nat} {x3 : Int32}
    (h : sm_Run (d + 1) 209 28 [some (.inr r0), some (.inr r1), some (.inr r2), some (.inl (x3 + 6))] [] M Q) :
    sm_Run (d + 1) 209 186 [some (.inr r0), some (.inr r1), some (.inr r2), some (.inl x3)] [] M Q := by
  refine ru_go (t := (820, [some (.inr r0), some (.inr r1), some (.inr r2), some (.inl x3)], [], M)) sm_a209_186 rfl rfl (st_goto (pc := 186) (by decide)) ?_
  refine ru_go (t := (823, [some (.inr r0), some (.inr r1), some (.inr r2), some (.inl (x3 + 6))], [], M)) sm_a209_820 rfl rfl (st_iinc rfl (by decide)) ?_
  refine ru_go (t := (28, [some (.inr r0), some (.inr r1), some (.inr r2), some (.inl (x3 + 6))], [], M)) sm_a209_823 rfl rfl (st_goto (pc := 823) (by decide)) ?_
  exact h
theorem bb_209_198 {d : Nat} {M : sm_M} {Q : Option sm_V → sm_M → Prop} {r0 : Option Nat} {r1 : Option Nat} {r2 : Option Nat} {x3 : Int32} {y0 : Int32}
    (h : ∃ b_1, r0 = some b_1 ∧ sm_iA M b_1 ∧ sm_in_ M b_1 (x3 + 1) ∧ ∃ b_5, r2 = some b_5 ∧ sm_K M b_5 = 39 ∧ sm_Run d 153 0 (sm_ent 153 [.inr (some b_5), .inl (sm_I M b_1 (x3 + 1).toNatClampNeg)]) [] M (fun v M1 => sm_Run (d + 1) 209 207 [some (.inr (some b_1)), some (.inr r1), some (.inr (some b_5)), some (.inl x3)] (v.toList ++ [.inl y0]) M1 Q)) :
    sm_Run (d + 1) 209 198 [some (.inr r0), some (.inr r1), some (.inr r2), some (.inl x3)] [.inl y0] M Q := by
  refine ru_go (t := (199, [some (.inr r0), some (.inr r1), some (.inr r2), some (.inl x3)], [.inr r2, .inl y0], M)) sm_a209_198 rfl rfl rfl ?_
  refine ru_go (t := (200, [some (.inr r0), some (.inr r1), some (.inr r2), some (.inl x3)], [.inr r0, .inr r2, .inl y0], M)) sm_a209_199 rfl rfl rfl ?_
  refine ru_go (t := (201, [some (.inr r0), some (.inr r1), some (.inr r2), some (.inl x3)], [.inl x3, .inr r0, .inr r2, .inl y0], M)) sm_a209_200 rfl rfl rfl ?_
  refine ru_go (t := (202, [some (.inr r0), some (.inr r1), some (.inr r2), some (.inl x3)], [.inl 1, .inl x3, .inr r0, .inr r2, .inl y0], M)) sm_a209_201 rfl rfl (st_iconst (by decide)) ?_
  refine ru_go (t := (203, [some (.inr r0), some (.inr r1), some (.inr r2), some (.inl x3)], [.inl (x3 + 1), .inr r0, .inr r2, .inl y0], M)) sm_a209_202 rfl rfl rfl ?_
  obtain ⟨b_1, hb_2, h⟩ := h
  rw [hb_2]
  obtain ⟨h_3, h⟩ := h
  obtain ⟨h_4, h⟩ := h
  refine ru_go (t := (204, [some (.inr (some b_1)), some (.inr r1), some (.inr r2), some (.inl x3)], [.inl (sm_I M b_1 (x3 + 1).toNatClampNeg), .inr r2, .inl y0], M)) sm_a209_203 rfl rfl (st_iald h_3 h_4) ?_
  obtain ⟨b_5, hb_6, h⟩ := h
  rw [hb_6]
  obtain ⟨h_7, h⟩ := h
  exact ru_call (p := 207) sm_a209_204 rfl (sc_virt (Or.inl rfl) rfl rfl h_7 (Nat.le_of_ble_eq_true rfl)) rfl h
theorem bb_209_207 {d : Nat} {M : sm_M} {Q : Option sm_V → sm_M → Prop} {r0 : Option Nat} {r1 : Option Nat} {r2 : Option Nat} {x3 : Int32} {y0 : Int32} {y1 : Int32}
    (h : ((y1 = y0 → sm_Run (d + 1) 209 28 [some (.inr r0), some (.inr r1), some (.inr r2), some (.inl (x3 + 6))] [] M Q) ∧ (¬ (y1 = y0) → Q (some (.inl 0)) M))) :
    sm_Run (d + 1) 209 207 [some (.inr r0), some (.inr r1), some (.inr r2), some (.inl x3)] [.inl y0, .inl y1] M Q := by
  refine ru_icmp (pc := 207) (p := 820) (p2 := 210) sm_a209_207 (by decide) rfl ⟨fun hc_1 => ?_, fun hc_1 => ?_⟩
  · have h := h.1 hc_1
    refine ru_go (t := (823, [some (.inr r0), some (.inr r1), some (.inr r2), some (.inl (x3 + 6))], [], M)) sm_a209_820 rfl rfl (st_iinc rfl (by decide)) ?_
    refine ru_go (t := (28, [some (.inr r0), some (.inr r1), some (.inr r2), some (.inl (x3 + 6))], [], M)) sm_a209_823 rfl rfl (st_goto (pc := 823) (by decide)) ?_
    exact h
  · have h := h.2 hc_1
    refine ru_go (t := (211, [some (.inr r0), some (.inr r1), some (.inr r2), some (.inl x3)], [.inl 0], M)) sm_a209_210 rfl rfl (st_iconst (by decide)) ?_
    exact ru_ret sm_a209_211 (sm_rvz rfl (by decide)) h
theorem bb_209_236 {d : Nat} {M : sm_M} {Q : Option sm_V → sm_M → Prop} {r0 : Option Nat} {r1 : Option Nat} {r2 : Option Nat} {x3 : Int32} {y0 : Int32}
    (h : ∃ b_1, r0 = some b_1 ∧ sm_iA M b_1 ∧ sm_in_ M b_1 (x3 + 1) ∧ sm_in_ M b_1 (x3 + 2) ∧ sm_in_ M b_1 (x3 + 3) ∧ sm_in_ M b_1 (x3 + 4) ∧ ∃ b_8, r2 = some b_8 ∧ sm_K M b_8 = 39 ∧ sm_Run d 192 0 (sm_ent 192 [.inr (some b_8), .inl (sm_I M b_1 (x3 + 1).toNatClampNeg), .inl (sm_I M b_1 (x3 + 2).toNatClampNeg), .inl (sm_I M b_1 (x3 + 3).toNatClampNeg), .inl (sm_I M b_1 (x3 + 4).toNatClampNeg)]) [] M (fun v M1 => sm_Run (d + 1) 209 260 [some (.inr (some b_1)), some (.inr r1), some (.inr (some b_8)), some (.inl x3)] (v.toList ++ [.inl y0]) M1 Q)) :
    sm_Run (d + 1) 209 236 [some (.inr r0), some (.inr r1), some (.inr r2), some (.inl x3)] [.inl y0] M Q := by
  refine ru_go (t := (237, [some (.inr r0), some (.inr r1), some (.inr r2), some (.inl x3)], [.inr r2, .inl y0], M)) sm_a209_236 rfl rfl rfl ?_
  refine ru_go (t := (238, [some (.inr r0), some (.inr r1), some (.inr r2), some (.inl x3)], [.inr r0, .inr r2, .inl y0], M)) sm_a209_237 rfl rfl rfl ?_
  refine ru_go (t := (239, [some (.inr r0), some (.inr r1), some (.inr r2), some (.inl x3)], [.inl x3, .inr r0, .inr r2, .inl y0], M)) sm_a209_238 rfl rfl rfl ?_
  refine ru_go (t := (240, [some (.inr r0), some (.inr r1), some (.inr r2), some (.inl x3)], [.inl 1, .inl x3, .inr r0, .inr r2, .inl y0], M)) sm_a209_239 rfl rfl (st_iconst (by decide)) ?_
  refine ru_go (t := (241, [some (.inr r0), some (.inr r1), some (.inr r2), some (.inl x3)], [.inl (x3 + 1), .inr r0, .inr r2, .inl y0], M)) sm_a209_240 rfl rfl rfl ?_
  obtain ⟨b_1, hb_2, h⟩ := h
  rw [hb_2]
  obtain ⟨h_3, h⟩ := h
  obtain ⟨h_4, h⟩ := h
  refine ru_go (t := (242, [some (.inr (some b_1)), some (.inr r1), some (.inr r2), some (.inl x3)], [.inl (sm_I M b_1 (x3 + 1).toNatClampNeg), .inr r2, .inl y0], M)) sm_a209_241 rfl rfl (st_iald h_3 h_4) ?_
  refine ru_go (t := (243, [some (.inr (some b_1)), some (.inr r1), some (.inr r2), some (.inl x3)], [.inr (some b_1), .inl (sm_I M b_1 (x3 + 1).toNatClampNeg), .inr r2, .inl y0], M)) sm_a209_242 rfl rfl rfl ?_
  refine ru_go (t := (244, [some (.inr (some b_1)), some (.inr r1), some (.inr r2), some (.inl x3)], [.inl x3, .inr (some b_1), .inl (sm_I M b_1 (x3 + 1).toNatClampNeg), .inr r2, .inl y0], M)) sm_a209_243 rfl rfl rfl ?_
  refine ru_go (t := (245, [some (.inr (some b_1)), some (.inr r1), some (.inr r2), some (.inl x3)], [.inl 2, .inl x3, .inr (some b_1), .inl (sm_I M b_1 (x3 + 1).toNatClampNeg), .inr r2, .inl y0], M)) sm_a209_244 rfl rfl (st_iconst (by decide)) ?_
  refine ru_go (t := (246, [some (.inr (some b_1)), some (.inr r1), some (.inr r2), some (.inl x3)], [.inl (x3 + 2), .inr (some b_1), .inl (sm_I M b_1 (x3 + 1).toNatClampNeg), .inr r2, .inl y0], M)) sm_a209_245 rfl rfl rfl ?_
  obtain ⟨h_5, h⟩ := h
  refine ru_go (t := (247, [some (.inr (some b_1)), some (.inr r1), some (.inr r2), some (.inl x3)], [.inl (sm_I M b_1 (x3 + 2).toNatClampNeg), .inl (sm_I M b_1 (x3 + 1).toNatClampNeg), .inr r2, .inl y0], M)) sm_a209_246 rfl rfl (st_iald h_3 h_5) ?_
  refine ru_go (t := (248, [some (.inr (some b_1)), some (.inr r1), some (.inr r2), some (.inl x3)], [.inr (some b_1), .inl (sm_I M b_1 (x3 + 2).toNatClampNeg), .inl (sm_I M b_1 (x3 + 1).toNatClampNeg), .inr r2, .inl y0], M)) sm_a209_247 rfl rfl rfl ?_
  refine ru_go (t := (249, [some (.inr (some b_1)), some (.inr r1), some (.inr r2), some (.inl x3)], [.inl x3, .inr (some b_1), .inl (sm_I M b_1 (x3 + 2).toNatClampNeg), .inl (sm_I M b_1 (x3 + 1).toNatClampNeg), .inr r2, .inl y0], M)) sm_a209_248 rfl rfl rfl ?_
  refine ru_go (t := (250, [some (.inr (some b_1)), some (.inr r1), some (.inr r2), some (.inl x3)], [.inl 3, .inl x3, .inr (some b_1), .inl (sm_I M b_1 (x3 + 2).toNatClampNeg), .inl (sm_I M b_1 (x3 + 1).toNatClampNeg), .inr r2, .inl y0], M)) sm_a209_249 rfl rfl (st_iconst (by decide)) ?_
  refine ru_go (t := (251, [some (.inr (some b_1)), some (.inr r1), some (.inr r2), some (.inl x3)], [.inl (x3 + 3), .inr (some b_1), .inl (sm_I M b_1 (x3 + 2).toNatClampNeg), .inl (sm_I M b_1 (x3 + 1).toNatClampNeg), .inr r2, .inl y0], M)) sm_a209_250 rfl rfl rfl ?_
  obtain ⟨h_6, h⟩ := h
  refine ru_go (t := (252, [some (.inr (some b_1)), some (.inr r1), some (.inr r2), some (.inl x3)], [.inl (sm_I M b_1 (x3 + 3).toNatClampNeg), .inl (sm_I M b_1 (x3 + 2).toNatClampNeg), .inl (sm_I M b_1 (x3 + 1).toNatClampNeg), .inr r2, .inl y0], M)) sm_a209_251 rfl rfl (st_iald h_3 h_6) ?_
  refine ru_go (t := (253, [some (.inr (some b_1)), some (.inr r1), some (.inr r2), some (.inl x3)], [.inr (some b_1), .inl (sm_I M b_1 (x3 + 3).toNatClampNeg), .inl (sm_I M b_1 (x3 + 2).toNatClampNeg), .inl (sm_I M b_1 (x3 + 1).toNatClampNeg), .inr r2, .inl y0], M)) sm_a209_252 rfl rfl rfl ?_
  refine ru_go (t := (254, [some (.inr (some b_1)), some (.inr r1), some (.inr r2), some (.inl x3)], [.inl x3, .inr (some b_1), .inl (sm_I M b_1 (x3 + 3).toNatClampNeg), .inl (sm_I M b_1 (x3 + 2).toNatClampNeg), .inl (sm_I M b_1 (x3 + 1).toNatClampNeg), .inr r2, .inl y0], M)) sm_a209_253 rfl rfl rfl ?_
  refine ru_go (t := (255, [some (.inr (some b_1)), some (.inr r1), some (.inr r2), some (.inl x3)], [.inl 4, .inl x3, .inr (some b_1), .inl (sm_I M b_1 (x3 + 3).toNatClampNeg), .inl (sm_I M b_1 (x3 + 2).toNatClampNeg), .inl (sm_I M b_1 (x3 + 1).toNatClampNeg), .inr r2, .inl y0], M)) sm_a209_254 rfl rfl (st_iconst (by decide)) ?_
  refine ru_go (t := (256, [some (.inr (some b_1)), some (.inr r1), some (.inr r2), some (.inl x3)], [.inl (x3 + 4), .inr (some b_1), .inl (sm_I M b_1 (x3 + 3).toNatClampNeg), .inl (sm_I M b_1 (x3 + 2).toNatClampNeg), .inl (sm_I M b_1 (x3 + 1).toNatClampNeg), .inr r2, .inl y0], M)) sm_a209_255 rfl rfl rfl ?_
  obtain ⟨h_7, h⟩ := h
  refine ru_go (t := (257, [some (.inr (some b_1)), some (.inr r1), some (.inr r2), some (.inl x3)], [.inl (sm_I M b_1 (x3 + 4).toNatClampNeg), .inl (sm_I M b_1 (x3 + 3).toNatClampNeg), .inl (sm_I M b_1 (x3 + 2).toNatClampNeg), .inl (sm_I M b_1 (x3 + 1).toNatClampNeg), .inr r2, .inl y0], M)) sm_a209_256 rfl rfl (st_iald h_3 h_7) ?_
  obtain ⟨b_8, hb_9, h⟩ := h
  rw [hb_9]
  obtain ⟨h_10, h⟩ := h
  exact ru_call (p := 260) sm_a209_257 rfl (sc_virt (Or.inl rfl) rfl rfl h_10 (Nat.le_of_ble_eq_true rfl)) rfl h
theorem bb_209_260 {d : Nat} {M : sm_M} {Q : Option sm_V → sm_M → Prop} {r0 : Option Nat} {r1 : Option Nat} {r2 : Option Nat} {x3 : Int32} {y0 : Int32} {y1 : Int32}
    (h : ((y1 = y0 → sm_Run (d + 1) 209 28 [some (.inr r0), some (.inr r1), some (.inr r2), some (.inl (x3 + 6))] [] M Q) ∧ (¬ (y1 = y0) → Q (some (.inl 0)) M))) :
    sm_Run (d + 1) 209 260 [some (.inr r0), some (.inr r1), some (.inr r2), some (.inl x3)] [.inl y0, .inl y1] M Q := by
  refine ru_icmp (pc := 260) (p := 820) (p2 := 263) sm_a209_260 (by decide) rfl ⟨fun hc_1 => ?_, fun hc_1 => ?_⟩
  · have h := h.1 hc_1
    refine ru_go (t := (823, [some (.inr r0), some (.inr r1), some (.inr r2), some (.inl (x3 + 6))], [], M)) sm_a209_820 rfl rfl (st_iinc rfl (by decide)) ?_
    refine ru_go (t := (28, [some (.inr r0), some (.inr r1), some (.inr r2), some (.inl (x3 + 6))], [], M)) sm_a209_823 rfl rfl (st_goto (pc := 823) (by decide)) ?_
    exact h
  · have h := h.2 hc_1
    refine ru_go (t := (264, [some (.inr r0), some (.inr r1), some (.inr r2), some (.inl x3)], [.inl 0], M)) sm_a209_263 rfl rfl (st_iconst (by decide)) ?_
    exact ru_ret sm_a209_264 (sm_rvz rfl (by decide)) h
theorem bb_209_289 {d : Nat} {M : sm_M} {Q : Option sm_V → sm_M → Prop} {r0 : Option Nat} {r1 : Option Nat} {r2 : Option Nat} {x3 : Int32} {y0 : Int32}
    (h : ∃ b_1, r0 = some b_1 ∧ sm_iA M b_1 ∧ sm_in_ M b_1 (x3 + 1) ∧ sm_in_ M b_1 (x3 + 2) ∧ sm_in_ M b_1 (x3 + 3) ∧ sm_in_ M b_1 (x3 + 4) ∧ ∃ b_8, r2 = some b_8 ∧ sm_K M b_8 = 39 ∧ sm_Run d 193 0 (sm_ent 193 [.inr (some b_8), .inl (sm_I M b_1 (x3 + 1).toNatClampNeg), .inl (sm_I M b_1 (x3 + 2).toNatClampNeg), .inl (sm_I M b_1 (x3 + 3).toNatClampNeg), .inl (sm_I M b_1 (x3 + 4).toNatClampNeg)]) [] M (fun v M1 => sm_Run (d + 1) 209 313 [some (.inr (some b_1)), some (.inr r1), some (.inr (some b_8)), some (.inl x3)] (v.toList ++ [.inl y0]) M1 Q)) :
    sm_Run (d + 1) 209 289 [some (.inr r0), some (.inr r1), some (.inr r2), some (.inl x3)] [.inl y0] M Q := by
  refine ru_go (t := (290, [some (.inr r0), some (.inr r1), some (.inr r2), some (.inl x3)], [.inr r2, .inl y0], M)) sm_a209_289 rfl rfl rfl ?_
  refine ru_go (t := (291, [some (.inr r0), some (.inr r1), some (.inr r2), some (.inl x3)], [.inr r0, .inr r2, .inl y0], M)) sm_a209_290 rfl rfl rfl ?_
  refine ru_go (t := (292, [some (.inr r0), some (.inr r1), some (.inr r2), some (.inl x3)], [.inl x3, .inr r0, .inr r2, .inl y0], M)) sm_a209_291 rfl rfl rfl ?_
  refine ru_go (t := (293, [some (.inr r0), some (.inr r1), some (.inr r2), some (.inl x3)], [.inl 1, .inl x3, .inr r0, .inr r2, .inl y0], M)) sm_a209_292 rfl rfl (st_iconst (by decide)) ?_
  refine ru_go (t := (294, [some (.inr r0), some (.inr r1), some (.inr r2), some (.inl x3)], [.inl (x3 + 1), .inr r0, .inr r2, .inl y0], M)) sm_a209_293 rfl rfl rfl ?_
  obtain ⟨b_1, hb_2, h⟩ := h
  rw [hb_2]
  obtain ⟨h_3, h⟩ := h
  obtain ⟨h_4, h⟩ := h
  refine ru_go (t := (295, [some (.inr (some b_1)), some (.inr r1), some (.inr r2), some (.inl x3)], [.inl (sm_I M b_1 (x3 + 1).toNatClampNeg), .inr r2, .inl y0], M)) sm_a209_294 rfl rfl (st_iald h_3 h_4) ?_
  refine ru_go (t := (296, [some (.inr (some b_1)), some (.inr r1), some (.inr r2), some (.inl x3)], [.inr (some b_1), .inl (sm_I M b_1 (x3 + 1).toNatClampNeg), .inr r2, .inl y0], M)) sm_a209_295 rfl rfl rfl ?_
  refine ru_go (t := (297, [some (.inr (some b_1)), some (.inr r1), some (.inr r2), some (.inl x3)], [.inl x3, .inr (some b_1), .inl (sm_I M b_1 (x3 + 1).toNatClampNeg), .inr r2, .inl y0], M)) sm_a209_296 rfl rfl rfl ?_
  refine ru_go (t := (298, [some (.inr (some b_1)), some (.inr r1), some (.inr r2), some (.inl x3)], [.inl 2, .inl x3, .inr (some b_1), .inl (sm_I M b_1 (x3 + 1).toNatClampNeg), .inr r2, .inl y0], M)) sm_a209_297 rfl rfl (st_iconst (by decide)) ?_
  refine ru_go (t := (299, [some (.inr (some b_1)), some (.inr r1), some (.inr r2), some (.inl x3)], [.inl (x3 + 2), .inr (some b_1), .inl (sm_I M b_1 (x3 + 1).toNatClampNeg), .inr r2, .inl y0], M)) sm_a209_298 rfl rfl rfl ?_
  obtain ⟨h_5, h⟩ := h
  refine ru_go (t := (300, [some (.inr (some b_1)), some (.inr r1), some (.inr r2), some (.inl x3)], [.inl (sm_I M b_1 (x3 + 2).toNatClampNeg), .inl (sm_I M b_1 (x3 + 1).toNatClampNeg), .inr r2, .inl y0], M)) sm_a209_299 rfl rfl (st_iald h_3 h_5) ?_
  refine ru_go (t := (301, [some (.inr (some b_1)), some (.inr r1), some (.inr r2), some (.inl x3)], [.inr (some b_1), .inl (sm_I M b_1 (x3 + 2).toNatClampNeg), .inl (sm_I M b_1 (x3 + 1).toNatClampNeg), .inr r2, .inl y0], M)) sm_a209_300 rfl rfl rfl ?_
  refine ru_go (t := (302, [some (.inr (some b_1)), some (.inr r1), some (.inr r2), some (.inl x3)], [.inl x3, .inr (some b_1), .inl (sm_I M b_1 (x3 + 2).toNatClampNeg), .inl (sm_I M b_1 (x3 + 1).toNatClampNeg), .inr r2, .inl y0], M)) sm_a209_301 rfl rfl rfl ?_
  refine ru_go (t := (303, [some (.inr (some b_1)), some (.inr r1), some (.inr r2), some (.inl x3)], [.inl 3, .inl x3, .inr (some b_1), .inl (sm_I M b_1 (x3 + 2).toNatClampNeg), .inl (sm_I M b_1 (x3 + 1).toNatClampNeg), .inr r2, .inl y0], M)) sm_a209_302 rfl rfl (st_iconst (by decide)) ?_
  refine ru_go (t := (304, [some (.inr (some b_1)), some (.inr r1), some (.inr r2), some (.inl x3)], [.inl (x3 + 3), .inr (some b_1), .inl (sm_I M b_1 (x3 + 2).toNatClampNeg), .inl (sm_I M b_1 (x3 + 1).toNatClampNeg), .inr r2, .inl y0], M)) sm_a209_303 rfl rfl rfl ?_
  obtain ⟨h_6, h⟩ := h
  refine ru_go (t := (305, [some (.inr (some b_1)), some (.inr r1), some (.inr r2), some (.inl x3)], [.inl (sm_I M b_1 (x3 + 3).toNatClampNeg), .inl (sm_I M b_1 (x3 + 2).toNatClampNeg), .inl (sm_I M b_1 (x3 + 1).toNatClampNeg), .inr r2, .inl y0], M)) sm_a209_304 rfl rfl (st_iald h_3 h_6) ?_
  refine ru_go (t := (306, [some (.inr (some b_1)), some (.inr r1), some (.inr r2), some (.inl x3)], [.inr (some b_1), .inl (sm_I M b_1 (x3 + 3).toNatClampNeg), .inl (sm_I M b_1 (x3 + 2).toNatClampNeg), .inl (sm_I M b_1 (x3 + 1).toNatClampNeg), .inr r2, .inl y0], M)) sm_a209_305 rfl rfl rfl ?_
  refine ru_go (t := (307, [some (.inr (some b_1)), some (.inr r1), some (.inr r2), some (.inl x3)], [.inl x3, .inr (some b_1), .inl (sm_I M b_1 (x3 + 3).toNatClampNeg), .inl (sm_I M b_1 (x3 + 2).toNatClampNeg), .inl (sm_I M b_1 (x3 + 1).toNatClampNeg), .inr r2, .inl y0], M)) sm_a209_306 rfl rfl rfl ?_
  refine ru_go (t := (308, [some (.inr (some b_1)), some (.inr r1), some (.inr r2), some (.inl x3)], [.inl 4, .inl x3, .inr (some b_1), .inl (sm_I M b_1 (x3 + 3).toNatClampNeg), .inl (sm_I M b_1 (x3 + 2).toNatClampNeg), .inl (sm_I M b_1 (x3 + 1).toNatClampNeg), .inr r2, .inl y0], M)) sm_a209_307 rfl rfl (st_iconst (by decide)) ?_
  refine ru_go (t := (309, [some (.inr (some b_1)), some (.inr r1), some (.inr r2), some (.inl x3)], [.inl (x3 + 4), .inr (some b_1), .inl (sm_I M b_1 (x3 + 3).toNatClampNeg), .inl (sm_I M b_1 (x3 + 2).toNatClampNeg), .inl (sm_I M b_1 (x3 + 1).toNatClampNeg), .inr r2, .inl y0], M)) sm_a209_308 rfl rfl rfl ?_
  obtain ⟨h_7, h⟩ := h
  refine ru_go (t := (310, [some (.inr (some b_1)), some (.inr r1), some (.inr r2), some (.inl x3)], [.inl (sm_I M b_1 (x3 + 4).toNatClampNeg), .inl (sm_I M b_1 (x3 + 3).toNatClampNeg), .inl (sm_I M b_1 (x3 + 2).toNatClampNeg), .inl (sm_I M b_1 (x3 + 1).toNatClampNeg), .inr r2, .inl y0], M)) sm_a209_309 rfl rfl (st_iald h_3 h_7) ?_
  obtain ⟨b_8, hb_9, h⟩ := h
  rw [hb_9]
  obtain ⟨h_10, h⟩ := h
  exact ru_call (p := 313) sm_a209_310 rfl (sc_virt (Or.inl rfl) rfl rfl h_10 (Nat.le_of_ble_eq_true rfl)) rfl h
theorem bb_209_313 {d : Nat} {M : sm_M} {Q : Option sm_V → sm_M → Prop} {r0 : Option Nat} {r1 : Option Nat} {r2 : Option Nat} {x3 : Int32} {y0 : Int32} {y1 : Int32}
    (h : ((y1 = y0 → sm_Run (d + 1) 209 28 [some (.inr r0), some (.inr r1), some (.inr r2), some (.inl (x3 + 6))] [] M Q) ∧ (¬ (y1 = y0) → Q (some (.inl 0)) M))) :
    sm_Run (d + 1) 209 313 [some (.inr r0), some (.inr r1), some (.inr r2), some (.inl x3)] [.inl y0, .inl y1] M Q := by
  refine ru_icmp (pc := 313) (p := 820) (p2 := 316) sm_a209_313 (by decide) rfl ⟨fun hc_1 => ?_, fun hc_1 => ?_⟩
  · have h := h.1 hc_1
    refine ru_go (t := (823, [some (.inr r0), some (.inr r1), some (.inr r2), some (.inl (x3 + 6))], [], M)) sm_a209_820 rfl rfl (st_iinc rfl (by decide)) ?_
    refine ru_go (t := (28, [some (.inr r0), some (.inr r1), some (.inr r2), some (.inl (x3 + 6))], [], M)) sm_a209_823 rfl rfl (st_goto (pc := 823) (by decide)) ?_
    exact h
  · have h := h.2 hc_1
    refine ru_go (t := (317, [some (.inr r0), some (.inr r1), some (.inr r2), some (.inl x3)], [.inl 0], M)) sm_a209_316 rfl rfl (st_iconst (by decide)) ?_
    exact ru_ret sm_a209_317 (sm_rvz rfl (by decide)) h
theorem bb_209_327 {d : Nat} {M : sm_M} {Q : Option sm_V → sm_M → Prop} {r0 : Option Nat} {r1 : Option Nat} {r2 : Option Nat} {x3 : Int32} {y0 : Int32}
    (h : ∃ b_1, r0 = some b_1 ∧ sm_iA M b_1 ∧ sm_in_ M b_1 (x3 + 1) ∧ ∃ b_5, r2 = some b_5 ∧ sm_K M b_5 = 39 ∧ sm_Run d 194 0 (sm_ent 194 [.inr (some b_5), .inl (sm_I M b_1 (x3 + 1).toNatClampNeg)]) [] M (fun v M1 => sm_Run (d + 1) 209 336 [some (.inr (some b_1)), some (.inr r1), some (.inr (some b_5)), some (.inl x3)] (v.toList ++ [.inl y0]) M1 Q)) :
    sm_Run (d + 1) 209 327 [some (.inr r0), some (.inr r1), some (.inr r2), some (.inl x3)] [.inl y0] M Q := by
  refine ru_go (t := (328, [some (.inr r0), some (.inr r1), some (.inr r2), some (.inl x3)], [.inr r2, .inl y0], M)) sm_a209_327 rfl rfl rfl ?_
  refine ru_go (t := (329, [some (.inr r0), some (.inr r1), some (.inr r2), some (.inl x3)], [.inr r0, .inr r2, .inl y0], M)) sm_a209_328 rfl rfl rfl ?_
  refine ru_go (t := (330, [some (.inr r0), some (.inr r1), some (.inr r2), some (.inl x3)], [.inl x3, .inr r0, .inr r2, .inl y0], M)) sm_a209_329 rfl rfl rfl ?_
  refine ru_go (t := (331, [some (.inr r0), some (.inr r1), some (.inr r2), some (.inl x3)], [.inl 1, .inl x3, .inr r0, .inr r2, .inl y0], M)) sm_a209_330 rfl rfl (st_iconst (by decide)) ?_
  refine ru_go (t := (332, [some (.inr r0), some (.inr r1), some (.inr r2), some (.inl x3)], [.inl (x3 + 1), .inr r0, .inr r2, .inl y0], M)) sm_a209_331 rfl rfl rfl ?_
  obtain ⟨b_1, hb_2, h⟩ := h
  rw [hb_2]
  obtain ⟨h_3, h⟩ := h
  obtain ⟨h_4, h⟩ := h
  refine ru_go (t := (333, [some (.inr (some b_1)), some (.inr r1), some (.inr r2), some (.inl x3)], [.inl (sm_I M b_1 (x3 + 1).toNatClampNeg), .inr r2, .inl y0], M)) sm_a209_332 rfl rfl (st_iald h_3 h_4) ?_
  obtain ⟨b_5, hb_6, h⟩ := h
  rw [hb_6]
  obtain ⟨h_7, h⟩ := h
  exact ru_call (p := 336) sm_a209_333 rfl (sc_virt (Or.inl rfl) rfl rfl h_7 (Nat.le_of_ble_eq_true rfl)) rfl h
theorem bb_209_336 {d : Nat} {M : sm_M} {Q : Option sm_V → sm_M → Prop} {r0 : Option Nat} {r1 : Option Nat} {r2 : Option Nat} {x3 : Int32} {y0 : Int32} {y1 : Int32}
    (h : ((y1 = y0 → sm_Run (d + 1) 209 28 [some (.inr r0), some (.inr r1), some (.inr r2), some (.inl (x3 + 6))] [] M Q) ∧ (¬ (y1 = y0) → Q (some (.inl 0)) M))) :
    sm_Run (d + 1) 209 336 [some (.inr r0), some (.inr r1), some (.inr r2), some (.inl x3)] [.inl y0, .inl y1] M Q := by
  refine ru_icmp (pc := 336) (p := 820) (p2 := 339) sm_a209_336 (by decide) rfl ⟨fun hc_1 => ?_, fun hc_1 => ?_⟩
  · have h := h.1 hc_1
    refine ru_go (t := (823, [some (.inr r0), some (.inr r1), some (.inr r2), some (.inl (x3 + 6))], [], M)) sm_a209_820 rfl rfl (st_iinc rfl (by decide)) ?_
    refine ru_go (t := (28, [some (.inr r0), some (.inr r1), some (.inr r2), some (.inl (x3 + 6))], [], M)) sm_a209_823 rfl rfl (st_goto (pc := 823) (by decide)) ?_
    exact h
  · have h := h.2 hc_1
    refine ru_go (t := (340, [some (.inr r0), some (.inr r1), some (.inr r2), some (.inl x3)], [.inl 0], M)) sm_a209_339 rfl rfl (st_iconst (by decide)) ?_
    exact ru_ret sm_a209_340 (sm_rvz rfl (by decide)) h
theorem bb_209_350 {d : Nat} {M : sm_M} {Q : Option sm_V → sm_M → Prop} {r0 : Option Nat} {r1 : Option Nat} {r2 : Option Nat} {x3 : Int32} {y0 : Int32}
    (h : ∃ b_1, r0 = some b_1 ∧ sm_iA M b_1 ∧ sm_in_ M b_1 (x3 + 1) ∧ ∃ b_5, r2 = some b_5 ∧ sm_K M b_5 = 39 ∧ sm_Run d 195 0 (sm_ent 195 [.inr (some b_5), .inl (sm_I M b_1 (x3 + 1).toNatClampNeg)]) [] M (fun v M1 => sm_Run (d + 1) 209 359 [some (.inr (some b_1)), some (.inr r1), some (.inr (some b_5)), some (.inl x3)] (v.toList ++ [.inl y0]) M1 Q)) :
    sm_Run (d + 1) 209 350 [some (.inr r0), some (.inr r1), some (.inr r2), some (.inl x3)] [.inl y0] M Q := by
  refine ru_go (t := (351, [some (.inr r0), some (.inr r1), some (.inr r2), some (.inl x3)], [.inr r2, .inl y0], M)) sm_a209_350 rfl rfl rfl ?_
  refine ru_go (t := (352, [some (.inr r0), some (.inr r1), some (.inr r2), some (.inl x3)], [.inr r0, .inr r2, .inl y0], M)) sm_a209_351 rfl rfl rfl ?_
  refine ru_go (t := (353, [some (.inr r0), some (.inr r1), some (.inr r2), some (.inl x3)], [.inl x3, .inr r0, .inr r2, .inl y0], M)) sm_a209_352 rfl rfl rfl ?_
  refine ru_go (t := (354, [some (.inr r0), some (.inr r1), some (.inr r2), some (.inl x3)], [.inl 1, .inl x3, .inr r0, .inr r2, .inl y0], M)) sm_a209_353 rfl rfl (st_iconst (by decide)) ?_
  refine ru_go (t := (355, [some (.inr r0), some (.inr r1), some (.inr r2), some (.inl x3)], [.inl (x3 + 1), .inr r0, .inr r2, .inl y0], M)) sm_a209_354 rfl rfl rfl ?_
  obtain ⟨b_1, hb_2, h⟩ := h
  rw [hb_2]
  obtain ⟨h_3, h⟩ := h
  obtain ⟨h_4, h⟩ := h
  refine ru_go (t := (356, [some (.inr (some b_1)), some (.inr r1), some (.inr r2), some (.inl x3)], [.inl (sm_I M b_1 (x3 + 1).toNatClampNeg), .inr r2, .inl y0], M)) sm_a209_355 rfl rfl (st_iald h_3 h_4) ?_
  obtain ⟨b_5, hb_6, h⟩ := h
  rw [hb_6]
  obtain ⟨h_7, h⟩ := h
  exact ru_call (p := 359) sm_a209_356 rfl (sc_virt (Or.inl rfl) rfl rfl h_7 (Nat.le_of_ble_eq_true rfl)) rfl h
theorem bb_209_359 {d : Nat} {M : sm_M} {Q : Option sm_V → sm_M → Prop} {r0 : Option Nat} {r1 : Option Nat} {r2 : Option Nat} {x3 : Int32} {y0 : Int32} {y1 : Int32}
    (h : ((y1 = y0 → sm_Run (d + 1) 209 28 [some (.inr r0), some (.inr r1), some (.inr r2), some (.inl (x3 + 6))] [] M Q) ∧ (¬ (y1 = y0) → Q (some (.inl 0)) M))) :
    sm_Run (d + 1) 209 359 [some (.inr r0), some (.inr r1), some (.inr r2), some (.inl x3)] [.inl y0, .inl y1] M Q := by
  refine ru_icmp (pc := 359) (p := 820) (p2 := 362) sm_a209_359 (by decide) rfl ⟨fun hc_1 => ?_, fun hc_1 => ?_⟩
  · have h := h.1 hc_1
    refine ru_go (t := (823, [some (.inr r0), some (.inr r1), some (.inr r2), some (.inl (x3 + 6))], [], M)) sm_a209_820 rfl rfl (st_iinc rfl (by decide)) ?_
    refine ru_go (t := (28, [some (.inr r0), some (.inr r1), some (.inr r2), some (.inl (x3 + 6))], [], M)) sm_a209_823 rfl rfl (st_goto (pc := 823) (by decide)) ?_
    exact h
  · have h := h.2 hc_1
    refine ru_go (t := (363, [some (.inr r0), some (.inr r1), some (.inr r2), some (.inl x3)], [.inl 0], M)) sm_a209_362 rfl rfl (st_iconst (by decide)) ?_
    exact ru_ret sm_a209_363 (sm_rvz rfl (by decide)) h
theorem bb_209_383 {d : Nat} {M : sm_M} {Q : Option sm_V → sm_M → Prop} {r0 : Option Nat} {r1 : Option Nat} {r2 : Option Nat} {x3 : Int32} {y0 : Int32}
    (h : ∃ b_1, r0 = some b_1 ∧ sm_iA M b_1 ∧ sm_in_ M b_1 (x3 + 1) ∧ sm_in_ M b_1 (x3 + 2) ∧ sm_in_ M b_1 (x3 + 3) ∧ ∃ b_7, r2 = some b_7 ∧ sm_K M b_7 = 39 ∧ sm_Run d 196 0 (sm_ent 196 [.inr (some b_7), .inl (sm_I M b_1 (x3 + 1).toNatClampNeg), .inl (sm_I M b_1 (x3 + 2).toNatClampNeg), .inl (sm_I M b_1 (x3 + 3).toNatClampNeg)]) [] M (fun v M1 => sm_Run (d + 1) 209 402 [some (.inr (some b_1)), some (.inr r1), some (.inr (some b_7)), some (.inl x3)] (v.toList ++ [.inl y0]) M1 Q)) :
    sm_Run (d + 1) 209 383 [some (.inr r0), some (.inr r1), some (.inr r2), some (.inl x3)] [.inl y0] M Q := by
  refine ru_go (t := (384, [some (.inr r0), some (.inr r1), some (.inr r2), some (.inl x3)], [.inr r2, .inl y0], M)) sm_a209_383 rfl rfl rfl ?_
  refine ru_go (t := (385, [some (.inr r0), some (.inr r1), some (.inr r2), some (.inl x3)], [.inr r0, .inr r2, .inl y0], M)) sm_a209_384 rfl rfl rfl ?_
  refine ru_go (t := (386, [some (.inr r0), some (.inr r1), some (.inr r2), some (.inl x3)], [.inl x3, .inr r0, .inr r2, .inl y0], M)) sm_a209_385 rfl rfl rfl ?_
  refine ru_go (t := (387, [some (.inr r0), some (.inr r1), some (.inr r2), some (.inl x3)], [.inl 1, .inl x3, .inr r0, .inr r2, .inl y0], M)) sm_a209_386 rfl rfl (st_iconst (by decide)) ?_
  refine ru_go (t := (388, [some (.inr r0), some (.inr r1), some (.inr r2), some (.inl x3)], [.inl (x3 + 1), .inr r0, .inr r2, .inl y0], M)) sm_a209_387 rfl rfl rfl ?_
  obtain ⟨b_1, hb_2, h⟩ := h
  rw [hb_2]
  obtain ⟨h_3, h⟩ := h
  obtain ⟨h_4, h⟩ := h
  refine ru_go (t := (389, [some (.inr (some b_1)), some (.inr r1), some (.inr r2), some (.inl x3)], [.inl (sm_I M b_1 (x3 + 1).toNatClampNeg), .inr r2, .inl y0], M)) sm_a209_388 rfl rfl (st_iald h_3 h_4) ?_
  refine ru_go (t := (390, [some (.inr (some b_1)), some (.inr r1), some (.inr r2), some (.inl x3)], [.inr (some b_1), .inl (sm_I M b_1 (x3 + 1).toNatClampNeg), .inr r2, .inl y0], M)) sm_a209_389 rfl rfl rfl ?_
  refine ru_go (t := (391, [some (.inr (some b_1)), some (.inr r1), some (.inr r2), some (.inl x3)], [.inl x3, .inr (some b_1), .inl (sm_I M b_1 (x3 + 1).toNatClampNeg), .inr r2, .inl y0], M)) sm_a209_390 rfl rfl rfl ?_
  refine ru_go (t := (392, [some (.inr (some b_1)), some (.inr r1), some (.inr r2), some (.inl x3)], [.inl 2, .inl x3, .inr (some b_1), .inl (sm_I M b_1 (x3 + 1).toNatClampNeg), .inr r2, .inl y0], M)) sm_a209_391 rfl rfl (st_iconst (by decide)) ?_
  refine ru_go (t := (393, [some (.inr (some b_1)), some (.inr r1), some (.inr r2), some (.inl x3)], [.inl (x3 + 2), .inr (some b_1), .inl (sm_I M b_1 (x3 + 1).toNatClampNeg), .inr r2, .inl y0], M)) sm_a209_392 rfl rfl rfl ?_
  obtain ⟨h_5, h⟩ := h
  refine ru_go (t := (394, [some (.inr (some b_1)), some (.inr r1), some (.inr r2), some (.inl x3)], [.inl (sm_I M b_1 (x3 + 2).toNatClampNeg), .inl (sm_I M b_1 (x3 + 1).toNatClampNeg), .inr r2, .inl y0], M)) sm_a209_393 rfl rfl (st_iald h_3 h_5) ?_
  refine ru_go (t := (395, [some (.inr (some b_1)), some (.inr r1), some (.inr r2), some (.inl x3)], [.inr (some b_1), .inl (sm_I M b_1 (x3 + 2).toNatClampNeg), .inl (sm_I M b_1 (x3 + 1).toNatClampNeg), .inr r2, .inl y0], M)) sm_a209_394 rfl rfl rfl ?_
  refine ru_go (t := (396, [some (.inr (some b_1)), some (.inr r1), some (.inr r2), some (.inl x3)], [.inl x3, .inr (some b_1), .inl (sm_I M b_1 (x3 + 2).toNatClampNeg), .inl (sm_I M b_1 (x3 + 1).toNatClampNeg), .inr r2, .inl y0], M)) sm_a209_395 rfl rfl rfl ?_
  refine ru_go (t := (397, [some (.inr (some b_1)), some (.inr r1), some (.inr r2), some (.inl x3)], [.inl 3, .inl x3, .inr (some b_1), .inl (sm_I M b_1 (x3 + 2).toNatClampNeg), .inl (sm_I M b_1 (x3 + 1).toNatClampNeg), .inr r2, .inl y0], M)) sm_a209_396 rfl rfl (st_iconst (by decide)) ?_
  refine ru_go (t := (398, [some (.inr (some b_1)), some (.inr r1), some (.inr r2), some (.inl x3)], [.inl (x3 + 3), .inr (some b_1), .inl (sm_I M b_1 (x3 + 2).toNatClampNeg), .inl (sm_I M b_1 (x3 + 1).toNatClampNeg), .inr r2, .inl y0], M)) sm_a209_397 rfl rfl rfl ?_
  obtain ⟨h_6, h⟩ := h
  refine ru_go (t := (399, [some (.inr (some b_1)), some (.inr r1), some (.inr r2), some (.inl x3)], [.inl (sm_I M b_1 (x3 + 3).toNatClampNeg), .inl (sm_I M b_1 (x3 + 2).toNatClampNeg), .inl (sm_I M b_1 (x3 + 1).toNatClampNeg), .inr r2, .inl y0], M)) sm_a209_398 rfl rfl (st_iald h_3 h_6) ?_
  obtain ⟨b_7, hb_8, h⟩ := h
  rw [hb_8]
  obtain ⟨h_9, h⟩ := h
  exact ru_call (p := 402) sm_a209_399 rfl (sc_virt (Or.inl rfl) rfl rfl h_9 (Nat.le_of_ble_eq_true rfl)) rfl h
theorem bb_209_402 {d : Nat} {M : sm_M} {Q : Option sm_V → sm_M → Prop} {r0 : Option Nat} {r1 : Option Nat} {r2 : Option Nat} {x3 : Int32} {y0 : Int32} {y1 : Int32}
    (h : ((y1 = y0 → sm_Run (d + 1) 209 28 [some (.inr r0), some (.inr r1), some (.inr r2), some (.inl (x3 + 6))] [] M Q) ∧ (¬ (y1 = y0) → Q (some (.inl 0)) M))) :
    sm_Run (d + 1) 209 402 [some (.inr r0), some (.inr r1), some (.inr r2), some (.inl x3)] [.inl y0, .inl y1] M Q := by
  refine ru_icmp (pc := 402) (p := 820) (p2 := 405) sm_a209_402 (by decide) rfl ⟨fun hc_1 => ?_, fun hc_1 => ?_⟩
  · have h := h.1 hc_1
    refine ru_go (t := (823, [some (.inr r0), some (.inr r1), some (.inr r2), some (.inl (x3 + 6))], [], M)) sm_a209_820 rfl rfl (st_iinc rfl (by decide)) ?_
    refine ru_go (t := (28, [some (.inr r0), some (.inr r1), some (.inr r2), some (.inl (x3 + 6))], [], M)) sm_a209_823 rfl rfl (st_goto (pc := 823) (by decide)) ?_
    exact h
  · have h := h.2 hc_1
    refine ru_go (t := (406, [some (.inr r0), some (.inr r1), some (.inr r2), some (.inl x3)], [.inl 0], M)) sm_a209_405 rfl rfl (st_iconst (by decide)) ?_
    exact ru_ret sm_a209_406 (sm_rvz rfl (by decide)) h
theorem bb_209_426 {d : Nat} {M : sm_M} {Q : Option sm_V → sm_M → Prop} {r0 : Option Nat} {r1 : Option Nat} {r2 : Option Nat} {x3 : Int32} {y0 : Int32}
    (h : ∃ b_1, r0 = some b_1 ∧ sm_iA M b_1 ∧ sm_in_ M b_1 (x3 + 1) ∧ sm_in_ M b_1 (x3 + 2) ∧ sm_in_ M b_1 (x3 + 3) ∧ ∃ b_7, r2 = some b_7 ∧ sm_K M b_7 = 39 ∧ sm_Run d 197 0 (sm_ent 197 [.inr (some b_7), .inl (sm_I M b_1 (x3 + 1).toNatClampNeg), .inl (sm_I M b_1 (x3 + 2).toNatClampNeg), .inl (sm_I M b_1 (x3 + 3).toNatClampNeg)]) [] M (fun v M1 => sm_Run (d + 1) 209 445 [some (.inr (some b_1)), some (.inr r1), some (.inr (some b_7)), some (.inl x3)] (v.toList ++ [.inl y0]) M1 Q)) :
    sm_Run (d + 1) 209 426 [some (.inr r0), some (.inr r1), some (.inr r2), some (.inl x3)] [.inl y0] M Q := by
  refine ru_go (t := (427, [some (.inr r0), some (.inr r1), some (.inr r2), some (.inl x3)], [.inr r2, .inl y0], M)) sm_a209_426 rfl rfl rfl ?_
  refine ru_go (t := (428, [some (.inr r0), some (.inr r1), some (.inr r2), some (.inl x3)], [.inr r0, .inr r2, .inl y0], M)) sm_a209_427 rfl rfl rfl ?_
  refine ru_go (t := (429, [some (.inr r0), some (.inr r1), some (.inr r2), some (.inl x3)], [.inl x3, .inr r0, .inr r2, .inl y0], M)) sm_a209_428 rfl rfl rfl ?_
  refine ru_go (t := (430, [some (.inr r0), some (.inr r1), some (.inr r2), some (.inl x3)], [.inl 1, .inl x3, .inr r0, .inr r2, .inl y0], M)) sm_a209_429 rfl rfl (st_iconst (by decide)) ?_
  refine ru_go (t := (431, [some (.inr r0), some (.inr r1), some (.inr r2), some (.inl x3)], [.inl (x3 + 1), .inr r0, .inr r2, .inl y0], M)) sm_a209_430 rfl rfl rfl ?_
  obtain ⟨b_1, hb_2, h⟩ := h
  rw [hb_2]
  obtain ⟨h_3, h⟩ := h
  obtain ⟨h_4, h⟩ := h
  refine ru_go (t := (432, [some (.inr (some b_1)), some (.inr r1), some (.inr r2), some (.inl x3)], [.inl (sm_I M b_1 (x3 + 1).toNatClampNeg), .inr r2, .inl y0], M)) sm_a209_431 rfl rfl (st_iald h_3 h_4) ?_
  refine ru_go (t := (433, [some (.inr (some b_1)), some (.inr r1), some (.inr r2), some (.inl x3)], [.inr (some b_1), .inl (sm_I M b_1 (x3 + 1).toNatClampNeg), .inr r2, .inl y0], M)) sm_a209_432 rfl rfl rfl ?_
  refine ru_go (t := (434, [some (.inr (some b_1)), some (.inr r1), some (.inr r2), some (.inl x3)], [.inl x3, .inr (some b_1), .inl (sm_I M b_1 (x3 + 1).toNatClampNeg), .inr r2, .inl y0], M)) sm_a209_433 rfl rfl rfl ?_
  refine ru_go (t := (435, [some (.inr (some b_1)), some (.inr r1), some (.inr r2), some (.inl x3)], [.inl 2, .inl x3, .inr (some b_1), .inl (sm_I M b_1 (x3 + 1).toNatClampNeg), .inr r2, .inl y0], M)) sm_a209_434 rfl rfl (st_iconst (by decide)) ?_
  refine ru_go (t := (436, [some (.inr (some b_1)), some (.inr r1), some (.inr r2), some (.inl x3)], [.inl (x3 + 2), .inr (some b_1), .inl (sm_I M b_1 (x3 + 1).toNatClampNeg), .inr r2, .inl y0], M)) sm_a209_435 rfl rfl rfl ?_
  obtain ⟨h_5, h⟩ := h
  refine ru_go (t := (437, [some (.inr (some b_1)), some (.inr r1), some (.inr r2), some (.inl x3)], [.inl (sm_I M b_1 (x3 + 2).toNatClampNeg), .inl (sm_I M b_1 (x3 + 1).toNatClampNeg), .inr r2, .inl y0], M)) sm_a209_436 rfl rfl (st_iald h_3 h_5) ?_
  refine ru_go (t := (438, [some (.inr (some b_1)), some (.inr r1), some (.inr r2), some (.inl x3)], [.inr (some b_1), .inl (sm_I M b_1 (x3 + 2).toNatClampNeg), .inl (sm_I M b_1 (x3 + 1).toNatClampNeg), .inr r2, .inl y0], M)) sm_a209_437 rfl rfl rfl ?_
  refine ru_go (t := (439, [some (.inr (some b_1)), some (.inr r1), some (.inr r2), some (.inl x3)], [.inl x3, .inr (some b_1), .inl (sm_I M b_1 (x3 + 2).toNatClampNeg), .inl (sm_I M b_1 (x3 + 1).toNatClampNeg), .inr r2, .inl y0], M)) sm_a209_438 rfl rfl rfl ?_
  refine ru_go (t := (440, [some (.inr (some b_1)), some (.inr r1), some (.inr r2), some (.inl x3)], [.inl 3, .inl x3, .inr (some b_1), .inl (sm_I M b_1 (x3 + 2).toNatClampNeg), .inl (sm_I M b_1 (x3 + 1).toNatClampNeg), .inr r2, .inl y0], M)) sm_a209_439 rfl rfl (st_iconst (by decide)) ?_
  refine ru_go (t := (441, [some (.inr (some b_1)), some (.inr r1), some (.inr r2), some (.inl x3)], [.inl (x3 + 3), .inr (some b_1), .inl (sm_I M b_1 (x3 + 2).toNatClampNeg), .inl (sm_I M b_1 (x3 + 1).toNatClampNeg), .inr r2, .inl y0], M)) sm_a209_440 rfl rfl rfl ?_
  obtain ⟨h_6, h⟩ := h
  refine ru_go (t := (442, [some (.inr (some b_1)), some (.inr r1), some (.inr r2), some (.inl x3)], [.inl (sm_I M b_1 (x3 + 3).toNatClampNeg), .inl (sm_I M b_1 (x3 + 2).toNatClampNeg), .inl (sm_I M b_1 (x3 + 1).toNatClampNeg), .inr r2, .inl y0], M)) sm_a209_441 rfl rfl (st_iald h_3 h_6) ?_
  obtain ⟨b_7, hb_8, h⟩ := h
  rw [hb_8]
  obtain ⟨h_9, h⟩ := h
  exact ru_call (p := 445) sm_a209_442 rfl (sc_virt (Or.inl rfl) rfl rfl h_9 (Nat.le_of_ble_eq_true rfl)) rfl h
theorem bb_209_445 {d : Nat} {M : sm_M} {Q : Option sm_V → sm_M → Prop} {r0 : Option Nat} {r1 : Option Nat} {r2 : Option Nat} {x3 : Int32} {y0 : Int32} {y1 : Int32}
    (h : ((y1 = y0 → sm_Run (d + 1) 209 28 [some (.inr r0), some (.inr r1), some (.inr r2), some (.inl (x3 + 6))] [] M Q) ∧ (¬ (y1 = y0) → Q (some (.inl 0)) M))) :
    sm_Run (d + 1) 209 445 [some (.inr r0), some (.inr r1), some (.inr r2), some (.inl x3)] [.inl y0, .inl y1] M Q := by
  refine ru_icmp (pc := 445) (p := 820) (p2 := 448) sm_a209_445 (by decide) rfl ⟨fun hc_1 => ?_, fun hc_1 => ?_⟩
  · have h := h.1 hc_1
    refine ru_go (t := (823, [some (.inr r0), some (.inr r1), some (.inr r2), some (.inl (x3 + 6))], [], M)) sm_a209_820 rfl rfl (st_iinc rfl (by decide)) ?_
    refine ru_go (t := (28, [some (.inr r0), some (.inr r1), some (.inr r2), some (.inl (x3 + 6))], [], M)) sm_a209_823 rfl rfl (st_goto (pc := 823) (by decide)) ?_
    exact h
  · have h := h.2 hc_1
    refine ru_go (t := (449, [some (.inr r0), some (.inr r1), some (.inr r2), some (.inl x3)], [.inl 0], M)) sm_a209_448 rfl rfl (st_iconst (by decide)) ?_
    exact ru_ret sm_a209_449 (sm_rvz rfl (by decide)) h
theorem bb_209_479 {d : Nat} {M : sm_M} {Q : Option sm_V → sm_M → Prop} {r0 : Option Nat} {r1 : Option Nat} {r2 : Option Nat} {x3 : Int32} {y0 : Int32}
    (h : ∃ b_1, r0 = some b_1 ∧ sm_iA M b_1 ∧ sm_in_ M b_1 (x3 + 1) ∧ sm_in_ M b_1 (x3 + 2) ∧ sm_in_ M b_1 (x3 + 3) ∧ sm_in_ M b_1 (x3 + 4) ∧ sm_in_ M b_1 (x3 + 5) ∧ ∃ b_9, r2 = some b_9 ∧ sm_K M b_9 = 39 ∧ sm_Run d 198 0 (sm_ent 198 [.inr (some b_9), .inl (sm_I M b_1 (x3 + 1).toNatClampNeg), .inl (sm_I M b_1 (x3 + 2).toNatClampNeg), .inl (sm_I M b_1 (x3 + 3).toNatClampNeg), .inl (sm_I M b_1 (x3 + 4).toNatClampNeg), .inl (sm_I M b_1 (x3 + 5).toNatClampNeg)]) [] M (fun v M1 => sm_Run (d + 1) 209 508 [some (.inr (some b_1)), some (.inr r1), some (.inr (some b_9)), some (.inl x3)] (v.toList ++ [.inl y0]) M1 Q)) :
    sm_Run (d + 1) 209 479 [some (.inr r0), some (.inr r1), some (.inr r2), some (.inl x3)] [.inl y0] M Q := by
  refine ru_go (t := (480, [some (.inr r0), some (.inr r1), some (.inr r2), some (.inl x3)], [.inr r2, .inl y0], M)) sm_a209_479 rfl rfl rfl ?_
  refine ru_go (t := (481, [some (.inr r0), some (.inr r1), some (.inr r2), some (.inl x3)], [.inr r0, .inr r2, .inl y0], M)) sm_a209_480 rfl rfl rfl ?_
  refine ru_go (t := (482, [some (.inr r0), some (.inr r1), some (.inr r2), some (.inl x3)], [.inl x3, .inr r0, .inr r2, .inl y0], M)) sm_a209_481 rfl rfl rfl ?_
  refine ru_go (t := (483, [some (.inr r0), some (.inr r1), some (.inr r2), some (.inl x3)], [.inl 1, .inl x3, .inr r0, .inr r2, .inl y0], M)) sm_a209_482 rfl rfl (st_iconst (by decide)) ?_
  refine ru_go (t := (484, [some (.inr r0), some (.inr r1), some (.inr r2), some (.inl x3)], [.inl (x3 + 1), .inr r0, .inr r2, .inl y0], M)) sm_a209_483 rfl rfl rfl ?_
  obtain ⟨b_1, hb_2, h⟩ := h
  rw [hb_2]
  obtain ⟨h_3, h⟩ := h
  obtain ⟨h_4, h⟩ := h
  refine ru_go (t := (485, [some (.inr (some b_1)), some (.inr r1), some (.inr r2), some (.inl x3)], [.inl (sm_I M b_1 (x3 + 1).toNatClampNeg), .inr r2, .inl y0], M)) sm_a209_484 rfl rfl (st_iald h_3 h_4) ?_
  refine ru_go (t := (486, [some (.inr (some b_1)), some (.inr r1), some (.inr r2), some (.inl x3)], [.inr (some b_1), .inl (sm_I M b_1 (x3 + 1).toNatClampNeg), .inr r2, .inl y0], M)) sm_a209_485 rfl rfl rfl ?_
  refine ru_go (t := (487, [some (.inr (some b_1)), some (.inr r1), some (.inr r2), some (.inl x3)], [.inl x3, .inr (some b_1), .inl (sm_I M b_1 (x3 + 1).toNatClampNeg), .inr r2, .inl y0], M)) sm_a209_486 rfl rfl rfl ?_
  refine ru_go (t := (488, [some (.inr (some b_1)), some (.inr r1), some (.inr r2), some (.inl x3)], [.inl 2, .inl x3, .inr (some b_1), .inl (sm_I M b_1 (x3 + 1).toNatClampNeg), .inr r2, .inl y0], M)) sm_a209_487 rfl rfl (st_iconst (by decide)) ?_
  refine ru_go (t := (489, [some (.inr (some b_1)), some (.inr r1), some (.inr r2), some (.inl x3)], [.inl (x3 + 2), .inr (some b_1), .inl (sm_I M b_1 (x3 + 1).toNatClampNeg), .inr r2, .inl y0], M)) sm_a209_488 rfl rfl rfl ?_
  obtain ⟨h_5, h⟩ := h
  refine ru_go (t := (490, [some (.inr (some b_1)), some (.inr r1), some (.inr r2), some (.inl x3)], [.inl (sm_I M b_1 (x3 + 2).toNatClampNeg), .inl (sm_I M b_1 (x3 + 1).toNatClampNeg), .inr r2, .inl y0], M)) sm_a209_489 rfl rfl (st_iald h_3 h_5) ?_
  refine ru_go (t := (491, [some (.inr (some b_1)), some (.inr r1), some (.inr r2), some (.inl x3)], [.inr (some b_1), .inl (sm_I M b_1 (x3 + 2).toNatClampNeg), .inl (sm_I M b_1 (x3 + 1).toNatClampNeg), .inr r2, .inl y0], M)) sm_a209_490 rfl rfl rfl ?_
  refine ru_go (t := (492, [some (.inr (some b_1)), some (.inr r1), some (.inr r2), some (.inl x3)], [.inl x3, .inr (some b_1), .inl (sm_I M b_1 (x3 + 2).toNatClampNeg), .inl (sm_I M b_1 (x3 + 1).toNatClampNeg), .inr r2, .inl y0], M)) sm_a209_491 rfl rfl rfl ?_
  refine ru_go (t := (493, [some (.inr (some b_1)), some (.inr r1), some (.inr r2), some (.inl x3)], [.inl 3, .inl x3, .inr (some b_1), .inl (sm_I M b_1 (x3 + 2).toNatClampNeg), .inl (sm_I M b_1 (x3 + 1).toNatClampNeg), .inr r2, .inl y0], M)) sm_a209_492 rfl rfl (st_iconst (by decide)) ?_
  refine ru_go (t := (494, [some (.inr (some b_1)), some (.inr r1), some (.inr r2), some (.inl x3)], [.inl (x3 + 3), .inr (some b_1), .inl (sm_I M b_1 (x3 + 2).toNatClampNeg), .inl (sm_I M b_1 (x3 + 1).toNatClampNeg), .inr r2, .inl y0], M)) sm_a209_493 rfl rfl rfl ?_
  obtain ⟨h_6, h⟩ := h
  refine ru_go (t := (495, [some (.inr (some b_1)), some (.inr r1), some (.inr r2), some (.inl x3)], [.inl (sm_I M b_1 (x3 + 3).toNatClampNeg), .inl (sm_I M b_1 (x3 + 2).toNatClampNeg), .inl (sm_I M b_1 (x3 + 1).toNatClampNeg), .inr r2, .inl y0], M)) sm_a209_494 rfl rfl (st_iald h_3 h_6) ?_
  refine ru_go (t := (496, [some (.inr (some b_1)), some (.inr r1), some (.inr r2), some (.inl x3)], [.inr (some b_1), .inl (sm_I M b_1 (x3 + 3).toNatClampNeg), .inl (sm_I M b_1 (x3 + 2).toNatClampNeg), .inl (sm_I M b_1 (x3 + 1).toNatClampNeg), .inr r2, .inl y0], M)) sm_a209_495 rfl rfl rfl ?_
  refine ru_go (t := (497, [some (.inr (some b_1)), some (.inr r1), some (.inr r2), some (.inl x3)], [.inl x3, .inr (some b_1), .inl (sm_I M b_1 (x3 + 3).toNatClampNeg), .inl (sm_I M b_1 (x3 + 2).toNatClampNeg), .inl (sm_I M b_1 (x3 + 1).toNatClampNeg), .inr r2, .inl y0], M)) sm_a209_496 rfl rfl rfl ?_
  refine ru_go (t := (498, [some (.inr (some b_1)), some (.inr r1), some (.inr r2), some (.inl x3)], [.inl 4, .inl x3, .inr (some b_1), .inl (sm_I M b_1 (x3 + 3).toNatClampNeg), .inl (sm_I M b_1 (x3 + 2).toNatClampNeg), .inl (sm_I M b_1 (x3 + 1).toNatClampNeg), .inr r2, .inl y0], M)) sm_a209_497 rfl rfl (st_iconst (by decide)) ?_
  refine ru_go (t := (499, [some (.inr (some b_1)), some (.inr r1), some (.inr r2), some (.inl x3)], [.inl (x3 + 4), .inr (some b_1), .inl (sm_I M b_1 (x3 + 3).toNatClampNeg), .inl (sm_I M b_1 (x3 + 2).toNatClampNeg), .inl (sm_I M b_1 (x3 + 1).toNatClampNeg), .inr r2, .inl y0], M)) sm_a209_498 rfl rfl rfl ?_
  obtain ⟨h_7, h⟩ := h
  refine ru_go (t := (500, [some (.inr (some b_1)), some (.inr r1), some (.inr r2), some (.inl x3)], [.inl (sm_I M b_1 (x3 + 4).toNatClampNeg), .inl (sm_I M b_1 (x3 + 3).toNatClampNeg), .inl (sm_I M b_1 (x3 + 2).toNatClampNeg), .inl (sm_I M b_1 (x3 + 1).toNatClampNeg), .inr r2, .inl y0], M)) sm_a209_499 rfl rfl (st_iald h_3 h_7) ?_
  refine ru_go (t := (501, [some (.inr (some b_1)), some (.inr r1), some (.inr r2), some (.inl x3)], [.inr (some b_1), .inl (sm_I M b_1 (x3 + 4).toNatClampNeg), .inl (sm_I M b_1 (x3 + 3).toNatClampNeg), .inl (sm_I M b_1 (x3 + 2).toNatClampNeg), .inl (sm_I M b_1 (x3 + 1).toNatClampNeg), .inr r2, .inl y0], M)) sm_a209_500 rfl rfl rfl ?_
  refine ru_go (t := (502, [some (.inr (some b_1)), some (.inr r1), some (.inr r2), some (.inl x3)], [.inl x3, .inr (some b_1), .inl (sm_I M b_1 (x3 + 4).toNatClampNeg), .inl (sm_I M b_1 (x3 + 3).toNatClampNeg), .inl (sm_I M b_1 (x3 + 2).toNatClampNeg), .inl (sm_I M b_1 (x3 + 1).toNatClampNeg), .inr r2, .inl y0], M)) sm_a209_501 rfl rfl rfl ?_
  refine ru_go (t := (503, [some (.inr (some b_1)), some (.inr r1), some (.inr r2), some (.inl x3)], [.inl 5, .inl x3, .inr (some b_1), .inl (sm_I M b_1 (x3 + 4).toNatClampNeg), .inl (sm_I M b_1 (x3 + 3).toNatClampNeg), .inl (sm_I M b_1 (x3 + 2).toNatClampNeg), .inl (sm_I M b_1 (x3 + 1).toNatClampNeg), .inr r2, .inl y0], M)) sm_a209_502 rfl rfl (st_iconst (by decide)) ?_
  refine ru_go (t := (504, [some (.inr (some b_1)), some (.inr r1), some (.inr r2), some (.inl x3)], [.inl (x3 + 5), .inr (some b_1), .inl (sm_I M b_1 (x3 + 4).toNatClampNeg), .inl (sm_I M b_1 (x3 + 3).toNatClampNeg), .inl (sm_I M b_1 (x3 + 2).toNatClampNeg), .inl (sm_I M b_1 (x3 + 1).toNatClampNeg), .inr r2, .inl y0], M)) sm_a209_503 rfl rfl rfl ?_
  obtain ⟨h_8, h⟩ := h
  refine ru_go (t := (505, [some (.inr (some b_1)), some (.inr r1), some (.inr r2), some (.inl x3)], [.inl (sm_I M b_1 (x3 + 5).toNatClampNeg), .inl (sm_I M b_1 (x3 + 4).toNatClampNeg), .inl (sm_I M b_1 (x3 + 3).toNatClampNeg), .inl (sm_I M b_1 (x3 + 2).toNatClampNeg), .inl (sm_I M b_1 (x3 + 1).toNatClampNeg), .inr r2, .inl y0], M)) sm_a209_504 rfl rfl (st_iald h_3 h_8) ?_
  obtain ⟨b_9, hb_10, h⟩ := h
  rw [hb_10]
  obtain ⟨h_11, h⟩ := h
  exact ru_call (p := 508) sm_a209_505 rfl (sc_virt (Or.inl rfl) rfl rfl h_11 (Nat.le_of_ble_eq_true rfl)) rfl h
theorem bb_209_508 {d : Nat} {M : sm_M} {Q : Option sm_V → sm_M → Prop} {r0 : Option Nat} {r1 : Option Nat} {r2 : Option Nat} {x3 : Int32} {y0 : Int32} {y1 : Int32}
    (h : ((y1 = y0 → sm_Run (d + 1) 209 28 [some (.inr r0), some (.inr r1), some (.inr r2), some (.inl (x3 + 6))] [] M Q) ∧ (¬ (y1 = y0) → Q (some (.inl 0)) M))) :
    sm_Run (d + 1) 209 508 [some (.inr r0), some (.inr r1), some (.inr r2), some (.inl x3)] [.inl y0, .inl y1] M Q := by
  refine ru_icmp (pc := 508) (p := 820) (p2 := 511) sm_a209_508 (by decide) rfl ⟨fun hc_1 => ?_, fun hc_1 => ?_⟩
  · have h := h.1 hc_1
    refine ru_go (t := (823, [some (.inr r0), some (.inr r1), some (.inr r2), some (.inl (x3 + 6))], [], M)) sm_a209_820 rfl rfl (st_iinc rfl (by decide)) ?_
    refine ru_go (t := (28, [some (.inr r0), some (.inr r1), some (.inr r2), some (.inl (x3 + 6))], [], M)) sm_a209_823 rfl rfl (st_goto (pc := 823) (by decide)) ?_
    exact h
  · have h := h.2 hc_1
    refine ru_go (t := (512, [some (.inr r0), some (.inr r1), some (.inr r2), some (.inl x3)], [.inl 0], M)) sm_a209_511 rfl rfl (st_iconst (by decide)) ?_
    exact ru_ret sm_a209_512 (sm_rvz rfl (by decide)) h
theorem bb_209_522 {d : Nat} {M : sm_M} {Q : Option sm_V → sm_M → Prop} {r0 : Option Nat} {r1 : Option Nat} {r2 : Option Nat} {x3 : Int32} {y0 : Int32}
    (h : ∃ b_1, r0 = some b_1 ∧ sm_iA M b_1 ∧ sm_in_ M b_1 (x3 + 1) ∧ ∃ b_5, r2 = some b_5 ∧ sm_K M b_5 = 39 ∧ sm_Run d 199 0 (sm_ent 199 [.inr (some b_5), .inl (sm_I M b_1 (x3 + 1).toNatClampNeg)]) [] M (fun v M1 => sm_Run (d + 1) 209 531 [some (.inr (some b_1)), some (.inr r1), some (.inr (some b_5)), some (.inl x3)] (v.toList ++ [.inl y0]) M1 Q)) :
    sm_Run (d + 1) 209 522 [some (.inr r0), some (.inr r1), some (.inr r2), some (.inl x3)] [.inl y0] M Q := by
  refine ru_go (t := (523, [some (.inr r0), some (.inr r1), some (.inr r2), some (.inl x3)], [.inr r2, .inl y0], M)) sm_a209_522 rfl rfl rfl ?_
  refine ru_go (t := (524, [some (.inr r0), some (.inr r1), some (.inr r2), some (.inl x3)], [.inr r0, .inr r2, .inl y0], M)) sm_a209_523 rfl rfl rfl ?_
  refine ru_go (t := (525, [some (.inr r0), some (.inr r1), some (.inr r2), some (.inl x3)], [.inl x3, .inr r0, .inr r2, .inl y0], M)) sm_a209_524 rfl rfl rfl ?_
  refine ru_go (t := (526, [some (.inr r0), some (.inr r1), some (.inr r2), some (.inl x3)], [.inl 1, .inl x3, .inr r0, .inr r2, .inl y0], M)) sm_a209_525 rfl rfl (st_iconst (by decide)) ?_
  refine ru_go (t := (527, [some (.inr r0), some (.inr r1), some (.inr r2), some (.inl x3)], [.inl (x3 + 1), .inr r0, .inr r2, .inl y0], M)) sm_a209_526 rfl rfl rfl ?_
  obtain ⟨b_1, hb_2, h⟩ := h
  rw [hb_2]
  obtain ⟨h_3, h⟩ := h
  obtain ⟨h_4, h⟩ := h
  refine ru_go (t := (528, [some (.inr (some b_1)), some (.inr r1), some (.inr r2), some (.inl x3)], [.inl (sm_I M b_1 (x3 + 1).toNatClampNeg), .inr r2, .inl y0], M)) sm_a209_527 rfl rfl (st_iald h_3 h_4) ?_
  obtain ⟨b_5, hb_6, h⟩ := h
  rw [hb_6]
  obtain ⟨h_7, h⟩ := h
  exact ru_call (p := 531) sm_a209_528 rfl (sc_virt (Or.inl rfl) rfl rfl h_7 (Nat.le_of_ble_eq_true rfl)) rfl h
theorem bb_209_531 {d : Nat} {M : sm_M} {Q : Option sm_V → sm_M → Prop} {r0 : Option Nat} {r1 : Option Nat} {r2 : Option Nat} {x3 : Int32} {y0 : Int32} {y1 : Int32}
    (h : ((y1 = y0 → sm_Run (d + 1) 209 28 [some (.inr r0), some (.inr r1), some (.inr r2), some (.inl (x3 + 6))] [] M Q) ∧ (¬ (y1 = y0) → Q (some (.inl 0)) M))) :
    sm_Run (d + 1) 209 531 [some (.inr r0), some (.inr r1), some (.inr r2), some (.inl x3)] [.inl y0, .inl y1] M Q := by
  refine ru_icmp (pc := 531) (p := 820) (p2 := 534) sm_a209_531 (by decide) rfl ⟨fun hc_1 => ?_, fun hc_1 => ?_⟩
  · have h := h.1 hc_1
    refine ru_go (t := (823, [some (.inr r0), some (.inr r1), some (.inr r2), some (.inl (x3 + 6))], [], M)) sm_a209_820 rfl rfl (st_iinc rfl (by decide)) ?_
    refine ru_go (t := (28, [some (.inr r0), some (.inr r1), some (.inr r2), some (.inl (x3 + 6))], [], M)) sm_a209_823 rfl rfl (st_goto (pc := 823) (by decide)) ?_
    exact h
  · have h := h.2 hc_1
    refine ru_go (t := (535, [some (.inr r0), some (.inr r1), some (.inr r2), some (.inl x3)], [.inl 0], M)) sm_a209_534 rfl rfl (st_iconst (by decide)) ?_
    exact ru_ret sm_a209_535 (sm_rvz rfl (by decide)) h
theorem bb_209_555 {d : Nat} {M : sm_M} {Q : Option sm_V → sm_M → Prop} {r0 : Option Nat} {r1 : Option Nat} {r2 : Option Nat} {x3 : Int32} {y0 : Int32}
    (h : ∃ b_1, r0 = some b_1 ∧ sm_iA M b_1 ∧ sm_in_ M b_1 (x3 + 1) ∧ sm_in_ M b_1 (x3 + 2) ∧ sm_in_ M b_1 (x3 + 3) ∧ ∃ b_7, r2 = some b_7 ∧ sm_K M b_7 = 39 ∧ sm_Run d 200 0 (sm_ent 200 [.inr (some b_7), .inl (sm_I M b_1 (x3 + 1).toNatClampNeg), .inl (sm_I M b_1 (x3 + 2).toNatClampNeg), .inl (sm_I M b_1 (x3 + 3).toNatClampNeg)]) [] M (fun v M1 => sm_Run (d + 1) 209 574 [some (.inr (some b_1)), some (.inr r1), some (.inr (some b_7)), some (.inl x3)] (v.toList ++ [.inl y0]) M1 Q)) :
    sm_Run (d + 1) 209 555 [some (.inr r0), some (.inr r1), some (.inr r2), some (.inl x3)] [.inl y0] M Q := by
  refine ru_go (t := (556, [some (.inr r0), some (.inr r1), some (.inr r2), some (.inl x3)], [.inr r2, .inl y0], M)) sm_a209_555 rfl rfl rfl ?_
  refine ru_go (t := (557, [some (.inr r0), some (.inr r1), some (.inr r2), some (.inl x3)], [.inr r0, .inr r2, .inl y0], M)) sm_a209_556 rfl rfl rfl ?_
  refine ru_go (t := (558, [some (.inr r0), some (.inr r1), some (.inr r2), some (.inl x3)], [.inl x3, .inr r0, .inr r2, .inl y0], M)) sm_a209_557 rfl rfl rfl ?_
  refine ru_go (t := (559, [some (.inr r0), some (.inr r1), some (.inr r2), some (.inl x3)], [.inl 1, .inl x3, .inr r0, .inr r2, .inl y0], M)) sm_a209_558 rfl rfl (st_iconst (by decide)) ?_
  refine ru_go (t := (560, [some (.inr r0), some (.inr r1), some (.inr r2), some (.inl x3)], [.inl (x3 + 1), .inr r0, .inr r2, .inl y0], M)) sm_a209_559 rfl rfl rfl ?_
  obtain ⟨b_1, hb_2, h⟩ := h
  rw [hb_2]
  obtain ⟨h_3, h⟩ := h
  obtain ⟨h_4, h⟩ := h
  refine ru_go (t := (561, [some (.inr (some b_1)), some (.inr r1), some (.inr r2), some (.inl x3)], [.inl (sm_I M b_1 (x3 + 1).toNatClampNeg), .inr r2, .inl y0], M)) sm_a209_560 rfl rfl (st_iald h_3 h_4) ?_
  refine ru_go (t := (562, [some (.inr (some b_1)), some (.inr r1), some (.inr r2), some (.inl x3)], [.inr (some b_1), .inl (sm_I M b_1 (x3 + 1).toNatClampNeg), .inr r2, .inl y0], M)) sm_a209_561 rfl rfl rfl ?_
  refine ru_go (t := (563, [some (.inr (some b_1)), some (.inr r1), some (.inr r2), some (.inl x3)], [.inl x3, .inr (some b_1), .inl (sm_I M b_1 (x3 + 1).toNatClampNeg), .inr r2, .inl y0], M)) sm_a209_562 rfl rfl rfl ?_
  refine ru_go (t := (564, [some (.inr (some b_1)), some (.inr r1), some (.inr r2), some (.inl x3)], [.inl 2, .inl x3, .inr (some b_1), .inl (sm_I M b_1 (x3 + 1).toNatClampNeg), .inr r2, .inl y0], M)) sm_a209_563 rfl rfl (st_iconst (by decide)) ?_
  refine ru_go (t := (565, [some (.inr (some b_1)), some (.inr r1), some (.inr r2), some (.inl x3)], [.inl (x3 + 2), .inr (some b_1), .inl (sm_I M b_1 (x3 + 1).toNatClampNeg), .inr r2, .inl y0], M)) sm_a209_564 rfl rfl rfl ?_
  obtain ⟨h_5, h⟩ := h
  refine ru_go (t := (566, [some (.inr (some b_1)), some (.inr r1), some (.inr r2), some (.inl x3)], [.inl (sm_I M b_1 (x3 + 2).toNatClampNeg), .inl (sm_I M b_1 (x3 + 1).toNatClampNeg), .inr r2, .inl y0], M)) sm_a209_565 rfl rfl (st_iald h_3 h_5) ?_
  refine ru_go (t := (567, [some (.inr (some b_1)), some (.inr r1), some (.inr r2), some (.inl x3)], [.inr (some b_1), .inl (sm_I M b_1 (x3 + 2).toNatClampNeg), .inl (sm_I M b_1 (x3 + 1).toNatClampNeg), .inr r2, .inl y0], M)) sm_a209_566 rfl rfl rfl ?_
  refine ru_go (t := (568, [some (.inr (some b_1)), some (.inr r1), some (.inr r2), some (.inl x3)], [.inl x3, .inr (some b_1), .inl (sm_I M b_1 (x3 + 2).toNatClampNeg), .inl (sm_I M b_1 (x3 + 1).toNatClampNeg), .inr r2, .inl y0], M)) sm_a209_567 rfl rfl rfl ?_
  refine ru_go (t := (569, [some (.inr (some b_1)), some (.inr r1), some (.inr r2), some (.inl x3)], [.inl 3, .inl x3, .inr (some b_1), .inl (sm_I M b_1 (x3 + 2).toNatClampNeg), .inl (sm_I M b_1 (x3 + 1).toNatClampNeg), .inr r2, .inl y0], M)) sm_a209_568 rfl rfl (st_iconst (by decide)) ?_
  refine ru_go (t := (570, [some (.inr (some b_1)), some (.inr r1), some (.inr r2), some (.inl x3)], [.inl (x3 + 3), .inr (some b_1), .inl (sm_I M b_1 (x3 + 2).toNatClampNeg), .inl (sm_I M b_1 (x3 + 1).toNatClampNeg), .inr r2, .inl y0], M)) sm_a209_569 rfl rfl rfl ?_
  obtain ⟨h_6, h⟩ := h
  refine ru_go (t := (571, [some (.inr (some b_1)), some (.inr r1), some (.inr r2), some (.inl x3)], [.inl (sm_I M b_1 (x3 + 3).toNatClampNeg), .inl (sm_I M b_1 (x3 + 2).toNatClampNeg), .inl (sm_I M b_1 (x3 + 1).toNatClampNeg), .inr r2, .inl y0], M)) sm_a209_570 rfl rfl (st_iald h_3 h_6) ?_
  obtain ⟨b_7, hb_8, h⟩ := h
  rw [hb_8]
  obtain ⟨h_9, h⟩ := h
  exact ru_call (p := 574) sm_a209_571 rfl (sc_virt (Or.inl rfl) rfl rfl h_9 (Nat.le_of_ble_eq_true rfl)) rfl h
theorem bb_209_574 {d : Nat} {M : sm_M} {Q : Option sm_V → sm_M → Prop} {r0 : Option Nat} {r1 : Option Nat} {r2 : Option Nat} {x3 : Int32} {y0 : Int32} {y1 : Int32}
    (h : ((y1 = y0 → sm_Run (d + 1) 209 28 [some (.inr r0), some (.inr r1), some (.inr r2), some (.inl (x3 + 6))] [] M Q) ∧ (¬ (y1 = y0) → Q (some (.inl 0)) M))) :
    sm_Run (d + 1) 209 574 [some (.inr r0), some (.inr r1), some (.inr r2), some (.inl x3)] [.inl y0, .inl y1] M Q := by
  refine ru_icmp (pc := 574) (p := 820) (p2 := 577) sm_a209_574 (by decide) rfl ⟨fun hc_1 => ?_, fun hc_1 => ?_⟩
  · have h := h.1 hc_1
    refine ru_go (t := (823, [some (.inr r0), some (.inr r1), some (.inr r2), some (.inl (x3 + 6))], [], M)) sm_a209_820 rfl rfl (st_iinc rfl (by decide)) ?_
    refine ru_go (t := (28, [some (.inr r0), some (.inr r1), some (.inr r2), some (.inl (x3 + 6))], [], M)) sm_a209_823 rfl rfl (st_goto (pc := 823) (by decide)) ?_
    exact h
  · have h := h.2 hc_1
    refine ru_go (t := (578, [some (.inr r0), some (.inr r1), some (.inr r2), some (.inl x3)], [.inl 0], M)) sm_a209_577 rfl rfl (st_iconst (by decide)) ?_
    exact ru_ret sm_a209_578 (sm_rvz rfl (by decide)) h
theorem bb_209_593 {d : Nat} {M : sm_M} {Q : Option sm_V → sm_M → Prop} {r0 : Option Nat} {r1 : Option Nat} {r2 : Option Nat} {x3 : Int32} {y0 : Int32}
    (h : ∃ b_1, r0 = some b_1 ∧ sm_iA M b_1 ∧ sm_in_ M b_1 (x3 + 1) ∧ sm_in_ M b_1 (x3 + 2) ∧ ∃ b_6, r2 = some b_6 ∧ sm_K M b_6 = 39 ∧ sm_Run d 201 0 (sm_ent 201 [.inr (some b_6), .inl (sm_I M b_1 (x3 + 1).toNatClampNeg), .inl (sm_I M b_1 (x3 + 2).toNatClampNeg)]) [] M (fun v M1 => sm_Run (d + 1) 209 607 [some (.inr (some b_1)), some (.inr r1), some (.inr (some b_6)), some (.inl x3)] (v.toList ++ [.inl y0]) M1 Q)) :
    sm_Run (d + 1) 209 593 [some (.inr r0), some (.inr r1), some (.inr r2), some (.inl x3)] [.inl y0] M Q := by
  refine ru_go (t := (594, [some (.inr r0), some (.inr r1), some (.inr r2), some (.inl x3)], [.inr r2, .inl y0], M)) sm_a209_593 rfl rfl rfl ?_
  refine ru_go (t := (595, [some (.inr r0), some (.inr r1), some (.inr r2), some (.inl x3)], [.inr r0, .inr r2, .inl y0], M)) sm_a209_594 rfl rfl rfl ?_
  refine ru_go (t := (596, [some (.inr r0), some (.inr r1), some (.inr r2), some (.inl x3)], [.inl x3, .inr r0, .inr r2, .inl y0], M)) sm_a209_595 rfl rfl rfl ?_
  refine ru_go (t := (597, [some (.inr r0), some (.inr r1), some (.inr r2), some (.inl x3)], [.inl 1, .inl x3, .inr r0, .inr r2, .inl y0], M)) sm_a209_596 rfl rfl (st_iconst (by decide)) ?_
  refine ru_go (t := (598, [some (.inr r0), some (.inr r1), some (.inr r2), some (.inl x3)], [.inl (x3 + 1), .inr r0, .inr r2, .inl y0], M)) sm_a209_597 rfl rfl rfl ?_
  obtain ⟨b_1, hb_2, h⟩ := h
  rw [hb_2]
  obtain ⟨h_3, h⟩ := h
  obtain ⟨h_4, h⟩ := h
  refine ru_go (t := (599, [some (.inr (some b_1)), some (.inr r1), some (.inr r2), some (.inl x3)], [.inl (sm_I M b_1 (x3 + 1).toNatClampNeg), .inr r2, .inl y0], M)) sm_a209_598 rfl rfl (st_iald h_3 h_4) ?_
  refine ru_go (t := (600, [some (.inr (some b_1)), some (.inr r1), some (.inr r2), some (.inl x3)], [.inr (some b_1), .inl (sm_I M b_1 (x3 + 1).toNatClampNeg), .inr r2, .inl y0], M)) sm_a209_599 rfl rfl rfl ?_
  refine ru_go (t := (601, [some (.inr (some b_1)), some (.inr r1), some (.inr r2), some (.inl x3)], [.inl x3, .inr (some b_1), .inl (sm_I M b_1 (x3 + 1).toNatClampNeg), .inr r2, .inl y0], M)) sm_a209_600 rfl rfl rfl ?_
  refine ru_go (t := (602, [some (.inr (some b_1)), some (.inr r1), some (.inr r2), some (.inl x3)], [.inl 2, .inl x3, .inr (some b_1), .inl (sm_I M b_1 (x3 + 1).toNatClampNeg), .inr r2, .inl y0], M)) sm_a209_601 rfl rfl (st_iconst (by decide)) ?_
  refine ru_go (t := (603, [some (.inr (some b_1)), some (.inr r1), some (.inr r2), some (.inl x3)], [.inl (x3 + 2), .inr (some b_1), .inl (sm_I M b_1 (x3 + 1).toNatClampNeg), .inr r2, .inl y0], M)) sm_a209_602 rfl rfl rfl ?_
  obtain ⟨h_5, h⟩ := h
  refine ru_go (t := (604, [some (.inr (some b_1)), some (.inr r1), some (.inr r2), some (.inl x3)], [.inl (sm_I M b_1 (x3 + 2).toNatClampNeg), .inl (sm_I M b_1 (x3 + 1).toNatClampNeg), .inr r2, .inl y0], M)) sm_a209_603 rfl rfl (st_iald h_3 h_5) ?_
  obtain ⟨b_6, hb_7, h⟩ := h
  rw [hb_7]
  obtain ⟨h_8, h⟩ := h
  exact ru_call (p := 607) sm_a209_604 rfl (sc_virt (Or.inl rfl) rfl rfl h_8 (Nat.le_of_ble_eq_true rfl)) rfl h
theorem bb_209_607 {d : Nat} {M : sm_M} {Q : Option sm_V → sm_M → Prop} {r0 : Option Nat} {r1 : Option Nat} {r2 : Option Nat} {x3 : Int32} {y0 : Int32} {y1 : Int32}
    (h : ((y1 = y0 → sm_Run (d + 1) 209 28 [some (.inr r0), some (.inr r1), some (.inr r2), some (.inl (x3 + 6))] [] M Q) ∧ (¬ (y1 = y0) → Q (some (.inl 0)) M))) :
    sm_Run (d + 1) 209 607 [some (.inr r0), some (.inr r1), some (.inr r2), some (.inl x3)] [.inl y0, .inl y1] M Q := by
  refine ru_icmp (pc := 607) (p := 820) (p2 := 610) sm_a209_607 (by decide) rfl ⟨fun hc_1 => ?_, fun hc_1 => ?_⟩
  · have h := h.1 hc_1
    refine ru_go (t := (823, [some (.inr r0), some (.inr r1), some (.inr r2), some (.inl (x3 + 6))], [], M)) sm_a209_820 rfl rfl (st_iinc rfl (by decide)) ?_
    refine ru_go (t := (28, [some (.inr r0), some (.inr r1), some (.inr r2), some (.inl (x3 + 6))], [], M)) sm_a209_823 rfl rfl (st_goto (pc := 823) (by decide)) ?_
    exact h
  · have h := h.2 hc_1
    refine ru_go (t := (611, [some (.inr r0), some (.inr r1), some (.inr r2), some (.inl x3)], [.inl 0], M)) sm_a209_610 rfl rfl (st_iconst (by decide)) ?_
    exact ru_ret sm_a209_611 (sm_rvz rfl (by decide)) h
theorem bb_209_631 {d : Nat} {M : sm_M} {Q : Option sm_V → sm_M → Prop} {r0 : Option Nat} {r1 : Option Nat} {r2 : Option Nat} {x3 : Int32} {y0 : Int32}
    (h : ∃ b_1, r0 = some b_1 ∧ sm_iA M b_1 ∧ sm_in_ M b_1 (x3 + 1) ∧ sm_in_ M b_1 (x3 + 2) ∧ sm_in_ M b_1 (x3 + 3) ∧ ∃ b_7, r2 = some b_7 ∧ sm_K M b_7 = 39 ∧ sm_Run d 202 0 (sm_ent 202 [.inr (some b_7), .inl (sm_I M b_1 (x3 + 1).toNatClampNeg), .inl (sm_I M b_1 (x3 + 2).toNatClampNeg), .inl (sm_I M b_1 (x3 + 3).toNatClampNeg)]) [] M (fun v M1 => sm_Run (d + 1) 209 650 [some (.inr (some b_1)), some (.inr r1), some (.inr (some b_7)), some (.inl x3)] (v.toList ++ [.inl y0]) M1 Q)) :
    sm_Run (d + 1) 209 631 [some (.inr r0), some (.inr r1), some (.inr r2), some (.inl x3)] [.inl y0] M Q := by
  refine ru_go (t := (632, [some (.inr r0), some (.inr r1), some (.inr r2), some (.inl x3)], [.inr r2, .inl y0], M)) sm_a209_631 rfl rfl rfl ?_
  refine ru_go (t := (633, [some (.inr r0), some (.inr r1), some (.inr r2), some (.inl x3)], [.inr r0, .inr r2, .inl y0], M)) sm_a209_632 rfl rfl rfl ?_
  refine ru_go (t := (634, [some (.inr r0), some (.inr r1), some (.inr r2), some (.inl x3)], [.inl x3, .inr r0, .inr r2, .inl y0], M)) sm_a209_633 rfl rfl rfl ?_
  refine ru_go (t := (635, [some (.inr r0), some (.inr r1), some (.inr r2), some (.inl x3)], [.inl 1, .inl x3, .inr r0, .inr r2, .inl y0], M)) sm_a209_634 rfl rfl (st_iconst (by decide)) ?_
  refine ru_go (t := (636, [some (.inr r0), some (.inr r1), some (.inr r2), some (.inl x3)], [.inl (x3 + 1), .inr r0, .inr r2, .inl y0], M)) sm_a209_635 rfl rfl rfl ?_
  obtain ⟨b_1, hb_2, h⟩ := h
  rw [hb_2]
  obtain ⟨h_3, h⟩ := h
  obtain ⟨h_4, h⟩ := h
  refine ru_go (t := (637, [some (.inr (some b_1)), some (.inr r1), some (.inr r2), some (.inl x3)], [.inl (sm_I M b_1 (x3 + 1).toNatClampNeg), .inr r2, .inl y0], M)) sm_a209_636 rfl rfl (st_iald h_3 h_4) ?_
  refine ru_go (t := (638, [some (.inr (some b_1)), some (.inr r1), some (.inr r2), some (.inl x3)], [.inr (some b_1), .inl (sm_I M b_1 (x3 + 1).toNatClampNeg), .inr r2, .inl y0], M)) sm_a209_637 rfl rfl rfl ?_
  refine ru_go (t := (639, [some (.inr (some b_1)), some (.inr r1), some (.inr r2), some (.inl x3)], [.inl x3, .inr (some b_1), .inl (sm_I M b_1 (x3 + 1).toNatClampNeg), .inr r2, .inl y0], M)) sm_a209_638 rfl rfl rfl ?_
  refine ru_go (t := (640, [some (.inr (some b_1)), some (.inr r1), some (.inr r2), some (.inl x3)], [.inl 2, .inl x3, .inr (some b_1), .inl (sm_I M b_1 (x3 + 1).toNatClampNeg), .inr r2, .inl y0], M)) sm_a209_639 rfl rfl (st_iconst (by decide)) ?_
  refine ru_go (t := (641, [some (.inr (some b_1)), some (.inr r1), some (.inr r2), some (.inl x3)], [.inl (x3 + 2), .inr (some b_1), .inl (sm_I M b_1 (x3 + 1).toNatClampNeg), .inr r2, .inl y0], M)) sm_a209_640 rfl rfl rfl ?_
  obtain ⟨h_5, h⟩ := h
  refine ru_go (t := (642, [some (.inr (some b_1)), some (.inr r1), some (.inr r2), some (.inl x3)], [.inl (sm_I M b_1 (x3 + 2).toNatClampNeg), .inl (sm_I M b_1 (x3 + 1).toNatClampNeg), .inr r2, .inl y0], M)) sm_a209_641 rfl rfl (st_iald h_3 h_5) ?_
  refine ru_go (t := (643, [some (.inr (some b_1)), some (.inr r1), some (.inr r2), some (.inl x3)], [.inr (some b_1), .inl (sm_I M b_1 (x3 + 2).toNatClampNeg), .inl (sm_I M b_1 (x3 + 1).toNatClampNeg), .inr r2, .inl y0], M)) sm_a209_642 rfl rfl rfl ?_
  refine ru_go (t := (644, [some (.inr (some b_1)), some (.inr r1), some (.inr r2), some (.inl x3)], [.inl x3, .inr (some b_1), .inl (sm_I M b_1 (x3 + 2).toNatClampNeg), .inl (sm_I M b_1 (x3 + 1).toNatClampNeg), .inr r2, .inl y0], M)) sm_a209_643 rfl rfl rfl ?_
  refine ru_go (t := (645, [some (.inr (some b_1)), some (.inr r1), some (.inr r2), some (.inl x3)], [.inl 3, .inl x3, .inr (some b_1), .inl (sm_I M b_1 (x3 + 2).toNatClampNeg), .inl (sm_I M b_1 (x3 + 1).toNatClampNeg), .inr r2, .inl y0], M)) sm_a209_644 rfl rfl (st_iconst (by decide)) ?_
  refine ru_go (t := (646, [some (.inr (some b_1)), some (.inr r1), some (.inr r2), some (.inl x3)], [.inl (x3 + 3), .inr (some b_1), .inl (sm_I M b_1 (x3 + 2).toNatClampNeg), .inl (sm_I M b_1 (x3 + 1).toNatClampNeg), .inr r2, .inl y0], M)) sm_a209_645 rfl rfl rfl ?_
  obtain ⟨h_6, h⟩ := h
  refine ru_go (t := (647, [some (.inr (some b_1)), some (.inr r1), some (.inr r2), some (.inl x3)], [.inl (sm_I M b_1 (x3 + 3).toNatClampNeg), .inl (sm_I M b_1 (x3 + 2).toNatClampNeg), .inl (sm_I M b_1 (x3 + 1).toNatClampNeg), .inr r2, .inl y0], M)) sm_a209_646 rfl rfl (st_iald h_3 h_6) ?_
  obtain ⟨b_7, hb_8, h⟩ := h
  rw [hb_8]
  obtain ⟨h_9, h⟩ := h
  exact ru_call (p := 650) sm_a209_647 rfl (sc_virt (Or.inl rfl) rfl rfl h_9 (Nat.le_of_ble_eq_true rfl)) rfl h
theorem bb_209_650 {d : Nat} {M : sm_M} {Q : Option sm_V → sm_M → Prop} {r0 : Option Nat} {r1 : Option Nat} {r2 : Option Nat} {x3 : Int32} {y0 : Int32} {y1 : Int32}
    (h : ((y1 = y0 → sm_Run (d + 1) 209 28 [some (.inr r0), some (.inr r1), some (.inr r2), some (.inl (x3 + 6))] [] M Q) ∧ (¬ (y1 = y0) → Q (some (.inl 0)) M))) :
    sm_Run (d + 1) 209 650 [some (.inr r0), some (.inr r1), some (.inr r2), some (.inl x3)] [.inl y0, .inl y1] M Q := by
  refine ru_icmp (pc := 650) (p := 820) (p2 := 653) sm_a209_650 (by decide) rfl ⟨fun hc_1 => ?_, fun hc_1 => ?_⟩
  · have h := h.1 hc_1
    refine ru_go (t := (823, [some (.inr r0), some (.inr r1), some (.inr r2), some (.inl (x3 + 6))], [], M)) sm_a209_820 rfl rfl (st_iinc rfl (by decide)) ?_
    refine ru_go (t := (28, [some (.inr r0), some (.inr r1), some (.inr r2), some (.inl (x3 + 6))], [], M)) sm_a209_823 rfl rfl (st_goto (pc := 823) (by decide)) ?_
    exact h
  · have h := h.2 hc_1
    refine ru_go (t := (654, [some (.inr r0), some (.inr r1), some (.inr r2), some (.inl x3)], [.inl 0], M)) sm_a209_653 rfl rfl (st_iconst (by decide)) ?_
    exact ru_ret sm_a209_654 (sm_rvz rfl (by decide)) h
theorem bb_209_664 {d : Nat} {M : sm_M} {Q : Option sm_V → sm_M → Prop} {r0 : Option Nat} {r1 : Option Nat} {r2 : Option Nat} {x3 : Int32} {y0 : Int32}
    (h : ∃ b_1, r0 = some b_1 ∧ sm_iA M b_1 ∧ sm_in_ M b_1 (x3 + 1) ∧ ∃ b_5, r2 = some b_5 ∧ sm_K M b_5 = 39 ∧ sm_Run d 203 0 (sm_ent 203 [.inr (some b_5), .inl (sm_I M b_1 (x3 + 1).toNatClampNeg)]) [] M (fun v M1 => sm_Run (d + 1) 209 673 [some (.inr (some b_1)), some (.inr r1), some (.inr (some b_5)), some (.inl x3)] (v.toList ++ [.inl y0]) M1 Q)) :
    sm_Run (d + 1) 209 664 [some (.inr r0), some (.inr r1), some (.inr r2), some (.inl x3)] [.inl y0] M Q := by
  refine ru_go (t := (665, [some (.inr r0), some (.inr r1), some (.inr r2), some (.inl x3)], [.inr r2, .inl y0], M)) sm_a209_664 rfl rfl rfl ?_
  refine ru_go (t := (666, [some (.inr r0), some (.inr r1), some (.inr r2), some (.inl x3)], [.inr r0, .inr r2, .inl y0], M)) sm_a209_665 rfl rfl rfl ?_
  refine ru_go (t := (667, [some (.inr r0), some (.inr r1), some (.inr r2), some (.inl x3)], [.inl x3, .inr r0, .inr r2, .inl y0], M)) sm_a209_666 rfl rfl rfl ?_
  refine ru_go (t := (668, [some (.inr r0), some (.inr r1), some (.inr r2), some (.inl x3)], [.inl 1, .inl x3, .inr r0, .inr r2, .inl y0], M)) sm_a209_667 rfl rfl (st_iconst (by decide)) ?_
  refine ru_go (t := (669, [some (.inr r0), some (.inr r1), some (.inr r2), some (.inl x3)], [.inl (x3 + 1), .inr r0, .inr r2, .inl y0], M)) sm_a209_668 rfl rfl rfl ?_
  obtain ⟨b_1, hb_2, h⟩ := h
  rw [hb_2]
  obtain ⟨h_3, h⟩ := h
  obtain ⟨h_4, h⟩ := h
  refine ru_go (t := (670, [some (.inr (some b_1)), some (.inr r1), some (.inr r2), some (.inl x3)], [.inl (sm_I M b_1 (x3 + 1).toNatClampNeg), .inr r2, .inl y0], M)) sm_a209_669 rfl rfl (st_iald h_3 h_4) ?_
  obtain ⟨b_5, hb_6, h⟩ := h
  rw [hb_6]
  obtain ⟨h_7, h⟩ := h
  exact ru_call (p := 673) sm_a209_670 rfl (sc_virt (Or.inl rfl) rfl rfl h_7 (Nat.le_of_ble_eq_true rfl)) rfl h
theorem bb_209_673 {d : Nat} {M : sm_M} {Q : Option sm_V → sm_M → Prop} {r0 : Option Nat} {r1 : Option Nat} {r2 : Option Nat} {x3 : Int32} {y0 : Int32} {y1 : Int32}
    (h : ((y1 = y0 → sm_Run (d + 1) 209 28 [some (.inr r0), some (.inr r1), some (.inr r2), some (.inl (x3 + 6))] [] M Q) ∧ (¬ (y1 = y0) → Q (some (.inl 0)) M))) :
    sm_Run (d + 1) 209 673 [some (.inr r0), some (.inr r1), some (.inr r2), some (.inl x3)] [.inl y0, .inl y1] M Q := by
  refine ru_icmp (pc := 673) (p := 820) (p2 := 676) sm_a209_673 (by decide) rfl ⟨fun hc_1 => ?_, fun hc_1 => ?_⟩
  · have h := h.1 hc_1
    refine ru_go (t := (823, [some (.inr r0), some (.inr r1), some (.inr r2), some (.inl (x3 + 6))], [], M)) sm_a209_820 rfl rfl (st_iinc rfl (by decide)) ?_
    refine ru_go (t := (28, [some (.inr r0), some (.inr r1), some (.inr r2), some (.inl (x3 + 6))], [], M)) sm_a209_823 rfl rfl (st_goto (pc := 823) (by decide)) ?_
    exact h
  · have h := h.2 hc_1
    refine ru_go (t := (677, [some (.inr r0), some (.inr r1), some (.inr r2), some (.inl x3)], [.inl 0], M)) sm_a209_676 rfl rfl (st_iconst (by decide)) ?_
    exact ru_ret sm_a209_677 (sm_rvz rfl (by decide)) h
theorem bb_209_692 {d : Nat} {M : sm_M} {Q : Option sm_V → sm_M → Prop} {r0 : Option Nat} {r1 : Option Nat} {r2 : Option Nat} {x3 : Int32} {y0 : Int32}
    (h : ∃ b_1, r0 = some b_1 ∧ sm_iA M b_1 ∧ sm_in_ M b_1 (x3 + 1) ∧ sm_in_ M b_1 (x3 + 2) ∧ ∃ b_6, r2 = some b_6 ∧ sm_K M b_6 = 39 ∧ sm_Run d 204 0 (sm_ent 204 [.inr (some b_6), .inl (sm_I M b_1 (x3 + 1).toNatClampNeg), .inl (sm_I M b_1 (x3 + 2).toNatClampNeg)]) [] M (fun v M1 => sm_Run (d + 1) 209 706 [some (.inr (some b_1)), some (.inr r1), some (.inr (some b_6)), some (.inl x3)] (v.toList ++ [.inl y0]) M1 Q)) :
    sm_Run (d + 1) 209 692 [some (.inr r0), some (.inr r1), some (.inr r2), some (.inl x3)] [.inl y0] M Q := by
  refine ru_go (t := (693, [some (.inr r0), some (.inr r1), some (.inr r2), some (.inl x3)], [.inr r2, .inl y0], M)) sm_a209_692 rfl rfl rfl ?_
  refine ru_go (t := (694, [some (.inr r0), some (.inr r1), some (.inr r2), some (.inl x3)], [.inr r0, .inr r2, .inl y0], M)) sm_a209_693 rfl rfl rfl ?_
  refine ru_go (t := (695, [some (.inr r0), some (.inr r1), some (.inr r2), some (.inl x3)], [.inl x3, .inr r0, .inr r2, .inl y0], M)) sm_a209_694 rfl rfl rfl ?_
  refine ru_go (t := (696, [some (.inr r0), some (.inr r1), some (.inr r2), some (.inl x3)], [.inl 1, .inl x3, .inr r0, .inr r2, .inl y0], M)) sm_a209_695 rfl rfl (st_iconst (by decide)) ?_
  refine ru_go (t := (697, [some (.inr r0), some (.inr r1), some (.inr r2), some (.inl x3)], [.inl (x3 + 1), .inr r0, .inr r2, .inl y0], M)) sm_a209_696 rfl rfl rfl ?_
  obtain ⟨b_1, hb_2, h⟩ := h
  rw [hb_2]
  obtain ⟨h_3, h⟩ := h
  obtain ⟨h_4, h⟩ := h
  refine ru_go (t := (698, [some (.inr (some b_1)), some (.inr r1), some (.inr r2), some (.inl x3)], [.inl (sm_I M b_1 (x3 + 1).toNatClampNeg), .inr r2, .inl y0], M)) sm_a209_697 rfl rfl (st_iald h_3 h_4) ?_
  refine ru_go (t := (699, [some (.inr (some b_1)), some (.inr r1), some (.inr r2), some (.inl x3)], [.inr (some b_1), .inl (sm_I M b_1 (x3 + 1).toNatClampNeg), .inr r2, .inl y0], M)) sm_a209_698 rfl rfl rfl ?_
  refine ru_go (t := (700, [some (.inr (some b_1)), some (.inr r1), some (.inr r2), some (.inl x3)], [.inl x3, .inr (some b_1), .inl (sm_I M b_1 (x3 + 1).toNatClampNeg), .inr r2, .inl y0], M)) sm_a209_699 rfl rfl rfl ?_
  refine ru_go (t := (701, [some (.inr (some b_1)), some (.inr r1), some (.inr r2), some (.inl x3)], [.inl 2, .inl x3, .inr (some b_1), .inl (sm_I M b_1 (x3 + 1).toNatClampNeg), .inr r2, .inl y0], M)) sm_a209_700 rfl rfl (st_iconst (by decide)) ?_
  refine ru_go (t := (702, [some (.inr (some b_1)), some (.inr r1), some (.inr r2), some (.inl x3)], [.inl (x3 + 2), .inr (some b_1), .inl (sm_I M b_1 (x3 + 1).toNatClampNeg), .inr r2, .inl y0], M)) sm_a209_701 rfl rfl rfl ?_
  obtain ⟨h_5, h⟩ := h
  refine ru_go (t := (703, [some (.inr (some b_1)), some (.inr r1), some (.inr r2), some (.inl x3)], [.inl (sm_I M b_1 (x3 + 2).toNatClampNeg), .inl (sm_I M b_1 (x3 + 1).toNatClampNeg), .inr r2, .inl y0], M)) sm_a209_702 rfl rfl (st_iald h_3 h_5) ?_
  obtain ⟨b_6, hb_7, h⟩ := h
  rw [hb_7]
  obtain ⟨h_8, h⟩ := h
  exact ru_call (p := 706) sm_a209_703 rfl (sc_virt (Or.inl rfl) rfl rfl h_8 (Nat.le_of_ble_eq_true rfl)) rfl h
theorem bb_209_706 {d : Nat} {M : sm_M} {Q : Option sm_V → sm_M → Prop} {r0 : Option Nat} {r1 : Option Nat} {r2 : Option Nat} {x3 : Int32} {y0 : Int32} {y1 : Int32}
    (h : ((y1 = y0 → sm_Run (d + 1) 209 28 [some (.inr r0), some (.inr r1), some (.inr r2), some (.inl (x3 + 6))] [] M Q) ∧ (¬ (y1 = y0) → Q (some (.inl 0)) M))) :
    sm_Run (d + 1) 209 706 [some (.inr r0), some (.inr r1), some (.inr r2), some (.inl x3)] [.inl y0, .inl y1] M Q := by
  refine ru_icmp (pc := 706) (p := 820) (p2 := 709) sm_a209_706 (by decide) rfl ⟨fun hc_1 => ?_, fun hc_1 => ?_⟩
  · have h := h.1 hc_1
    refine ru_go (t := (823, [some (.inr r0), some (.inr r1), some (.inr r2), some (.inl (x3 + 6))], [], M)) sm_a209_820 rfl rfl (st_iinc rfl (by decide)) ?_
    refine ru_go (t := (28, [some (.inr r0), some (.inr r1), some (.inr r2), some (.inl (x3 + 6))], [], M)) sm_a209_823 rfl rfl (st_goto (pc := 823) (by decide)) ?_
    exact h
  · have h := h.2 hc_1
    refine ru_go (t := (710, [some (.inr r0), some (.inr r1), some (.inr r2), some (.inl x3)], [.inl 0], M)) sm_a209_709 rfl rfl (st_iconst (by decide)) ?_
    exact ru_ret sm_a209_710 (sm_rvz rfl (by decide)) h
theorem bb_209_725 {d : Nat} {M : sm_M} {Q : Option sm_V → sm_M → Prop} {r0 : Option Nat} {r1 : Option Nat} {r2 : Option Nat} {x3 : Int32} {y0 : Int32}
    (h : ∃ b_1, r0 = some b_1 ∧ sm_iA M b_1 ∧ sm_in_ M b_1 (x3 + 1) ∧ sm_in_ M b_1 (x3 + 2) ∧ ∃ b_6, r2 = some b_6 ∧ sm_K M b_6 = 39 ∧ sm_Run d 205 0 (sm_ent 205 [.inr (some b_6), .inl (sm_I M b_1 (x3 + 1).toNatClampNeg), .inl (sm_I M b_1 (x3 + 2).toNatClampNeg)]) [] M (fun v M1 => sm_Run (d + 1) 209 739 [some (.inr (some b_1)), some (.inr r1), some (.inr (some b_6)), some (.inl x3)] (v.toList ++ [.inl y0]) M1 Q)) :
    sm_Run (d + 1) 209 725 [some (.inr r0), some (.inr r1), some (.inr r2), some (.inl x3)] [.inl y0] M Q := by
  refine ru_go (t := (726, [some (.inr r0), some (.inr r1), some (.inr r2), some (.inl x3)], [.inr r2, .inl y0], M)) sm_a209_725 rfl rfl rfl ?_
  refine ru_go (t := (727, [some (.inr r0), some (.inr r1), some (.inr r2), some (.inl x3)], [.inr r0, .inr r2, .inl y0], M)) sm_a209_726 rfl rfl rfl ?_
  refine ru_go (t := (728, [some (.inr r0), some (.inr r1), some (.inr r2), some (.inl x3)], [.inl x3, .inr r0, .inr r2, .inl y0], M)) sm_a209_727 rfl rfl rfl ?_
  refine ru_go (t := (729, [some (.inr r0), some (.inr r1), some (.inr r2), some (.inl x3)], [.inl 1, .inl x3, .inr r0, .inr r2, .inl y0], M)) sm_a209_728 rfl rfl (st_iconst (by decide)) ?_
  refine ru_go (t := (730, [some (.inr r0), some (.inr r1), some (.inr r2), some (.inl x3)], [.inl (x3 + 1), .inr r0, .inr r2, .inl y0], M)) sm_a209_729 rfl rfl rfl ?_
  obtain ⟨b_1, hb_2, h⟩ := h
  rw [hb_2]
  obtain ⟨h_3, h⟩ := h
  obtain ⟨h_4, h⟩ := h
  refine ru_go (t := (731, [some (.inr (some b_1)), some (.inr r1), some (.inr r2), some (.inl x3)], [.inl (sm_I M b_1 (x3 + 1).toNatClampNeg), .inr r2, .inl y0], M)) sm_a209_730 rfl rfl (st_iald h_3 h_4) ?_
  refine ru_go (t := (732, [some (.inr (some b_1)), some (.inr r1), some (.inr r2), some (.inl x3)], [.inr (some b_1), .inl (sm_I M b_1 (x3 + 1).toNatClampNeg), .inr r2, .inl y0], M)) sm_a209_731 rfl rfl rfl ?_
  refine ru_go (t := (733, [some (.inr (some b_1)), some (.inr r1), some (.inr r2), some (.inl x3)], [.inl x3, .inr (some b_1), .inl (sm_I M b_1 (x3 + 1).toNatClampNeg), .inr r2, .inl y0], M)) sm_a209_732 rfl rfl rfl ?_
  refine ru_go (t := (734, [some (.inr (some b_1)), some (.inr r1), some (.inr r2), some (.inl x3)], [.inl 2, .inl x3, .inr (some b_1), .inl (sm_I M b_1 (x3 + 1).toNatClampNeg), .inr r2, .inl y0], M)) sm_a209_733 rfl rfl (st_iconst (by decide)) ?_
  refine ru_go (t := (735, [some (.inr (some b_1)), some (.inr r1), some (.inr r2), some (.inl x3)], [.inl (x3 + 2), .inr (some b_1), .inl (sm_I M b_1 (x3 + 1).toNatClampNeg), .inr r2, .inl y0], M)) sm_a209_734 rfl rfl rfl ?_
  obtain ⟨h_5, h⟩ := h
  refine ru_go (t := (736, [some (.inr (some b_1)), some (.inr r1), some (.inr r2), some (.inl x3)], [.inl (sm_I M b_1 (x3 + 2).toNatClampNeg), .inl (sm_I M b_1 (x3 + 1).toNatClampNeg), .inr r2, .inl y0], M)) sm_a209_735 rfl rfl (st_iald h_3 h_5) ?_
  obtain ⟨b_6, hb_7, h⟩ := h
  rw [hb_7]
  obtain ⟨h_8, h⟩ := h
  exact ru_call (p := 739) sm_a209_736 rfl (sc_virt (Or.inl rfl) rfl rfl h_8 (Nat.le_of_ble_eq_true rfl)) rfl h
theorem bb_209_739 {d : Nat} {M : sm_M} {Q : Option sm_V → sm_M → Prop} {r0 : Option Nat} {r1 : Option Nat} {r2 : Option Nat} {x3 : Int32} {y0 : Int32} {y1 : Int32}
    (h : ((y1 = y0 → sm_Run (d + 1) 209 28 [some (.inr r0), some (.inr r1), some (.inr r2), some (.inl (x3 + 6))] [] M Q) ∧ (¬ (y1 = y0) → Q (some (.inl 0)) M))) :
    sm_Run (d + 1) 209 739 [some (.inr r0), some (.inr r1), some (.inr r2), some (.inl x3)] [.inl y0, .inl y1] M Q := by
  refine ru_icmp (pc := 739) (p := 820) (p2 := 742) sm_a209_739 (by decide) rfl ⟨fun hc_1 => ?_, fun hc_1 => ?_⟩
  · have h := h.1 hc_1
    refine ru_go (t := (823, [some (.inr r0), some (.inr r1), some (.inr r2), some (.inl (x3 + 6))], [], M)) sm_a209_820 rfl rfl (st_iinc rfl (by decide)) ?_
    refine ru_go (t := (28, [some (.inr r0), some (.inr r1), some (.inr r2), some (.inl (x3 + 6))], [], M)) sm_a209_823 rfl rfl (st_goto (pc := 823) (by decide)) ?_
    exact h
  · have h := h.2 hc_1
    refine ru_go (t := (743, [some (.inr r0), some (.inr r1), some (.inr r2), some (.inl x3)], [.inl 0], M)) sm_a209_742 rfl rfl (st_iconst (by decide)) ?_
    exact ru_ret sm_a209_743 (sm_rvz rfl (by decide)) h
theorem bb_209_763 {d : Nat} {M : sm_M} {Q : Option sm_V → sm_M → Prop} {r0 : Option Nat} {r1 : Option Nat} {r2 : Option Nat} {x3 : Int32} {y0 : Int32}
    (h : ∃ b_1, r0 = some b_1 ∧ sm_iA M b_1 ∧ sm_in_ M b_1 (x3 + 1) ∧ sm_in_ M b_1 (x3 + 2) ∧ sm_in_ M b_1 (x3 + 3) ∧ ∃ b_7, r2 = some b_7 ∧ sm_K M b_7 = 39 ∧ sm_Run d 206 0 (sm_ent 206 [.inr (some b_7), .inl (sm_I M b_1 (x3 + 1).toNatClampNeg), .inl (sm_I M b_1 (x3 + 2).toNatClampNeg), .inl (sm_I M b_1 (x3 + 3).toNatClampNeg)]) [] M (fun v M1 => sm_Run (d + 1) 209 782 [some (.inr (some b_1)), some (.inr r1), some (.inr (some b_7)), some (.inl x3)] (v.toList ++ [.inl y0]) M1 Q)) :
    sm_Run (d + 1) 209 763 [some (.inr r0), some (.inr r1), some (.inr r2), some (.inl x3)] [.inl y0] M Q := by
  refine ru_go (t := (764, [some (.inr r0), some (.inr r1), some (.inr r2), some (.inl x3)], [.inr r2, .inl y0], M)) sm_a209_763 rfl rfl rfl ?_
  refine ru_go (t := (765, [some (.inr r0), some (.inr r1), some (.inr r2), some (.inl x3)], [.inr r0, .inr r2, .inl y0], M)) sm_a209_764 rfl rfl rfl ?_
  refine ru_go (t := (766, [some (.inr r0), some (.inr r1), some (.inr r2), some (.inl x3)], [.inl x3, .inr r0, .inr r2, .inl y0], M)) sm_a209_765 rfl rfl rfl ?_
  refine ru_go (t := (767, [some (.inr r0), some (.inr r1), some (.inr r2), some (.inl x3)], [.inl 1, .inl x3, .inr r0, .inr r2, .inl y0], M)) sm_a209_766 rfl rfl (st_iconst (by decide)) ?_
  refine ru_go (t := (768, [some (.inr r0), some (.inr r1), some (.inr r2), some (.inl x3)], [.inl (x3 + 1), .inr r0, .inr r2, .inl y0], M)) sm_a209_767 rfl rfl rfl ?_
  obtain ⟨b_1, hb_2, h⟩ := h
  rw [hb_2]
  obtain ⟨h_3, h⟩ := h
  obtain ⟨h_4, h⟩ := h
  refine ru_go (t := (769, [some (.inr (some b_1)), some (.inr r1), some (.inr r2), some (.inl x3)], [.inl (sm_I M b_1 (x3 + 1).toNatClampNeg), .inr r2, .inl y0], M)) sm_a209_768 rfl rfl (st_iald h_3 h_4) ?_
  refine ru_go (t := (770, [some (.inr (some b_1)), some (.inr r1), some (.inr r2), some (.inl x3)], [.inr (some b_1), .inl (sm_I M b_1 (x3 + 1).toNatClampNeg), .inr r2, .inl y0], M)) sm_a209_769 rfl rfl rfl ?_
  refine ru_go (t := (771, [some (.inr (some b_1)), some (.inr r1), some (.inr r2), some (.inl x3)], [.inl x3, .inr (some b_1), .inl (sm_I M b_1 (x3 + 1).toNatClampNeg), .inr r2, .inl y0], M)) sm_a209_770 rfl rfl rfl ?_
  refine ru_go (t := (772, [some (.inr (some b_1)), some (.inr r1), some (.inr r2), some (.inl x3)], [.inl 2, .inl x3, .inr (some b_1), .inl (sm_I M b_1 (x3 + 1).toNatClampNeg), .inr r2, .inl y0], M)) sm_a209_771 rfl rfl (st_iconst (by decide)) ?_
  refine ru_go (t := (773, [some (.inr (some b_1)), some (.inr r1), some (.inr r2), some (.inl x3)], [.inl (x3 + 2), .inr (some b_1), .inl (sm_I M b_1 (x3 + 1).toNatClampNeg), .inr r2, .inl y0], M)) sm_a209_772 rfl rfl rfl ?_
  obtain ⟨h_5, h⟩ := h
  refine ru_go (t := (774, [some (.inr (some b_1)), some (.inr r1), some (.inr r2), some (.inl x3)], [.inl (sm_I M b_1 (x3 + 2).toNatClampNeg), .inl (sm_I M b_1 (x3 + 1).toNatClampNeg), .inr r2, .inl y0], M)) sm_a209_773 rfl rfl (st_iald h_3 h_5) ?_
  refine ru_go (t := (775, [some (.inr (some b_1)), some (.inr r1), some (.inr r2), some (.inl x3)], [.inr (some b_1), .inl (sm_I M b_1 (x3 + 2).toNatClampNeg), .inl (sm_I M b_1 (x3 + 1).toNatClampNeg), .inr r2, .inl y0], M)) sm_a209_774 rfl rfl rfl ?_
  refine ru_go (t := (776, [some (.inr (some b_1)), some (.inr r1), some (.inr r2), some (.inl x3)], [.inl x3, .inr (some b_1), .inl (sm_I M b_1 (x3 + 2).toNatClampNeg), .inl (sm_I M b_1 (x3 + 1).toNatClampNeg), .inr r2, .inl y0], M)) sm_a209_775 rfl rfl rfl ?_
  refine ru_go (t := (777, [some (.inr (some b_1)), some (.inr r1), some (.inr r2), some (.inl x3)], [.inl 3, .inl x3, .inr (some b_1), .inl (sm_I M b_1 (x3 + 2).toNatClampNeg), .inl (sm_I M b_1 (x3 + 1).toNatClampNeg), .inr r2, .inl y0], M)) sm_a209_776 rfl rfl (st_iconst (by decide)) ?_
  refine ru_go (t := (778, [some (.inr (some b_1)), some (.inr r1), some (.inr r2), some (.inl x3)], [.inl (x3 + 3), .inr (some b_1), .inl (sm_I M b_1 (x3 + 2).toNatClampNeg), .inl (sm_I M b_1 (x3 + 1).toNatClampNeg), .inr r2, .inl y0], M)) sm_a209_777 rfl rfl rfl ?_
  obtain ⟨h_6, h⟩ := h
  refine ru_go (t := (779, [some (.inr (some b_1)), some (.inr r1), some (.inr r2), some (.inl x3)], [.inl (sm_I M b_1 (x3 + 3).toNatClampNeg), .inl (sm_I M b_1 (x3 + 2).toNatClampNeg), .inl (sm_I M b_1 (x3 + 1).toNatClampNeg), .inr r2, .inl y0], M)) sm_a209_778 rfl rfl (st_iald h_3 h_6) ?_
  obtain ⟨b_7, hb_8, h⟩ := h
  rw [hb_8]
  obtain ⟨h_9, h⟩ := h
  exact ru_call (p := 782) sm_a209_779 rfl (sc_virt (Or.inl rfl) rfl rfl h_9 (Nat.le_of_ble_eq_true rfl)) rfl h
theorem bb_209_782 {d : Nat} {M : sm_M} {Q : Option sm_V → sm_M → Prop} {r0 : Option Nat} {r1 : Option Nat} {r2 : Option Nat} {x3 : Int32} {y0 : Int32} {y1 : Int32}
    (h : ((y1 = y0 → sm_Run (d + 1) 209 28 [some (.inr r0), some (.inr r1), some (.inr r2), some (.inl (x3 + 6))] [] M Q) ∧ (¬ (y1 = y0) → Q (some (.inl 0)) M))) :
    sm_Run (d + 1) 209 782 [some (.inr r0), some (.inr r1), some (.inr r2), some (.inl x3)] [.inl y0, .inl y1] M Q := by
  refine ru_icmp (pc := 782) (p := 820) (p2 := 785) sm_a209_782 (by decide) rfl ⟨fun hc_1 => ?_, fun hc_1 => ?_⟩
  · have h := h.1 hc_1
    refine ru_go (t := (823, [some (.inr r0), some (.inr r1), some (.inr r2), some (.inl (x3 + 6))], [], M)) sm_a209_820 rfl rfl (st_iinc rfl (by decide)) ?_
    refine ru_go (t := (28, [some (.inr r0), some (.inr r1), some (.inr r2), some (.inl (x3 + 6))], [], M)) sm_a209_823 rfl rfl (st_goto (pc := 823) (by decide)) ?_
    exact h
  · have h := h.2 hc_1
    refine ru_go (t := (786, [some (.inr r0), some (.inr r1), some (.inr r2), some (.inl x3)], [.inl 0], M)) sm_a209_785 rfl rfl (st_iconst (by decide)) ?_
    exact ru_ret sm_a209_786 (sm_rvz rfl (by decide)) h
theorem bb_209_801 {d : Nat} {M : sm_M} {Q : Option sm_V → sm_M → Prop} {r0 : Option Nat} {r1 : Option Nat} {r2 : Option Nat} {x3 : Int32} {y0 : Int32}
    (h : ∃ b_1, r0 = some b_1 ∧ sm_iA M b_1 ∧ sm_in_ M b_1 (x3 + 1) ∧ sm_in_ M b_1 (x3 + 2) ∧ ∃ b_6, r2 = some b_6 ∧ sm_K M b_6 = 39 ∧ sm_Run d 207 0 (sm_ent 207 [.inr (some b_6), .inl (sm_I M b_1 (x3 + 1).toNatClampNeg), .inl (sm_I M b_1 (x3 + 2).toNatClampNeg)]) [] M (fun v M1 => sm_Run (d + 1) 209 815 [some (.inr (some b_1)), some (.inr r1), some (.inr (some b_6)), some (.inl x3)] (v.toList ++ [.inl y0]) M1 Q)) :
    sm_Run (d + 1) 209 801 [some (.inr r0), some (.inr r1), some (.inr r2), some (.inl x3)] [.inl y0] M Q := by
  refine ru_go (t := (802, [some (.inr r0), some (.inr r1), some (.inr r2), some (.inl x3)], [.inr r2, .inl y0], M)) sm_a209_801 rfl rfl rfl ?_
  refine ru_go (t := (803, [some (.inr r0), some (.inr r1), some (.inr r2), some (.inl x3)], [.inr r0, .inr r2, .inl y0], M)) sm_a209_802 rfl rfl rfl ?_
  refine ru_go (t := (804, [some (.inr r0), some (.inr r1), some (.inr r2), some (.inl x3)], [.inl x3, .inr r0, .inr r2, .inl y0], M)) sm_a209_803 rfl rfl rfl ?_
  refine ru_go (t := (805, [some (.inr r0), some (.inr r1), some (.inr r2), some (.inl x3)], [.inl 1, .inl x3, .inr r0, .inr r2, .inl y0], M)) sm_a209_804 rfl rfl (st_iconst (by decide)) ?_
  refine ru_go (t := (806, [some (.inr r0), some (.inr r1), some (.inr r2), some (.inl x3)], [.inl (x3 + 1), .inr r0, .inr r2, .inl y0], M)) sm_a209_805 rfl rfl rfl ?_
  obtain ⟨b_1, hb_2, h⟩ := h
  rw [hb_2]
  obtain ⟨h_3, h⟩ := h
  obtain ⟨h_4, h⟩ := h
  refine ru_go (t := (807, [some (.inr (some b_1)), some (.inr r1), some (.inr r2), some (.inl x3)], [.inl (sm_I M b_1 (x3 + 1).toNatClampNeg), .inr r2, .inl y0], M)) sm_a209_806 rfl rfl (st_iald h_3 h_4) ?_
  refine ru_go (t := (808, [some (.inr (some b_1)), some (.inr r1), some (.inr r2), some (.inl x3)], [.inr (some b_1), .inl (sm_I M b_1 (x3 + 1).toNatClampNeg), .inr r2, .inl y0], M)) sm_a209_807 rfl rfl rfl ?_
  refine ru_go (t := (809, [some (.inr (some b_1)), some (.inr r1), some (.inr r2), some (.inl x3)], [.inl x3, .inr (some b_1), .inl (sm_I M b_1 (x3 + 1).toNatClampNeg), .inr r2, .inl y0], M)) sm_a209_808 rfl rfl rfl ?_
  refine ru_go (t := (810, [some (.inr (some b_1)), some (.inr r1), some (.inr r2), some (.inl x3)], [.inl 2, .inl x3, .inr (some b_1), .inl (sm_I M b_1 (x3 + 1).toNatClampNeg), .inr r2, .inl y0], M)) sm_a209_809 rfl rfl (st_iconst (by decide)) ?_
  refine ru_go (t := (811, [some (.inr (some b_1)), some (.inr r1), some (.inr r2), some (.inl x3)], [.inl (x3 + 2), .inr (some b_1), .inl (sm_I M b_1 (x3 + 1).toNatClampNeg), .inr r2, .inl y0], M)) sm_a209_810 rfl rfl rfl ?_
  obtain ⟨h_5, h⟩ := h
  refine ru_go (t := (812, [some (.inr (some b_1)), some (.inr r1), some (.inr r2), some (.inl x3)], [.inl (sm_I M b_1 (x3 + 2).toNatClampNeg), .inl (sm_I M b_1 (x3 + 1).toNatClampNeg), .inr r2, .inl y0], M)) sm_a209_811 rfl rfl (st_iald h_3 h_5) ?_
  obtain ⟨b_6, hb_7, h⟩ := h
  rw [hb_7]
  obtain ⟨h_8, h⟩ := h
  exact ru_call (p := 815) sm_a209_812 rfl (sc_virt (Or.inl rfl) rfl rfl h_8 (Nat.le_of_ble_eq_true rfl)) rfl h
theorem bb_209_815 {d : Nat} {M : sm_M} {Q : Option sm_V → sm_M → Prop} {r0 : Option Nat} {r1 : Option Nat} {r2 : Option Nat} {x3 : Int32} {y0 : Int32} {y1 : Int32}
    (h : ((y1 = y0 → sm_Run (d + 1) 209 28 [some (.inr r0), some (.inr r1), some (.inr r2), some (.inl (x3 + 6))] [] M Q) ∧ (¬ (y1 = y0) → Q (some (.inl 0)) M))) :
    sm_Run (d + 1) 209 815 [some (.inr r0), some (.inr r1), some (.inr r2), some (.inl x3)] [.inl y0, .inl y1] M Q := by
  refine ru_icmp (pc := 815) (p := 820) (p2 := 818) sm_a209_815 (by decide) rfl ⟨fun hc_1 => ?_, fun hc_1 => ?_⟩
  · have h := h.1 hc_1
    refine ru_go (t := (823, [some (.inr r0), some (.inr r1), some (.inr r2), some (.inl (x3 + 6))], [], M)) sm_a209_820 rfl rfl (st_iinc rfl (by decide)) ?_
    refine ru_go (t := (28, [some (.inr r0), some (.inr r1), some (.inr r2), some (.inl (x3 + 6))], [], M)) sm_a209_823 rfl rfl (st_goto (pc := 823) (by decide)) ?_
    exact h
  · have h := h.2 hc_1
    refine ru_go (t := (819, [some (.inr r0), some (.inr r1), some (.inr r2), some (.inl x3)], [.inl 0], M)) sm_a209_818 rfl rfl (st_iconst (by decide)) ?_
    exact ru_ret sm_a209_819 (sm_rvz rfl (by decide)) h
