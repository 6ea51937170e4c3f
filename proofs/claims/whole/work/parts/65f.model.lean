/-! WireBusModel.found:(II)V -/
theorem sm_a190_0 : sm_at 190 0 = some (.aload_n 0, 1, (0, 0, 0, 0)) := by decide +kernel
theorem sm_a190_1 : sm_at 190 1 = some (.getfield 158, 3, (12, 60, 0, 1243)) := by decide +kernel
theorem sm_a190_4 : sm_at 190 4 = some (.iload_n 2, 1, (0, 0, 0, 0)) := by decide +kernel
theorem sm_a190_5 : sm_at 190 5 = some (.iaload, 1, (0, 0, 0, 0)) := by decide +kernel
theorem sm_a190_6 : sm_at 190 6 = some (.istore_n 3, 1, (0, 0, 0, 0)) := by decide +kernel
theorem sm_a190_7 : sm_at 190 7 = some (.aload_n 0, 1, (0, 0, 0, 0)) := by decide +kernel
theorem sm_a190_8 : sm_at 190 8 = some (.getfield 191, 3, (12, 73, 0, 1256)) := by decide +kernel
theorem sm_a190_11 : sm_at 190 11 = some (.iload_n 1, 1, (0, 0, 0, 0)) := by decide +kernel
theorem sm_a190_12 : sm_at 190 12 = some (.iaload, 1, (0, 0, 0, 0)) := by decide +kernel
theorem sm_a190_13 : sm_at 190 13 = some (.iconst 1, 1, (0, 0, 0, 0)) := by decide +kernel
theorem sm_a190_14 : sm_at 190 14 = some (.if_icmp .ne 22, 3, (0, 0, 0, 0)) := by decide +kernel
theorem sm_a190_17 : sm_at 190 17 = some (.aload_n 0, 1, (0, 0, 0, 0)) := by decide +kernel
theorem sm_a190_18 : sm_at 190 18 = some (.getfield 194, 3, (12, 74, 0, 1257)) := by decide +kernel
theorem sm_a190_21 : sm_at 190 21 = some (.iload_n 1, 1, (0, 0, 0, 0)) := by decide +kernel
theorem sm_a190_22 : sm_at 190 22 = some (.iaload, 1, (0, 0, 0, 0)) := by decide +kernel
theorem sm_a190_23 : sm_at 190 23 = some (.aload_n 0, 1, (0, 0, 0, 0)) := by decide +kernel
theorem sm_a190_24 : sm_at 190 24 = some (.getfield 197, 3, (12, 75, 0, 1258)) := by decide +kernel
theorem sm_a190_27 : sm_at 190 27 = some (.iload_n 1, 1, (0, 0, 0, 0)) := by decide +kernel
theorem sm_a190_28 : sm_at 190 28 = some (.iaload, 1, (0, 0, 0, 0)) := by decide +kernel
theorem sm_a190_29 : sm_at 190 29 = some (.if_icmp .ne 7, 3, (0, 0, 0, 0)) := by decide +kernel
theorem sm_a190_32 : sm_at 190 32 = some (.iconst 1, 1, (0, 0, 0, 0)) := by decide +kernel
theorem sm_a190_33 : sm_at 190 33 = some (.goto 4, 3, (0, 0, 0, 0)) := by decide +kernel
theorem sm_a190_36 : sm_at 190 36 = some (.iconst 0, 1, (0, 0, 0, 0)) := by decide +kernel
theorem sm_a190_37 : sm_at 190 37 = some (.istore 4, 2, (0, 0, 0, 0)) := by decide +kernel
theorem sm_a190_39 : sm_at 190 39 = some (.bipush 100, 2, (0, 0, 0, 0)) := by decide +kernel
theorem sm_a190_41 : sm_at 190 41 = some (.iload_n 1, 1, (0, 0, 0, 0)) := by decide +kernel
theorem sm_a190_42 : sm_at 190 42 = some (.imul, 1, (0, 0, 0, 0)) := by decide +kernel
theorem sm_a190_43 : sm_at 190 43 = some (.istore 5, 2, (0, 0, 0, 0)) := by decide +kernel
theorem sm_a190_45 : sm_at 190 45 = some (.iload 4, 2, (0, 0, 0, 0)) := by decide +kernel
theorem sm_a190_47 : sm_at 190 47 = some (.ifCond .eq 79, 3, (0, 0, 0, 0)) := by decide +kernel
theorem sm_a190_50 : sm_at 190 50 = some (.iload_n 3, 1, (0, 0, 0, 0)) := by decide +kernel
theorem sm_a190_51 : sm_at 190 51 = some (.ifCond .ne 75, 3, (0, 0, 0, 0)) := by decide +kernel
theorem sm_a190_54 : sm_at 190 54 = some (.aload_n 0, 1, (0, 0, 0, 0)) := by decide +kernel
theorem sm_a190_55 : sm_at 190 55 = some (.getfield 216, 3, (12, 81, 0, 1264)) := by decide +kernel
theorem sm_a190_58 : sm_at 190 58 = some (.iload 5, 2, (0, 0, 0, 0)) := by decide +kernel
theorem sm_a190_60 : sm_at 190 60 = some (.bipush 7, 2, (0, 0, 0, 0)) := by decide +kernel
theorem sm_a190_62 : sm_at 190 62 = some (.iadd, 1, (0, 0, 0, 0)) := by decide +kernel
theorem sm_a190_63 : sm_at 190 63 = some (.iaload, 1, (0, 0, 0, 0)) := by decide +kernel
theorem sm_a190_64 : sm_at 190 64 = some (.istore 6, 2, (0, 0, 0, 0)) := by decide +kernel
theorem sm_a190_66 : sm_at 190 66 = some (.iload 6, 2, (0, 0, 0, 0)) := by decide +kernel
theorem sm_a190_68 : sm_at 190 68 = some (.bipush 8, 2, (0, 0, 0, 0)) := by decide +kernel
theorem sm_a190_70 : sm_at 190 70 = some (.if_icmp .eq 24, 3, (0, 0, 0, 0)) := by decide +kernel
theorem sm_a190_73 : sm_at 190 73 = some (.iload 6, 2, (0, 0, 0, 0)) := by decide +kernel
theorem sm_a190_75 : sm_at 190 75 = some (.bipush 16, 2, (0, 0, 0, 0)) := by decide +kernel
theorem sm_a190_77 : sm_at 190 77 = some (.if_icmp .eq 17, 3, (0, 0, 0, 0)) := by decide +kernel
theorem sm_a190_80 : sm_at 190 80 = some (.iload 6, 2, (0, 0, 0, 0)) := by decide +kernel
theorem sm_a190_82 : sm_at 190 82 = some (.bipush 32, 2, (0, 0, 0, 0)) := by decide +kernel
theorem sm_a190_84 : sm_at 190 84 = some (.if_icmp .eq 10, 3, (0, 0, 0, 0)) := by decide +kernel
theorem sm_a190_87 : sm_at 190 87 = some (.iload 6, 2, (0, 0, 0, 0)) := by decide +kernel
theorem sm_a190_89 : sm_at 190 89 = some (.bipush 64, 2, (0, 0, 0, 0)) := by decide +kernel
theorem sm_a190_91 : sm_at 190 91 = some (.if_icmp .ne 7, 3, (0, 0, 0, 0)) := by decide +kernel
theorem sm_a190_94 : sm_at 190 94 = some (.iconst 1, 1, (0, 0, 0, 0)) := by decide +kernel
theorem sm_a190_95 : sm_at 190 95 = some (.goto 4, 3, (0, 0, 0, 0)) := by decide +kernel
theorem sm_a190_98 : sm_at 190 98 = some (.iconst 0, 1, (0, 0, 0, 0)) := by decide +kernel
theorem sm_a190_99 : sm_at 190 99 = some (.istore 4, 2, (0, 0, 0, 0)) := by decide +kernel
theorem sm_a190_101 : sm_at 190 101 = some (.aload_n 0, 1, (0, 0, 0, 0)) := by decide +kernel
theorem sm_a190_102 : sm_at 190 102 = some (.getfield 152, 3, (12, 58, 0, 1241)) := by decide +kernel
theorem sm_a190_105 : sm_at 190 105 = some (.iload_n 2, 1, (0, 0, 0, 0)) := by decide +kernel
theorem sm_a190_106 : sm_at 190 106 = some (.iload 4, 2, (0, 0, 0, 0)) := by decide +kernel
theorem sm_a190_108 : sm_at 190 108 = some (.ifCond .eq 8, 3, (0, 0, 0, 0)) := by decide +kernel
theorem sm_a190_111 : sm_at 190 111 = some (.iload 6, 2, (0, 0, 0, 0)) := by decide +kernel
theorem sm_a190_113 : sm_at 190 113 = some (.goto 9, 3, (0, 0, 0, 0)) := by decide +kernel
theorem sm_a190_116 : sm_at 190 116 = some (.aload_n 0, 1, (0, 0, 0, 0)) := by decide +kernel
theorem sm_a190_117 : sm_at 190 117 = some (.getfield 152, 3, (12, 58, 0, 1241)) := by decide +kernel
theorem sm_a190_120 : sm_at 190 120 = some (.iload_n 2, 1, (0, 0, 0, 0)) := by decide +kernel
theorem sm_a190_121 : sm_at 190 121 = some (.iaload, 1, (0, 0, 0, 0)) := by decide +kernel
theorem sm_a190_122 : sm_at 190 122 = some (.iastore, 1, (1, 0, 0, 0)) := by decide +kernel
theorem sm_a190_123 : sm_at 190 123 = some (.goto 148, 3, (0, 0, 0, 0)) := by decide +kernel
theorem sm_a190_126 : sm_at 190 126 = some (.iload 4, 2, (0, 0, 0, 0)) := by decide +kernel
theorem sm_a190_128 : sm_at 190 128 = some (.ifCond .eq 20, 3, (0, 0, 0, 0)) := by decide +kernel
theorem sm_a190_131 : sm_at 190 131 = some (.iload_n 3, 1, (0, 0, 0, 0)) := by decide +kernel
theorem sm_a190_132 : sm_at 190 132 = some (.iconst 1, 1, (0, 0, 0, 0)) := by decide +kernel
theorem sm_a190_133 : sm_at 190 133 = some (.if_icmp .ne 15, 3, (0, 0, 0, 0)) := by decide +kernel
theorem sm_a190_136 : sm_at 190 136 = some (.aload_n 0, 1, (0, 0, 0, 0)) := by decide +kernel
theorem sm_a190_137 : sm_at 190 137 = some (.getfield 155, 3, (12, 59, 0, 1242)) := by decide +kernel
theorem sm_a190_140 : sm_at 190 140 = some (.iload_n 2, 1, (0, 0, 0, 0)) := by decide +kernel
theorem sm_a190_141 : sm_at 190 141 = some (.iload_n 2, 1, (0, 0, 0, 0)) := by decide +kernel
theorem sm_a190_142 : sm_at 190 142 = some (.iconst 1, 1, (0, 0, 0, 0)) := by decide +kernel
theorem sm_a190_143 : sm_at 190 143 = some (.iadd, 1, (0, 0, 0, 0)) := by decide +kernel
theorem sm_a190_144 : sm_at 190 144 = some (.iastore, 1, (1, 0, 0, 0)) := by decide +kernel
theorem sm_a190_145 : sm_at 190 145 = some (.goto 126, 3, (0, 0, 0, 0)) := by decide +kernel
theorem sm_a190_148 : sm_at 190 148 = some (.iload 4, 2, (0, 0, 0, 0)) := by decide +kernel
theorem sm_a190_150 : sm_at 190 150 = some (.ifCond .eq 69, 3, (0, 0, 0, 0)) := by decide +kernel
theorem sm_a190_153 : sm_at 190 153 = some (.iload_n 3, 1, (0, 0, 0, 0)) := by decide +kernel
theorem sm_a190_154 : sm_at 190 154 = some (.iconst 3, 1, (0, 0, 0, 0)) := by decide +kernel
theorem sm_a190_155 : sm_at 190 155 = some (.if_icmp .ne 64, 3, (0, 0, 0, 0)) := by decide +kernel
theorem sm_a190_158 : sm_at 190 158 = some (.aload_n 0, 1, (0, 0, 0, 0)) := by decide +kernel
theorem sm_a190_159 : sm_at 190 159 = some (.getfield 222, 3, (12, 85, 0, 1268)) := by decide +kernel
theorem sm_a190_162 : sm_at 190 162 = some (.iload_n 2, 1, (0, 0, 0, 0)) := by decide +kernel
theorem sm_a190_163 : sm_at 190 163 = some (.aload_n 0, 1, (0, 0, 0, 0)) := by decide +kernel
theorem sm_a190_164 : sm_at 190 164 = some (.getfield 216, 3, (12, 81, 0, 1264)) := by decide +kernel
theorem sm_a190_167 : sm_at 190 167 = some (.iload 5, 2, (0, 0, 0, 0)) := by decide +kernel
theorem sm_a190_169 : sm_at 190 169 = some (.iconst 2, 1, (0, 0, 0, 0)) := by decide +kernel
theorem sm_a190_170 : sm_at 190 170 = some (.iadd, 1, (0, 0, 0, 0)) := by decide +kernel
theorem sm_a190_171 : sm_at 190 171 = some (.iaload, 1, (0, 0, 0, 0)) := by decide +kernel
theorem sm_a190_172 : sm_at 190 172 = some (.sipush 256, 3, (0, 0, 0, 0)) := by decide +kernel
theorem sm_a190_175 : sm_at 190 175 = some (.aload_n 0, 1, (0, 0, 0, 0)) := by decide +kernel
theorem sm_a190_176 : sm_at 190 176 = some (.getfield 216, 3, (12, 81, 0, 1264)) := by decide +kernel
theorem sm_a190_179 : sm_at 190 179 = some (.iload 5, 2, (0, 0, 0, 0)) := by decide +kernel
theorem sm_a190_181 : sm_at 190 181 = some (.iconst 3, 1, (0, 0, 0, 0)) := by decide +kernel
theorem sm_a190_182 : sm_at 190 182 = some (.iadd, 1, (0, 0, 0, 0)) := by decide +kernel
theorem sm_a190_183 : sm_at 190 183 = some (.iaload, 1, (0, 0, 0, 0)) := by decide +kernel
theorem sm_a190_184 : sm_at 190 184 = some (.imul, 1, (0, 0, 0, 0)) := by decide +kernel
theorem sm_a190_185 : sm_at 190 185 = some (.iadd, 1, (0, 0, 0, 0)) := by decide +kernel
theorem sm_a190_186 : sm_at 190 186 = some (.iastore, 1, (1, 0, 0, 0)) := by decide +kernel
theorem sm_a190_187 : sm_at 190 187 = some (.aload_n 0, 1, (0, 0, 0, 0)) := by decide +kernel
theorem sm_a190_188 : sm_at 190 188 = some (.getfield 222, 3, (12, 85, 0, 1268)) := by decide +kernel
theorem sm_a190_191 : sm_at 190 191 = some (.iload_n 2, 1, (0, 0, 0, 0)) := by decide +kernel
theorem sm_a190_192 : sm_at 190 192 = some (.iaload, 1, (0, 0, 0, 0)) := by decide +kernel
theorem sm_a190_193 : sm_at 190 193 = some (.bipush 18, 2, (0, 0, 0, 0)) := by decide +kernel
theorem sm_a190_195 : sm_at 190 195 = some (.if_icmp .lt 18, 3, (0, 0, 0, 0)) := by decide +kernel
theorem sm_a190_198 : sm_at 190 198 = some (.aload_n 0, 1, (0, 0, 0, 0)) := by decide +kernel
theorem sm_a190_199 : sm_at 190 199 = some (.getfield 222, 3, (12, 85, 0, 1268)) := by decide +kernel
theorem sm_a190_202 : sm_at 190 202 = some (.iload_n 2, 1, (0, 0, 0, 0)) := by decide +kernel
theorem sm_a190_203 : sm_at 190 203 = some (.iaload, 1, (0, 0, 0, 0)) := by decide +kernel
theorem sm_a190_204 : sm_at 190 204 = some (.bipush 60, 2, (0, 0, 0, 0)) := by decide +kernel
theorem sm_a190_206 : sm_at 190 206 = some (.if_icmp .gt 7, 3, (0, 0, 0, 0)) := by decide +kernel
theorem sm_a190_209 : sm_at 190 209 = some (.iconst 1, 1, (0, 0, 0, 0)) := by decide +kernel
theorem sm_a190_210 : sm_at 190 210 = some (.goto 4, 3, (0, 0, 0, 0)) := by decide +kernel
theorem sm_a190_213 : sm_at 190 213 = some (.iconst 0, 1, (0, 0, 0, 0)) := by decide +kernel
theorem sm_a190_214 : sm_at 190 214 = some (.istore 4, 2, (0, 0, 0, 0)) := by decide +kernel
theorem sm_a190_216 : sm_at 190 216 = some (.goto 55, 3, (0, 0, 0, 0)) := by decide +kernel
theorem sm_a190_219 : sm_at 190 219 = some (.iload 4, 2, (0, 0, 0, 0)) := by decide +kernel
theorem sm_a190_221 : sm_at 190 221 = some (.ifCond .eq 50, 3, (0, 0, 0, 0)) := by decide +kernel
theorem sm_a190_224 : sm_at 190 224 = some (.iload_n 3, 1, (0, 0, 0, 0)) := by decide +kernel
theorem sm_a190_225 : sm_at 190 225 = some (.iconst 4, 1, (0, 0, 0, 0)) := by decide +kernel
theorem sm_a190_226 : sm_at 190 226 = some (.if_icmp .ne 45, 3, (0, 0, 0, 0)) := by decide +kernel
theorem sm_a190_229 : sm_at 190 229 = some (.iconst 0, 1, (0, 0, 0, 0)) := by decide +kernel
theorem sm_a190_230 : sm_at 190 230 = some (.istore 6, 2, (0, 0, 0, 0)) := by decide +kernel
theorem sm_a190_232 : sm_at 190 232 = some (.iload 6, 2, (0, 0, 0, 0)) := by decide +kernel
theorem sm_a190_234 : sm_at 190 234 = some (.aload_n 0, 1, (0, 0, 0, 0)) := by decide +kernel
theorem sm_a190_235 : sm_at 190 235 = some (.getfield 194, 3, (12, 74, 0, 1257)) := by decide +kernel
theorem sm_a190_238 : sm_at 190 238 = some (.iload_n 1, 1, (0, 0, 0, 0)) := by decide +kernel
theorem sm_a190_239 : sm_at 190 239 = some (.iaload, 1, (0, 0, 0, 0)) := by decide +kernel
theorem sm_a190_240 : sm_at 190 240 = some (.if_icmp .ge 31, 3, (0, 0, 0, 0)) := by decide +kernel
theorem sm_a190_243 : sm_at 190 243 = some (.aload_n 0, 1, (0, 0, 0, 0)) := by decide +kernel
theorem sm_a190_244 : sm_at 190 244 = some (.getfield 225, 3, (12, 86, 0, 1269)) := by decide +kernel
theorem sm_a190_247 : sm_at 190 247 = some (.bipush 60, 2, (0, 0, 0, 0)) := by decide +kernel
theorem sm_a190_249 : sm_at 190 249 = some (.iload_n 2, 1, (0, 0, 0, 0)) := by decide +kernel
theorem sm_a190_250 : sm_at 190 250 = some (.imul, 1, (0, 0, 0, 0)) := by decide +kernel
theorem sm_a190_251 : sm_at 190 251 = some (.iload 6, 2, (0, 0, 0, 0)) := by decide +kernel
theorem sm_a190_253 : sm_at 190 253 = some (.iadd, 1, (0, 0, 0, 0)) := by decide +kernel
theorem sm_a190_254 : sm_at 190 254 = some (.aload_n 0, 1, (0, 0, 0, 0)) := by decide +kernel
theorem sm_a190_255 : sm_at 190 255 = some (.getfield 216, 3, (12, 81, 0, 1264)) := by decide +kernel
theorem sm_a190_258 : sm_at 190 258 = some (.iload 5, 2, (0, 0, 0, 0)) := by decide +kernel
theorem sm_a190_260 : sm_at 190 260 = some (.iload 6, 2, (0, 0, 0, 0)) := by decide +kernel
theorem sm_a190_262 : sm_at 190 262 = some (.iadd, 1, (0, 0, 0, 0)) := by decide +kernel
theorem sm_a190_263 : sm_at 190 263 = some (.iaload, 1, (0, 0, 0, 0)) := by decide +kernel
theorem sm_a190_264 : sm_at 190 264 = some (.iastore, 1, (1, 0, 0, 0)) := by decide +kernel
theorem sm_a190_265 : sm_at 190 265 = some (.iinc 6 1, 3, (0, 0, 0, 0)) := by decide +kernel
theorem sm_a190_268 : sm_at 190 268 = some (.goto (-36), 3, (0, 0, 0, 0)) := by decide +kernel
theorem sm_a190_271 : sm_at 190 271 = some (.iload 4, 2, (0, 0, 0, 0)) := by decide +kernel
theorem sm_a190_273 : sm_at 190 273 = some (.ifCond .ne 13, 3, (0, 0, 0, 0)) := by decide +kernel
theorem sm_a190_276 : sm_at 190 276 = some (.aload_n 0, 1, (0, 0, 0, 0)) := by decide +kernel
theorem sm_a190_277 : sm_at 190 277 = some (.getfield 149, 3, (12, 57, 0, 1240)) := by decide +kernel
theorem sm_a190_280 : sm_at 190 280 = some (.iload_n 2, 1, (0, 0, 0, 0)) := by decide +kernel
theorem sm_a190_281 : sm_at 190 281 = some (.iconst 3, 1, (0, 0, 0, 0)) := by decide +kernel
theorem sm_a190_282 : sm_at 190 282 = some (.iastore, 1, (1, 0, 0, 0)) := by decide +kernel
theorem sm_a190_283 : sm_at 190 283 = some (.goto 165, 3, (0, 0, 0, 0)) := by decide +kernel
theorem sm_a190_286 : sm_at 190 286 = some (.iload_n 3, 1, (0, 0, 0, 0)) := by decide +kernel
theorem sm_a190_287 : sm_at 190 287 = some (.iconst 5, 1, (0, 0, 0, 0)) := by decide +kernel
theorem sm_a190_288 : sm_at 190 288 = some (.if_icmp .ge 14, 3, (0, 0, 0, 0)) := by decide +kernel
theorem sm_a190_291 : sm_at 190 291 = some (.aload_n 0, 1, (0, 0, 0, 0)) := by decide +kernel
theorem sm_a190_292 : sm_at 190 292 = some (.iload_n 2, 1, (0, 0, 0, 0)) := by decide +kernel
theorem sm_a190_293 : sm_at 190 293 = some (.iload_n 3, 1, (0, 0, 0, 0)) := by decide +kernel
theorem sm_a190_294 : sm_at 190 294 = some (.iconst 1, 1, (0, 0, 0, 0)) := by decide +kernel
theorem sm_a190_295 : sm_at 190 295 = some (.iadd, 1, (0, 0, 0, 0)) := by decide +kernel
theorem sm_a190_296 : sm_at 190 296 = some (.invokevirtual 388, 3, (10, 188, 12, 1478)) := by decide +kernel
theorem sm_a190_299 : sm_at 190 299 = some (.goto 149, 3, (0, 0, 0, 0)) := by decide +kernel
theorem sm_a190_302 : sm_at 190 302 = some (.aload_n 0, 1, (0, 0, 0, 0)) := by decide +kernel
theorem sm_a190_303 : sm_at 190 303 = some (.getfield 149, 3, (12, 57, 0, 1240)) := by decide +kernel
theorem sm_a190_306 : sm_at 190 306 = some (.iload_n 2, 1, (0, 0, 0, 0)) := by decide +kernel
theorem sm_a190_307 : sm_at 190 307 = some (.iconst 2, 1, (0, 0, 0, 0)) := by decide +kernel
theorem sm_a190_308 : sm_at 190 308 = some (.iastore, 1, (1, 0, 0, 0)) := by decide +kernel
theorem sm_a190_309 : sm_at 190 309 = some (.aload_n 0, 1, (0, 0, 0, 0)) := by decide +kernel
theorem sm_a190_310 : sm_at 190 310 = some (.getfield 161, 3, (12, 61, 0, 1244)) := by decide +kernel
theorem sm_a190_313 : sm_at 190 313 = some (.iload_n 2, 1, (0, 0, 0, 0)) := by decide +kernel
theorem sm_a190_314 : sm_at 190 314 = some (.iconst 0, 1, (0, 0, 0, 0)) := by decide +kernel
theorem sm_a190_315 : sm_at 190 315 = some (.iastore, 1, (1, 0, 0, 0)) := by decide +kernel
theorem sm_a190_316 : sm_at 190 316 = some (.bipush 18, 2, (0, 0, 0, 0)) := by decide +kernel
theorem sm_a190_318 : sm_at 190 318 = some (.istore 6, 2, (0, 0, 0, 0)) := by decide +kernel
theorem sm_a190_320 : sm_at 190 320 = some (.iload 6, 2, (0, 0, 0, 0)) := by decide +kernel
theorem sm_a190_322 : sm_at 190 322 = some (.bipush 7, 2, (0, 0, 0, 0)) := by decide +kernel
theorem sm_a190_324 : sm_at 190 324 = some (.iadd, 1, (0, 0, 0, 0)) := by decide +kernel
theorem sm_a190_325 : sm_at 190 325 = some (.aload_n 0, 1, (0, 0, 0, 0)) := by decide +kernel
theorem sm_a190_326 : sm_at 190 326 = some (.getfield 222, 3, (12, 85, 0, 1268)) := by decide +kernel
theorem sm_a190_329 : sm_at 190 329 = some (.iload_n 2, 1, (0, 0, 0, 0)) := by decide +kernel
theorem sm_a190_330 : sm_at 190 330 = some (.iaload, 1, (0, 0, 0, 0)) := by decide +kernel
theorem sm_a190_331 : sm_at 190 331 = some (.if_icmp .gt 117, 3, (0, 0, 0, 0)) := by decide +kernel
theorem sm_a190_334 : sm_at 190 334 = some (.bipush 10, 2, (0, 0, 0, 0)) := by decide +kernel
theorem sm_a190_336 : sm_at 190 336 = some (.iload_n 2, 1, (0, 0, 0, 0)) := by decide +kernel
theorem sm_a190_337 : sm_at 190 337 = some (.imul, 1, (0, 0, 0, 0)) := by decide +kernel
theorem sm_a190_338 : sm_at 190 338 = some (.aload_n 0, 1, (0, 0, 0, 0)) := by decide +kernel
theorem sm_a190_339 : sm_at 190 339 = some (.getfield 161, 3, (12, 61, 0, 1244)) := by decide +kernel
theorem sm_a190_342 : sm_at 190 342 = some (.iload_n 2, 1, (0, 0, 0, 0)) := by decide +kernel
theorem sm_a190_343 : sm_at 190 343 = some (.iaload, 1, (0, 0, 0, 0)) := by decide +kernel
theorem sm_a190_344 : sm_at 190 344 = some (.iadd, 1, (0, 0, 0, 0)) := by decide +kernel
theorem sm_a190_345 : sm_at 190 345 = some (.istore 7, 2, (0, 0, 0, 0)) := by decide +kernel
theorem sm_a190_347 : sm_at 190 347 = some (.aload_n 0, 1, (0, 0, 0, 0)) := by decide +kernel
theorem sm_a190_348 : sm_at 190 348 = some (.getfield 164, 3, (12, 62, 0, 1245)) := by decide +kernel
theorem sm_a190_351 : sm_at 190 351 = some (.iload 7, 2, (0, 0, 0, 0)) := by decide +kernel
theorem sm_a190_353 : sm_at 190 353 = some (.aload_n 0, 1, (0, 0, 0, 0)) := by decide +kernel
theorem sm_a190_354 : sm_at 190 354 = some (.getfield 225, 3, (12, 86, 0, 1269)) := by decide +kernel
theorem sm_a190_357 : sm_at 190 357 = some (.bipush 60, 2, (0, 0, 0, 0)) := by decide +kernel
theorem sm_a190_359 : sm_at 190 359 = some (.iload_n 2, 1, (0, 0, 0, 0)) := by decide +kernel
theorem sm_a190_360 : sm_at 190 360 = some (.imul, 1, (0, 0, 0, 0)) := by decide +kernel
theorem sm_a190_361 : sm_at 190 361 = some (.iload 6, 2, (0, 0, 0, 0)) := by decide +kernel
theorem sm_a190_363 : sm_at 190 363 = some (.iadd, 1, (0, 0, 0, 0)) := by decide +kernel
theorem sm_a190_364 : sm_at 190 364 = some (.iconst 2, 1, (0, 0, 0, 0)) := by decide +kernel
theorem sm_a190_365 : sm_at 190 365 = some (.iadd, 1, (0, 0, 0, 0)) := by decide +kernel
theorem sm_a190_366 : sm_at 190 366 = some (.iaload, 1, (0, 0, 0, 0)) := by decide +kernel
theorem sm_a190_367 : sm_at 190 367 = some (.iastore, 1, (1, 0, 0, 0)) := by decide +kernel
theorem sm_a190_368 : sm_at 190 368 = some (.aload_n 0, 1, (0, 0, 0, 0)) := by decide +kernel
theorem sm_a190_369 : sm_at 190 369 = some (.getfield 167, 3, (12, 63, 0, 1246)) := by decide +kernel
theorem sm_a190_372 : sm_at 190 372 = some (.iload 7, 2, (0, 0, 0, 0)) := by decide +kernel
theorem sm_a190_374 : sm_at 190 374 = some (.aload_n 0, 1, (0, 0, 0, 0)) := by decide +kernel
theorem sm_a190_375 : sm_at 190 375 = some (.getfield 225, 3, (12, 86, 0, 1269)) := by decide +kernel
theorem sm_a190_378 : sm_at 190 378 = some (.bipush 60, 2, (0, 0, 0, 0)) := by decide +kernel
theorem sm_a190_380 : sm_at 190 380 = some (.iload_n 2, 1, (0, 0, 0, 0)) := by decide +kernel
theorem sm_a190_381 : sm_at 190 381 = some (.imul, 1, (0, 0, 0, 0)) := by decide +kernel
theorem sm_a190_382 : sm_at 190 382 = some (.iload 6, 2, (0, 0, 0, 0)) := by decide +kernel
theorem sm_a190_384 : sm_at 190 384 = some (.iadd, 1, (0, 0, 0, 0)) := by decide +kernel
theorem sm_a190_385 : sm_at 190 385 = some (.iconst 3, 1, (0, 0, 0, 0)) := by decide +kernel
theorem sm_a190_386 : sm_at 190 386 = some (.iadd, 1, (0, 0, 0, 0)) := by decide +kernel
theorem sm_a190_387 : sm_at 190 387 = some (.iaload, 1, (0, 0, 0, 0)) := by decide +kernel
theorem sm_a190_388 : sm_at 190 388 = some (.iastore, 1, (1, 0, 0, 0)) := by decide +kernel
theorem sm_a190_389 : sm_at 190 389 = some (.aload_n 0, 1, (0, 0, 0, 0)) := by decide +kernel
theorem sm_a190_390 : sm_at 190 390 = some (.getfield 170, 3, (12, 64, 0, 1247)) := by decide +kernel
theorem sm_a190_393 : sm_at 190 393 = some (.iload 7, 2, (0, 0, 0, 0)) := by decide +kernel
theorem sm_a190_395 : sm_at 190 395 = some (.aload_n 0, 1, (0, 0, 0, 0)) := by decide +kernel
theorem sm_a190_396 : sm_at 190 396 = some (.getfield 225, 3, (12, 86, 0, 1269)) := by decide +kernel
theorem sm_a190_399 : sm_at 190 399 = some (.bipush 60, 2, (0, 0, 0, 0)) := by decide +kernel
theorem sm_a190_401 : sm_at 190 401 = some (.iload_n 2, 1, (0, 0, 0, 0)) := by decide +kernel
theorem sm_a190_402 : sm_at 190 402 = some (.imul, 1, (0, 0, 0, 0)) := by decide +kernel
theorem sm_a190_403 : sm_at 190 403 = some (.iload 6, 2, (0, 0, 0, 0)) := by decide +kernel
theorem sm_a190_405 : sm_at 190 405 = some (.iadd, 1, (0, 0, 0, 0)) := by decide +kernel
theorem sm_a190_406 : sm_at 190 406 = some (.iconst 4, 1, (0, 0, 0, 0)) := by decide +kernel
theorem sm_a190_407 : sm_at 190 407 = some (.iadd, 1, (0, 0, 0, 0)) := by decide +kernel
theorem sm_a190_408 : sm_at 190 408 = some (.iaload, 1, (0, 0, 0, 0)) := by decide +kernel
theorem sm_a190_409 : sm_at 190 409 = some (.iastore, 1, (1, 0, 0, 0)) := by decide +kernel
theorem sm_a190_410 : sm_at 190 410 = some (.aload_n 0, 1, (0, 0, 0, 0)) := by decide +kernel
theorem sm_a190_411 : sm_at 190 411 = some (.getfield 173, 3, (12, 65, 0, 1248)) := by decide +kernel
theorem sm_a190_414 : sm_at 190 414 = some (.iload 7, 2, (0, 0, 0, 0)) := by decide +kernel
theorem sm_a190_416 : sm_at 190 416 = some (.aload_n 0, 1, (0, 0, 0, 0)) := by decide +kernel
theorem sm_a190_417 : sm_at 190 417 = some (.getfield 225, 3, (12, 86, 0, 1269)) := by decide +kernel
theorem sm_a190_420 : sm_at 190 420 = some (.bipush 60, 2, (0, 0, 0, 0)) := by decide +kernel
theorem sm_a190_422 : sm_at 190 422 = some (.iload_n 2, 1, (0, 0, 0, 0)) := by decide +kernel
theorem sm_a190_423 : sm_at 190 423 = some (.imul, 1, (0, 0, 0, 0)) := by decide +kernel
theorem sm_a190_424 : sm_at 190 424 = some (.iload 6, 2, (0, 0, 0, 0)) := by decide +kernel
theorem sm_a190_426 : sm_at 190 426 = some (.iadd, 1, (0, 0, 0, 0)) := by decide +kernel
theorem sm_a190_427 : sm_at 190 427 = some (.bipush 6, 2, (0, 0, 0, 0)) := by decide +kernel
theorem sm_a190_429 : sm_at 190 429 = some (.iadd, 1, (0, 0, 0, 0)) := by decide +kernel
theorem sm_a190_430 : sm_at 190 430 = some (.iaload, 1, (0, 0, 0, 0)) := by decide +kernel
theorem sm_a190_431 : sm_at 190 431 = some (.iastore, 1, (1, 0, 0, 0)) := by decide +kernel
theorem sm_a190_432 : sm_at 190 432 = some (.aload_n 0, 1, (0, 0, 0, 0)) := by decide +kernel
theorem sm_a190_433 : sm_at 190 433 = some (.getfield 161, 3, (12, 61, 0, 1244)) := by decide +kernel
theorem sm_a190_436 : sm_at 190 436 = some (.iload_n 2, 1, (0, 0, 0, 0)) := by decide +kernel
theorem sm_a190_437 : sm_at 190 437 = some (.dup2, 1, (0, 0, 0, 0)) := by decide +kernel
theorem sm_a190_438 : sm_at 190 438 = some (.iaload, 1, (0, 0, 0, 0)) := by decide +kernel
theorem sm_a190_439 : sm_at 190 439 = some (.iconst 1, 1, (0, 0, 0, 0)) := by decide +kernel
theorem sm_a190_440 : sm_at 190 440 = some (.iadd, 1, (0, 0, 0, 0)) := by decide +kernel
theorem sm_a190_441 : sm_at 190 441 = some (.iastore, 1, (1, 0, 0, 0)) := by decide +kernel
theorem sm_a190_442 : sm_at 190 442 = some (.iinc 6 7, 3, (0, 0, 0, 0)) := by decide +kernel
theorem sm_a190_445 : sm_at 190 445 = some (.goto (-125), 3, (0, 0, 0, 0)) := by decide +kernel
theorem sm_a190_448 : sm_at 190 448 = some (.return_, 1, (0, 0, 0, 0)) := by decide +kernel
theorem bb_190_0 {d : Nat} {M : sm_M} {Q : Option sm_V → sm_M → Prop} {a0 : Nat} {x1 : Int32} {x2 : Int32} {z3 : Option sm_V} {z4 : Option sm_V} {z5 : Option sm_V} {z6 : Option sm_V} {z7 : Option sm_V}
    (h : sm_K M a0 = 39 ∧ ∃ b_2, sm_R M a0 60 = some b_2 ∧ sm_iA M b_2 ∧ sm_in_ M b_2 x2 ∧ ∃ b_6, sm_R M a0 73 = some b_6 ∧ sm_iA M b_6 ∧ sm_in_ M b_6 x1 ∧ ((¬ (sm_I M b_6 (x1).toNatClampNeg) = 1 → sm_Run (d + 1) 190 36 [some (.inr (some a0)), some (.inl x1), some (.inl x2), some (.inl (sm_I M b_2 (x2).toNatClampNeg)), z4, z5, z6, z7] [] M Q) ∧ (¬ (¬ (sm_I M b_6 (x1).toNatClampNeg) = 1) → ∃ b_11, sm_R M a0 74 = some b_11 ∧ sm_iA M b_11 ∧ sm_in_ M b_11 x1 ∧ ∃ b_15, sm_R M a0 75 = some b_15 ∧ sm_iA M b_15 ∧ sm_in_ M b_15 x1 ∧ ((¬ (sm_I M b_11 (x1).toNatClampNeg) = (sm_I M b_15 (x1).toNatClampNeg) → sm_Run (d + 1) 190 36 [some (.inr (some a0)), some (.inl x1), some (.inl x2), some (.inl (sm_I M b_2 (x2).toNatClampNeg)), z4, z5, z6, z7] [] M Q) ∧ (¬ (¬ (sm_I M b_11 (x1).toNatClampNeg) = (sm_I M b_15 (x1).toNatClampNeg)) → ((¬ (sm_I M b_2 (x2).toNatClampNeg) = 0 → sm_Run (d + 1) 190 126 [some (.inr (some a0)), some (.inl x1), some (.inl x2), some (.inl (sm_I M b_2 (x2).toNatClampNeg)), some (.inl 1), some (.inl (100 * x1)), z6, z7] [] M Q) ∧ (¬ (¬ (sm_I M b_2 (x2).toNatClampNeg) = 0) → ∃ b_21, sm_R M a0 81 = some b_21 ∧ sm_iA M b_21 ∧ sm_in_ M b_21 ((100 * x1) + 7) ∧ (((sm_I M b_21 ((100 * x1) + 7).toNatClampNeg) = 8 → sm_Run (d + 1) 190 94 [some (.inr (some a0)), some (.inl x1), some (.inl x2), some (.inl (sm_I M b_2 (x2).toNatClampNeg)), some (.inl 1), some (.inl (100 * x1)), some (.inl (sm_I M b_21 ((100 * x1) + 7).toNatClampNeg)), z7] [] M Q) ∧ (¬ ((sm_I M b_21 ((100 * x1) + 7).toNatClampNeg) = 8) → (((sm_I M b_21 ((100 * x1) + 7).toNatClampNeg) = 16 → sm_Run (d + 1) 190 94 [some (.inr (some a0)), some (.inl x1), some (.inl x2), some (.inl (sm_I M b_2 (x2).toNatClampNeg)), some (.inl 1), some (.inl (100 * x1)), some (.inl (sm_I M b_21 ((100 * x1) + 7).toNatClampNeg)), z7] [] M Q) ∧ (¬ ((sm_I M b_21 ((100 * x1) + 7).toNatClampNeg) = 16) → (((sm_I M b_21 ((100 * x1) + 7).toNatClampNeg) = 32 → sm_Run (d + 1) 190 94 [some (.inr (some a0)), some (.inl x1), some (.inl x2), some (.inl (sm_I M b_2 (x2).toNatClampNeg)), some (.inl 1), some (.inl (100 * x1)), some (.inl (sm_I M b_21 ((100 * x1) + 7).toNatClampNeg)), z7] [] M Q) ∧ (¬ ((sm_I M b_21 ((100 * x1) + 7).toNatClampNeg) = 32) → ((¬ (sm_I M b_21 ((100 * x1) + 7).toNatClampNeg) = 64 → ∃ b_29, sm_R M a0 58 = some b_29 ∧ sm_iA M b_29 ∧ sm_in_ M b_29 x2 ∧ sm_wA 1 M b_29 ∧ sm_Run (d + 1) 190 271 [some (.inr (some a0)), some (.inl x1), some (.inl x2), some (.inl (sm_I M b_2 (x2).toNatClampNeg)), some (.inl 0), some (.inl (100 * x1)), some (.inl (sm_I M b_21 ((100 * x1) + 7).toNatClampNeg)), z7] [] (sm_putI M b_29 (x2).toNatClampNeg (sm_I M b_29 (x2).toNatClampNeg)) Q) ∧ (¬ (¬ (sm_I M b_21 ((100 * x1) + 7).toNatClampNeg) = 64) → sm_Run (d + 1) 190 94 [some (.inr (some a0)), some (.inl x1), some (.inl x2), some (.inl (sm_I M b_2 (x2).toNatClampNeg)), some (.inl 1), some (.inl (100 * x1)), some (.inl (sm_I M b_21 ((100 * x1) + 7).toNatClampNeg)), z7] [] M Q))))))))))))))) :
    sm_Run (d + 1) 190 0 [some (.inr (some a0)), some (.inl x1), some (.inl x2), z3, z4, z5, z6, z7] [] M Q := by
  refine ru_go (t := (1, [some (.inr (some a0)), some (.inl x1), some (.inl x2), z3, z4, z5, z6, z7], [.inr (some a0)], M)) sm_a190_0 rfl rfl rfl ?_
  obtain ⟨h_1, h⟩ := h
  refine ru_go (t := (4, [some (.inr (some a0)), some (.inl x1), some (.inl x2), z3, z4, z5, z6, z7], [.inr (sm_R M a0 60)], M)) sm_a190_1 rfl rfl (st_getR h_1 rfl rfl) ?_
  refine ru_go (t := (5, [some (.inr (some a0)), some (.inl x1), some (.inl x2), z3, z4, z5, z6, z7], [.inl x2, .inr (sm_R M a0 60)], M)) sm_a190_4 rfl rfl rfl ?_
  obtain ⟨b_2, hb_3, h⟩ := h
  rw [hb_3]
  obtain ⟨h_4, h⟩ := h
  obtain ⟨h_5, h⟩ := h
  refine ru_go (t := (6, [some (.inr (some a0)), some (.inl x1), some (.inl x2), z3, z4, z5, z6, z7], [.inl (sm_I M b_2 (x2).toNatClampNeg)], M)) sm_a190_5 rfl rfl (st_iald h_4 h_5) ?_
  refine ru_go (t := (7, [some (.inr (some a0)), some (.inl x1), some (.inl x2), some (.inl (sm_I M b_2 (x2).toNatClampNeg)), z4, z5, z6, z7], [], M)) sm_a190_6 rfl rfl rfl ?_
  refine ru_go (t := (8, [some (.inr (some a0)), some (.inl x1), some (.inl x2), some (.inl (sm_I M b_2 (x2).toNatClampNeg)), z4, z5, z6, z7], [.inr (some a0)], M)) sm_a190_7 rfl rfl rfl ?_
  refine ru_go (t := (11, [some (.inr (some a0)), some (.inl x1), some (.inl x2), some (.inl (sm_I M b_2 (x2).toNatClampNeg)), z4, z5, z6, z7], [.inr (sm_R M a0 73)], M)) sm_a190_8 rfl rfl (st_getR h_1 rfl rfl) ?_
  refine ru_go (t := (12, [some (.inr (some a0)), some (.inl x1), some (.inl x2), some (.inl (sm_I M b_2 (x2).toNatClampNeg)), z4, z5, z6, z7], [.inl x1, .inr (sm_R M a0 73)], M)) sm_a190_11 rfl rfl rfl ?_
  obtain ⟨b_6, hb_7, h⟩ := h
  rw [hb_7]
  obtain ⟨h_8, h⟩ := h
  obtain ⟨h_9, h⟩ := h
  refine ru_go (t := (13, [some (.inr (some a0)), some (.inl x1), some (.inl x2), some (.inl (sm_I M b_2 (x2).toNatClampNeg)), z4, z5, z6, z7], [.inl (sm_I M b_6 (x1).toNatClampNeg)], M)) sm_a190_12 rfl rfl (st_iald h_8 h_9) ?_
  refine ru_go (t := (14, [some (.inr (some a0)), some (.inl x1), some (.inl x2), some (.inl (sm_I M b_2 (x2).toNatClampNeg)), z4, z5, z6, z7], [.inl 1, .inl (sm_I M b_6 (x1).toNatClampNeg)], M)) sm_a190_13 rfl rfl (st_iconst (by decide)) ?_
  refine ru_icmp (pc := 14) (p := 36) (p2 := 17) sm_a190_14 (by decide) rfl ⟨fun hc_10 => ?_, fun hc_10 => ?_⟩
  · have h := h.1 hc_10
    exact h
  · have h := h.2 hc_10
    refine ru_go (t := (18, [some (.inr (some a0)), some (.inl x1), some (.inl x2), some (.inl (sm_I M b_2 (x2).toNatClampNeg)), z4, z5, z6, z7], [.inr (some a0)], M)) sm_a190_17 rfl rfl rfl ?_
    refine ru_go (t := (21, [some (.inr (some a0)), some (.inl x1), some (.inl x2), some (.inl (sm_I M b_2 (x2).toNatClampNeg)), z4, z5, z6, z7], [.inr (sm_R M a0 74)], M)) sm_a190_18 rfl rfl (st_getR h_1 rfl rfl) ?_
    refine ru_go (t := (22, [some (.inr (some a0)), some (.inl x1), some (.inl x2), some (.inl (sm_I M b_2 (x2).toNatClampNeg)), z4, z5, z6, z7], [.inl x1, .inr (sm_R M a0 74)], M)) sm_a190_21 rfl rfl rfl ?_
    obtain ⟨b_11, hb_12, h⟩ := h
    rw [hb_12]
    obtain ⟨h_13, h⟩ := h
    obtain ⟨h_14, h⟩ := h
    refine ru_go (t := (23, [some (.inr (some a0)), some (.inl x1), some (.inl x2), some (.inl (sm_I M b_2 (x2).toNatClampNeg)), z4, z5, z6, z7], [.inl (sm_I M b_11 (x1).toNatClampNeg)], M)) sm_a190_22 rfl rfl (st_iald h_13 h_14) ?_
    refine ru_go (t := (24, [some (.inr (some a0)), some (.inl x1), some (.inl x2), some (.inl (sm_I M b_2 (x2).toNatClampNeg)), z4, z5, z6, z7], [.inr (some a0), .inl (sm_I M b_11 (x1).toNatClampNeg)], M)) sm_a190_23 rfl rfl rfl ?_
    refine ru_go (t := (27, [some (.inr (some a0)), some (.inl x1), some (.inl x2), some (.inl (sm_I M b_2 (x2).toNatClampNeg)), z4, z5, z6, z7], [.inr (sm_R M a0 75), .inl (sm_I M b_11 (x1).toNatClampNeg)], M)) sm_a190_24 rfl rfl (st_getR h_1 rfl rfl) ?_
    refine ru_go (t := (28, [some (.inr (some a0)), some (.inl x1), some (.inl x2), some (.inl (sm_I M b_2 (x2).toNatClampNeg)), z4, z5, z6, z7], [.inl x1, .inr (sm_R M a0 75), .inl (sm_I M b_11 (x1).toNatClampNeg)], M)) sm_a190_27 rfl rfl rfl ?_
    obtain ⟨b_15, hb_16, h⟩ := h
    rw [hb_16]
    obtain ⟨h_17, h⟩ := h
    obtain ⟨h_18, h⟩ := h
    refine ru_go (t := (29, [some (.inr (some a0)), some (.inl x1), some (.inl x2), some (.inl (sm_I M b_2 (x2).toNatClampNeg)), z4, z5, z6, z7], [.inl (sm_I M b_15 (x1).toNatClampNeg), .inl (sm_I M b_11 (x1).toNatClampNeg)], M)) sm_a190_28 rfl rfl (st_iald h_17 h_18) ?_
    refine ru_icmp (pc := 29) (p := 36) (p2 := 32) sm_a190_29 (by decide) rfl ⟨fun hc_19 => ?_, fun hc_19 => ?_⟩
    · have h := h.1 hc_19
      exact h
    · have h := h.2 hc_19
      refine ru_go (t := (33, [some (.inr (some a0)), some (.inl x1), some (.inl x2), some (.inl (sm_I M b_2 (x2).toNatClampNeg)), z4, z5, z6, z7], [.inl 1], M)) sm_a190_32 rfl rfl (st_iconst (by decide)) ?_
      refine ru_go (t := (37, [some (.inr (some a0)), some (.inl x1), some (.inl x2), some (.inl (sm_I M b_2 (x2).toNatClampNeg)), z4, z5, z6, z7], [.inl 1], M)) sm_a190_33 rfl rfl (st_goto (pc := 33) (by decide)) ?_
      refine ru_go (t := (39, [some (.inr (some a0)), some (.inl x1), some (.inl x2), some (.inl (sm_I M b_2 (x2).toNatClampNeg)), some (.inl 1), z5, z6, z7], [], M)) sm_a190_37 rfl rfl rfl ?_
      refine ru_go (t := (41, [some (.inr (some a0)), some (.inl x1), some (.inl x2), some (.inl (sm_I M b_2 (x2).toNatClampNeg)), some (.inl 1), z5, z6, z7], [.inl 100], M)) sm_a190_39 rfl rfl (st_bipush (by decide)) ?_
      refine ru_go (t := (42, [some (.inr (some a0)), some (.inl x1), some (.inl x2), some (.inl (sm_I M b_2 (x2).toNatClampNeg)), some (.inl 1), z5, z6, z7], [.inl x1, .inl 100], M)) sm_a190_41 rfl rfl rfl ?_
      refine ru_go (t := (43, [some (.inr (some a0)), some (.inl x1), some (.inl x2), some (.inl (sm_I M b_2 (x2).toNatClampNeg)), some (.inl 1), z5, z6, z7], [.inl (100 * x1)], M)) sm_a190_42 rfl rfl rfl ?_
      refine ru_go (t := (45, [some (.inr (some a0)), some (.inl x1), some (.inl x2), some (.inl (sm_I M b_2 (x2).toNatClampNeg)), some (.inl 1), some (.inl (100 * x1)), z6, z7], [], M)) sm_a190_43 rfl rfl rfl ?_
      refine ru_go (t := (47, [some (.inr (some a0)), some (.inl x1), some (.inl x2), some (.inl (sm_I M b_2 (x2).toNatClampNeg)), some (.inl 1), some (.inl (100 * x1)), z6, z7], [.inl 1], M)) sm_a190_45 rfl rfl rfl ?_
      refine ru_if (pc := 47) (p := 126) (p2 := 50) sm_a190_47 (by decide) rfl ⟨fun hc => absurd (show (1 : Int32) = 0 from hc) (by decide), fun _ => ?_⟩
      refine ru_go (t := (51, [some (.inr (some a0)), some (.inl x1), some (.inl x2), some (.inl (sm_I M b_2 (x2).toNatClampNeg)), some (.inl 1), some (.inl (100 * x1)), z6, z7], [.inl (sm_I M b_2 (x2).toNatClampNeg)], M)) sm_a190_50 rfl rfl rfl ?_
      refine ru_if (pc := 51) (p := 126) (p2 := 54) sm_a190_51 (by decide) rfl ⟨fun hc_20 => ?_, fun hc_20 => ?_⟩
      · have h := h.1 hc_20
        exact h
      · have h := h.2 hc_20
        refine ru_go (t := (55, [some (.inr (some a0)), some (.inl x1), some (.inl x2), some (.inl (sm_I M b_2 (x2).toNatClampNeg)), some (.inl 1), some (.inl (100 * x1)), z6, z7], [.inr (some a0)], M)) sm_a190_54 rfl rfl rfl ?_
        refine ru_go (t := (58, [some (.inr (some a0)), some (.inl x1), some (.inl x2), some (.inl (sm_I M b_2 (x2).toNatClampNeg)), some (.inl 1), some (.inl (100 * x1)), z6, z7], [.inr (sm_R M a0 81)], M)) sm_a190_55 rfl rfl (st_getR h_1 rfl rfl) ?_
        refine ru_go (t := (60, [some (.inr (some a0)), some (.inl x1), some (.inl x2), some (.inl (sm_I M b_2 (x2).toNatClampNeg)), some (.inl 1), some (.inl (100 * x1)), z6, z7], [.inl (100 * x1), .inr (sm_R M a0 81)], M)) sm_a190_58 rfl rfl rfl ?_
        refine ru_go (t := (62, [some (.inr (some a0)), some (.inl x1), some (.inl x2), some (.inl (sm_I M b_2 (x2).toNatClampNeg)), some (.inl 1), some (.inl (100 * x1)), z6, z7], [.inl 7, .inl (100 * x1), .inr (sm_R M a0 81)], M)) sm_a190_60 rfl rfl (st_bipush (by decide)) ?_
        refine ru_go (t := (63, [some (.inr (some a0)), some (.inl x1), some (.inl x2), some (.inl (sm_I M b_2 (x2).toNatClampNeg)), some (.inl 1), some (.inl (100 * x1)), z6, z7], [.inl ((100 * x1) + 7), .inr (sm_R M a0 81)], M)) sm_a190_62 rfl rfl rfl ?_
        obtain ⟨b_21, hb_22, h⟩ := h
        rw [hb_22]
        obtain ⟨h_23, h⟩ := h
        obtain ⟨h_24, h⟩ := h
        refine ru_go (t := (64, [some (.inr (some a0)), some (.inl x1), some (.inl x2), some (.inl (sm_I M b_2 (x2).toNatClampNeg)), some (.inl 1), some (.inl (100 * x1)), z6, z7], [.inl (sm_I M b_21 ((100 * x1) + 7).toNatClampNeg)], M)) sm_a190_63 rfl rfl (st_iald h_23 h_24) ?_
        refine ru_go (t := (66, [some (.inr (some a0)), some (.inl x1), some (.inl x2), some (.inl (sm_I M b_2 (x2).toNatClampNeg)), some (.inl 1), some (.inl (100 * x1)), some (.inl (sm_I M b_21 ((100 * x1) + 7).toNatClampNeg)), z7], [], M)) sm_a190_64 rfl rfl rfl ?_
        refine ru_go (t := (68, [some (.inr (some a0)), some (.inl x1), some (.inl x2), some (.inl (sm_I M b_2 (x2).toNatClampNeg)), some (.inl 1), some (.inl (100 * x1)), some (.inl (sm_I M b_21 ((100 * x1) + 7).toNatClampNeg)), z7], [.inl (sm_I M b_21 ((100 * x1) + 7).toNatClampNeg)], M)) sm_a190_66 rfl rfl rfl ?_
        refine ru_go (t := (70, [some (.inr (some a0)), some (.inl x1), some (.inl x2), some (.inl (sm_I M b_2 (x2).toNatClampNeg)), some (.inl 1), some (.inl (100 * x1)), some (.inl (sm_I M b_21 ((100 * x1) + 7).toNatClampNeg)), z7], [.inl 8, .inl (sm_I M b_21 ((100 * x1) + 7).toNatClampNeg)], M)) sm_a190_68 rfl rfl (st_bipush (by decide)) ?_
        refine ru_icmp (pc := 70) (p := 94) (p2 := 73) sm_a190_70 (by decide) rfl ⟨fun hc_25 => ?_, fun hc_25 => ?_⟩
        · have h := h.1 hc_25
          exact h
        · have h := h.2 hc_25
          refine ru_go (t := (75, [some (.inr (some a0)), some (.inl x1), some (.inl x2), some (.inl (sm_I M b_2 (x2).toNatClampNeg)), some (.inl 1), some (.inl (100 * x1)), some (.inl (sm_I M b_21 ((100 * x1) + 7).toNatClampNeg)), z7], [.inl (sm_I M b_21 ((100 * x1) + 7).toNatClampNeg)], M)) sm_a190_73 rfl rfl rfl ?_
          refine ru_go (t := (77, [some (.inr (some a0)), some (.inl x1), some (.inl x2), some (.inl (sm_I M b_2 (x2).toNatClampNeg)), some (.inl 1), some (.inl (100 * x1)), some (.inl (sm_I M b_21 ((100 * x1) + 7).toNatClampNeg)), z7], [.inl 16, .inl (sm_I M b_21 ((100 * x1) + 7).toNatClampNeg)], M)) sm_a190_75 rfl rfl (st_bipush (by decide)) ?_
          refine ru_icmp (pc := 77) (p := 94) (p2 := 80) sm_a190_77 (by decide) rfl ⟨fun hc_26 => ?_, fun hc_26 => ?_⟩
          · have h := h.1 hc_26
            exact h
          · have h := h.2 hc_26
            refine ru_go (t := (82, [some (.inr (some a0)), some (.inl x1), some (.inl x2), some (.inl (sm_I M b_2 (x2).toNatClampNeg)), some (.inl 1), some (.inl (100 * x1)), some (.inl (sm_I M b_21 ((100 * x1) + 7).toNatClampNeg)), z7], [.inl (sm_I M b_21 ((100 * x1) + 7).toNatClampNeg)], M)) sm_a190_80 rfl rfl rfl ?_
            refine ru_go (t := (84, [some (.inr (some a0)), some (.inl x1), some (.inl x2), some (.inl (sm_I M b_2 (x2).toNatClampNeg)), some (.inl 1), some (.inl (100 * x1)), some (.inl (sm_I M b_21 ((100 * x1) + 7).toNatClampNeg)), z7], [.inl 32, .inl (sm_I M b_21 ((100 * x1) + 7).toNatClampNeg)], M)) sm_a190_82 rfl rfl (st_bipush (by decide)) ?_
            refine ru_icmp (pc := 84) (p := 94) (p2 := 87) sm_a190_84 (by decide) rfl ⟨fun hc_27 => ?_, fun hc_27 => ?_⟩
            · have h := h.1 hc_27
              exact h
            · have h := h.2 hc_27
              refine ru_go (t := (89, [some (.inr (some a0)), some (.inl x1), some (.inl x2), some (.inl (sm_I M b_2 (x2).toNatClampNeg)), some (.inl 1), some (.inl (100 * x1)), some (.inl (sm_I M b_21 ((100 * x1) + 7).toNatClampNeg)), z7], [.inl (sm_I M b_21 ((100 * x1) + 7).toNatClampNeg)], M)) sm_a190_87 rfl rfl rfl ?_
              refine ru_go (t := (91, [some (.inr (some a0)), some (.inl x1), some (.inl x2), some (.inl (sm_I M b_2 (x2).toNatClampNeg)), some (.inl 1), some (.inl (100 * x1)), some (.inl (sm_I M b_21 ((100 * x1) + 7).toNatClampNeg)), z7], [.inl 64, .inl (sm_I M b_21 ((100 * x1) + 7).toNatClampNeg)], M)) sm_a190_89 rfl rfl (st_bipush (by decide)) ?_
              refine ru_icmp (pc := 91) (p := 98) (p2 := 94) sm_a190_91 (by decide) rfl ⟨fun hc_28 => ?_, fun hc_28 => ?_⟩
              · have h := h.1 hc_28
                refine ru_go (t := (99, [some (.inr (some a0)), some (.inl x1), some (.inl x2), some (.inl (sm_I M b_2 (x2).toNatClampNeg)), some (.inl 1), some (.inl (100 * x1)), some (.inl (sm_I M b_21 ((100 * x1) + 7).toNatClampNeg)), z7], [.inl 0], M)) sm_a190_98 rfl rfl (st_iconst (by decide)) ?_
                refine ru_go (t := (101, [some (.inr (some a0)), some (.inl x1), some (.inl x2), some (.inl (sm_I M b_2 (x2).toNatClampNeg)), some (.inl 0), some (.inl (100 * x1)), some (.inl (sm_I M b_21 ((100 * x1) + 7).toNatClampNeg)), z7], [], M)) sm_a190_99 rfl rfl rfl ?_
                refine ru_go (t := (102, [some (.inr (some a0)), some (.inl x1), some (.inl x2), some (.inl (sm_I M b_2 (x2).toNatClampNeg)), some (.inl 0), some (.inl (100 * x1)), some (.inl (sm_I M b_21 ((100 * x1) + 7).toNatClampNeg)), z7], [.inr (some a0)], M)) sm_a190_101 rfl rfl rfl ?_
                refine ru_go (t := (105, [some (.inr (some a0)), some (.inl x1), some (.inl x2), some (.inl (sm_I M b_2 (x2).toNatClampNeg)), some (.inl 0), some (.inl (100 * x1)), some (.inl (sm_I M b_21 ((100 * x1) + 7).toNatClampNeg)), z7], [.inr (sm_R M a0 58)], M)) sm_a190_102 rfl rfl (st_getR h_1 rfl rfl) ?_
                refine ru_go (t := (106, [some (.inr (some a0)), some (.inl x1), some (.inl x2), some (.inl (sm_I M b_2 (x2).toNatClampNeg)), some (.inl 0), some (.inl (100 * x1)), some (.inl (sm_I M b_21 ((100 * x1) + 7).toNatClampNeg)), z7], [.inl x2, .inr (sm_R M a0 58)], M)) sm_a190_105 rfl rfl rfl ?_
                refine ru_go (t := (108, [some (.inr (some a0)), some (.inl x1), some (.inl x2), some (.inl (sm_I M b_2 (x2).toNatClampNeg)), some (.inl 0), some (.inl (100 * x1)), some (.inl (sm_I M b_21 ((100 * x1) + 7).toNatClampNeg)), z7], [.inl 0, .inl x2, .inr (sm_R M a0 58)], M)) sm_a190_106 rfl rfl rfl ?_
                refine ru_if (pc := 108) (p := 116) (p2 := 111) sm_a190_108 (by decide) rfl ⟨fun _ => ?_, fun hc => absurd (show sm_cP .eq 0 0 from (by show (0 : Int32) = 0; decide)) hc⟩
                refine ru_go (t := (117, [some (.inr (some a0)), some (.inl x1), some (.inl x2), some (.inl (sm_I M b_2 (x2).toNatClampNeg)), some (.inl 0), some (.inl (100 * x1)), some (.inl (sm_I M b_21 ((100 * x1) + 7).toNatClampNeg)), z7], [.inr (some a0), .inl x2, .inr (sm_R M a0 58)], M)) sm_a190_116 rfl rfl rfl ?_
                refine ru_go (t := (120, [some (.inr (some a0)), some (.inl x1), some (.inl x2), some (.inl (sm_I M b_2 (x2).toNatClampNeg)), some (.inl 0), some (.inl (100 * x1)), some (.inl (sm_I M b_21 ((100 * x1) + 7).toNatClampNeg)), z7], [.inr (sm_R M a0 58), .inl x2, .inr (sm_R M a0 58)], M)) sm_a190_117 rfl rfl (st_getR h_1 rfl rfl) ?_
                refine ru_go (t := (121, [some (.inr (some a0)), some (.inl x1), some (.inl x2), some (.inl (sm_I M b_2 (x2).toNatClampNeg)), some (.inl 0), some (.inl (100 * x1)), some (.inl (sm_I M b_21 ((100 * x1) + 7).toNatClampNeg)), z7], [.inl x2, .inr (sm_R M a0 58), .inl x2, .inr (sm_R M a0 58)], M)) sm_a190_120 rfl rfl rfl ?_
                obtain ⟨b_29, hb_30, h⟩ := h
                rw [hb_30]
                obtain ⟨h_31, h⟩ := h
                obtain ⟨h_32, h⟩ := h
                refine ru_go (t := (122, [some (.inr (some a0)), some (.inl x1), some (.inl x2), some (.inl (sm_I M b_2 (x2).toNatClampNeg)), some (.inl 0), some (.inl (100 * x1)), some (.inl (sm_I M b_21 ((100 * x1) + 7).toNatClampNeg)), z7], [.inl (sm_I M b_29 (x2).toNatClampNeg), .inl x2, .inr (some b_29)], M)) sm_a190_121 rfl rfl (st_iald h_31 h_32) ?_
                obtain ⟨h_33, h⟩ := h
                refine ru_go (t := (123, [some (.inr (some a0)), some (.inl x1), some (.inl x2), some (.inl (sm_I M b_2 (x2).toNatClampNeg)), some (.inl 0), some (.inl (100 * x1)), some (.inl (sm_I M b_21 ((100 * x1) + 7).toNatClampNeg)), z7], [], sm_putI M b_29 (x2).toNatClampNeg (sm_I M b_29 (x2).toNatClampNeg))) sm_a190_122 rfl rfl (st_iast h_33 h_32) ?_
                refine ru_go (t := (271, [some (.inr (some a0)), some (.inl x1), some (.inl x2), some (.inl (sm_I M b_2 (x2).toNatClampNeg)), some (.inl 0), some (.inl (100 * x1)), some (.inl (sm_I M b_21 ((100 * x1) + 7).toNatClampNeg)), z7], [], sm_putI M b_29 (x2).toNatClampNeg (sm_I M b_29 (x2).toNatClampNeg))) sm_a190_123 rfl rfl (st_goto (pc := 123) (by decide)) ?_
                exact h
              · have h := h.2 hc_28
                exact h
theorem bb_190_36 {d : Nat} {M : sm_M} {Q : Option sm_V → sm_M → Prop} {a0 : Nat} {x1 : Int32} {x2 : Int32} {x3 : Int32} {z4 : Option sm_V} {z5 : Option sm_V} {z6 : Option sm_V} {z7 : Option sm_V}
    (h : sm_Run (d + 1) 190 126 [some (.inr (some a0)), some (.inl x1), some (.inl x2), some (.inl x3), some (.inl 0), some (.inl (100 * x1)), z6, z7] [] M Q) :
    sm_Run (d + 1) 190 36 [some (.inr (some a0)), some (.inl x1), some (.inl x2), some (.inl x3), z4, z5, z6, z7] [] M Q := by
  refine ru_go (t := (37, [some (.inr (some a0)), some (.inl x1), some (.inl x2), some (.inl x3), z4, z5, z6, z7], [.inl 0], M)) sm_a190_36 rfl rfl (st_iconst (by decide)) ?_
  refine ru_go (t := (39, [some (.inr (some a0)), some (.inl x1), some (.inl x2), some (.inl x3), some (.inl 0), z5, z6, z7], [], M)) sm_a190_37 rfl rfl rfl ?_
  refine ru_go (t := (41, [some (.inr (some a0)), some (.inl x1), some (.inl x2), some (.inl x3), some (.inl 0), z5, z6, z7], [.inl 100], M)) sm_a190_39 rfl rfl (st_bipush (by decide)) ?_
  refine ru_go (t := (42, [some (.inr (some a0)), some (.inl x1), some (.inl x2), some (.inl x3), some (.inl 0), z5, z6, z7], [.inl x1, .inl 100], M)) sm_a190_41 rfl rfl rfl ?_
  refine ru_go (t := (43, [some (.inr (some a0)), some (.inl x1), some (.inl x2), some (.inl x3), some (.inl 0), z5, z6, z7], [.inl (100 * x1)], M)) sm_a190_42 rfl rfl rfl ?_
  refine ru_go (t := (45, [some (.inr (some a0)), some (.inl x1), some (.inl x2), some (.inl x3), some (.inl 0), some (.inl (100 * x1)), z6, z7], [], M)) sm_a190_43 rfl rfl rfl ?_
  refine ru_go (t := (47, [some (.inr (some a0)), some (.inl x1), some (.inl x2), some (.inl x3), some (.inl 0), some (.inl (100 * x1)), z6, z7], [.inl 0], M)) sm_a190_45 rfl rfl rfl ?_
  refine ru_if (pc := 47) (p := 126) (p2 := 50) sm_a190_47 (by decide) rfl ⟨fun _ => ?_, fun hc => absurd (show sm_cP .eq 0 0 from (by show (0 : Int32) = 0; decide)) hc⟩
  exact h
theorem bb_190_94 {d : Nat} {M : sm_M} {Q : Option sm_V → sm_M → Prop} {a0 : Nat} {x1 : Int32} {x2 : Int32} {x3 : Int32} {x4 : Int32} {x5 : Int32} {x6 : Int32} {z7 : Option sm_V}
    (h : sm_K M a0 = 39 ∧ ∃ b_2, sm_R M a0 58 = some b_2 ∧ sm_wA 1 M b_2 ∧ sm_in_ M b_2 x2 ∧ sm_Run (d + 1) 190 271 [some (.inr (some a0)), some (.inl x1), some (.inl x2), some (.inl x3), some (.inl 1), some (.inl x5), some (.inl x6), z7] [] (sm_putI M b_2 (x2).toNatClampNeg x6) Q) :
    sm_Run (d + 1) 190 94 [some (.inr (some a0)), some (.inl x1), some (.inl x2), some (.inl x3), some (.inl x4), some (.inl x5), some (.inl x6), z7] [] M Q := by
  refine ru_go (t := (95, [some (.inr (some a0)), some (.inl x1), some (.inl x2), some (.inl x3), some (.inl x4), some (.inl x5), some (.inl x6), z7], [.inl 1], M)) sm_a190_94 rfl rfl (st_iconst (by decide)) ?_
  refine ru_go (t := (99, [some (.inr (some a0)), some (.inl x1), some (.inl x2), some (.inl x3), some (.inl x4), some (.inl x5), some (.inl x6), z7], [.inl 1], M)) sm_a190_95 rfl rfl (st_goto (pc := 95) (by decide)) ?_
  refine ru_go (t := (101, [some (.inr (some a0)), some (.inl x1), some (.inl x2), some (.inl x3), some (.inl 1), some (.inl x5), some (.inl x6), z7], [], M)) sm_a190_99 rfl rfl rfl ?_
  refine ru_go (t := (102, [some (.inr (some a0)), some (.inl x1), some (.inl x2), some (.inl x3), some (.inl 1), some (.inl x5), some (.inl x6), z7], [.inr (some a0)], M)) sm_a190_101 rfl rfl rfl ?_
  obtain ⟨h_1, h⟩ := h
  refine ru_go (t := (105, [some (.inr (some a0)), some (.inl x1), some (.inl x2), some (.inl x3), some (.inl 1), some (.inl x5), some (.inl x6), z7], [.inr (sm_R M a0 58)], M)) sm_a190_102 rfl rfl (st_getR h_1 rfl rfl) ?_
  refine ru_go (t := (106, [some (.inr (some a0)), some (.inl x1), some (.inl x2), some (.inl x3), some (.inl 1), some (.inl x5), some (.inl x6), z7], [.inl x2, .inr (sm_R M a0 58)], M)) sm_a190_105 rfl rfl rfl ?_
  refine ru_go (t := (108, [some (.inr (some a0)), some (.inl x1), some (.inl x2), some (.inl x3), some (.inl 1), some (.inl x5), some (.inl x6), z7], [.inl 1, .inl x2, .inr (sm_R M a0 58)], M)) sm_a190_106 rfl rfl rfl ?_
  refine ru_if (pc := 108) (p := 116) (p2 := 111) sm_a190_108 (by decide) rfl ⟨fun hc => absurd (show (1 : Int32) = 0 from hc) (by decide), fun _ => ?_⟩
  refine ru_go (t := (113, [some (.inr (some a0)), some (.inl x1), some (.inl x2), some (.inl x3), some (.inl 1), some (.inl x5), some (.inl x6), z7], [.inl x6, .inl x2, .inr (sm_R M a0 58)], M)) sm_a190_111 rfl rfl rfl ?_
  refine ru_go (t := (122, [some (.inr (some a0)), some (.inl x1), some (.inl x2), some (.inl x3), some (.inl 1), some (.inl x5), some (.inl x6), z7], [.inl x6, .inl x2, .inr (sm_R M a0 58)], M)) sm_a190_113 rfl rfl (st_goto (pc := 113) (by decide)) ?_
  obtain ⟨b_2, hb_3, h⟩ := h
  rw [hb_3]
  obtain ⟨h_4, h⟩ := h
  obtain ⟨h_5, h⟩ := h
  refine ru_go (t := (123, [some (.inr (some a0)), some (.inl x1), some (.inl x2), some (.inl x3), some (.inl 1), some (.inl x5), some (.inl x6), z7], [], sm_putI M b_2 (x2).toNatClampNeg x6)) sm_a190_122 rfl rfl (st_iast h_4 h_5) ?_
  refine ru_go (t := (271, [some (.inr (some a0)), some (.inl x1), some (.inl x2), some (.inl x3), some (.inl 1), some (.inl x5), some (.inl x6), z7], [], sm_putI M b_2 (x2).toNatClampNeg x6)) sm_a190_123 rfl rfl (st_goto (pc := 123) (by decide)) ?_
  exact h
theorem bb_190_126 {d : Nat} {M : sm_M} {Q : Option sm_V → sm_M → Prop} {a0 : Nat} {x1 : Int32} {x2 : Int32} {x3 : Int32} {x4 : Int32} {x5 : Int32} {z6 : Option sm_V} {z7 : Option sm_V}
    (h : ((x4 = 0 → sm_Run (d + 1) 190 148 [some (.inr (some a0)), some (.inl x1), some (.inl x2), some (.inl x3), some (.inl x4), some (.inl x5), z6, z7] [] M Q) ∧ (¬ (x4 = 0) → ((¬ x3 = 1 → sm_Run (d + 1) 190 148 [some (.inr (some a0)), some (.inl x1), some (.inl x2), some (.inl x3), some (.inl x4), some (.inl x5), z6, z7] [] M Q) ∧ (¬ (¬ x3 = 1) → sm_K M a0 = 39 ∧ ∃ b_4, sm_R M a0 59 = some b_4 ∧ sm_wA 1 M b_4 ∧ sm_in_ M b_4 x2 ∧ sm_Run (d + 1) 190 271 [some (.inr (some a0)), some (.inl x1), some (.inl x2), some (.inl x3), some (.inl x4), some (.inl x5), z6, z7] [] (sm_putI M b_4 (x2).toNatClampNeg (x2 + 1)) Q))))) :
    sm_Run (d + 1) 190 126 [some (.inr (some a0)), some (.inl x1), some (.inl x2), some (.inl x3), some (.inl x4), some (.inl x5), z6, z7] [] M Q := by
  refine ru_go (t := (128, [some (.inr (some a0)), some (.inl x1), some (.inl x2), some (.inl x3), some (.inl x4), some (.inl x5), z6, z7], [.inl x4], M)) sm_a190_126 rfl rfl rfl ?_
  refine ru_if (pc := 128) (p := 148) (p2 := 131) sm_a190_128 (by decide) rfl ⟨fun hc_1 => ?_, fun hc_1 => ?_⟩
  · have h := h.1 hc_1
    exact h
  · have h := h.2 hc_1
    refine ru_go (t := (132, [some (.inr (some a0)), some (.inl x1), some (.inl x2), some (.inl x3), some (.inl x4), some (.inl x5), z6, z7], [.inl x3], M)) sm_a190_131 rfl rfl rfl ?_
    refine ru_go (t := (133, [some (.inr (some a0)), some (.inl x1), some (.inl x2), some (.inl x3), some (.inl x4), some (.inl x5), z6, z7], [.inl 1, .inl x3], M)) sm_a190_132 rfl rfl (st_iconst (by decide)) ?_
    refine ru_icmp (pc := 133) (p := 148) (p2 := 136) sm_a190_133 (by decide) rfl ⟨fun hc_2 => ?_, fun hc_2 => ?_⟩
    · have h := h.1 hc_2
      exact h
    · have h := h.2 hc_2
      refine ru_go (t := (137, [some (.inr (some a0)), some (.inl x1), some (.inl x2), some (.inl x3), some (.inl x4), some (.inl x5), z6, z7], [.inr (some a0)], M)) sm_a190_136 rfl rfl rfl ?_
      obtain ⟨h_3, h⟩ := h
      refine ru_go (t := (140, [some (.inr (some a0)), some (.inl x1), some (.inl x2), some (.inl x3), some (.inl x4), some (.inl x5), z6, z7], [.inr (sm_R M a0 59)], M)) sm_a190_137 rfl rfl (st_getR h_3 rfl rfl) ?_
      refine ru_go (t := (141, [some (.inr (some a0)), some (.inl x1), some (.inl x2), some (.inl x3), some (.inl x4), some (.inl x5), z6, z7], [.inl x2, .inr (sm_R M a0 59)], M)) sm_a190_140 rfl rfl rfl ?_
      refine ru_go (t := (142, [some (.inr (some a0)), some (.inl x1), some (.inl x2), some (.inl x3), some (.inl x4), some (.inl x5), z6, z7], [.inl x2, .inl x2, .inr (sm_R M a0 59)], M)) sm_a190_141 rfl rfl rfl ?_
      refine ru_go (t := (143, [some (.inr (some a0)), some (.inl x1), some (.inl x2), some (.inl x3), some (.inl x4), some (.inl x5), z6, z7], [.inl 1, .inl x2, .inl x2, .inr (sm_R M a0 59)], M)) sm_a190_142 rfl rfl (st_iconst (by decide)) ?_
      refine ru_go (t := (144, [some (.inr (some a0)), some (.inl x1), some (.inl x2), some (.inl x3), some (.inl x4), some (.inl x5), z6, z7], [.inl (x2 + 1), .inl x2, .inr (sm_R M a0 59)], M)) sm_a190_143 rfl rfl rfl ?_
      obtain ⟨b_4, hb_5, h⟩ := h
      rw [hb_5]
      obtain ⟨h_6, h⟩ := h
      obtain ⟨h_7, h⟩ := h
      refine ru_go (t := (145, [some (.inr (some a0)), some (.inl x1), some (.inl x2), some (.inl x3), some (.inl x4), some (.inl x5), z6, z7], [], sm_putI M b_4 (x2).toNatClampNeg (x2 + 1))) sm_a190_144 rfl rfl (st_iast h_6 h_7) ?_
      refine ru_go (t := (271, [some (.inr (some a0)), some (.inl x1), some (.inl x2), some (.inl x3), some (.inl x4), some (.inl x5), z6, z7], [], sm_putI M b_4 (x2).toNatClampNeg (x2 + 1))) sm_a190_145 rfl rfl (st_goto (pc := 145) (by decide)) ?_
      exact h
theorem bb_190_148 {d : Nat} {M : sm_M} {Q : Option sm_V → sm_M → Prop} {a0 : Nat} {x1 : Int32} {x2 : Int32} {x3 : Int32} {x4 : Int32} {x5 : Int32} {z6 : Option sm_V} {z7 : Option sm_V}
    (h : ((x4 = 0 → sm_Run (d + 1) 190 219 [some (.inr (some a0)), some (.inl x1), some (.inl x2), some (.inl x3), some (.inl x4), some (.inl x5), z6, z7] [] M Q) ∧ (¬ (x4 = 0) → ((¬ x3 = 3 → sm_Run (d + 1) 190 219 [some (.inr (some a0)), some (.inl x1), some (.inl x2), some (.inl x3), some (.inl x4), some (.inl x5), z6, z7] [] M Q) ∧ (¬ (¬ x3 = 3) → sm_K M a0 = 39 ∧ ∃ b_4, sm_R M a0 81 = some b_4 ∧ sm_iA M b_4 ∧ sm_in_ M b_4 (x5 + 2) ∧ ∃ b_8, sm_R M a0 81 = some b_8 ∧ sm_iA M b_8 ∧ sm_in_ M b_8 (x5 + 3) ∧ ∃ b_12, sm_R M a0 85 = some b_12 ∧ sm_wA 1 M b_12 ∧ sm_in_ M b_12 x2 ∧ ∃ b_16, sm_R (sm_putI M b_12 (x2).toNatClampNeg ((sm_I M b_4 (x5 + 2).toNatClampNeg) + (256 * (sm_I M b_8 (x5 + 3).toNatClampNeg)))) a0 85 = some b_16 ∧ sm_iA M b_16 ∧ sm_in_ M b_16 x2 ∧ (((sm_I (sm_putI M b_12 (x2).toNatClampNeg ((sm_I M b_4 (x5 + 2).toNatClampNeg) + (256 * (sm_I M b_8 (x5 + 3).toNatClampNeg)))) b_16 (x2).toNatClampNeg) < 18 → sm_Run (d + 1) 190 213 [some (.inr (some a0)), some (.inl x1), some (.inl x2), some (.inl x3), some (.inl x4), some (.inl x5), z6, z7] [] (sm_putI M b_12 (x2).toNatClampNeg ((sm_I M b_4 (x5 + 2).toNatClampNeg) + (256 * (sm_I M b_8 (x5 + 3).toNatClampNeg)))) Q) ∧ (¬ ((sm_I (sm_putI M b_12 (x2).toNatClampNeg ((sm_I M b_4 (x5 + 2).toNatClampNeg) + (256 * (sm_I M b_8 (x5 + 3).toNatClampNeg)))) b_16 (x2).toNatClampNeg) < 18) → ∃ b_21, sm_R (sm_putI M b_12 (x2).toNatClampNeg ((sm_I M b_4 (x5 + 2).toNatClampNeg) + (256 * (sm_I M b_8 (x5 + 3).toNatClampNeg)))) a0 85 = some b_21 ∧ sm_iA M b_21 ∧ sm_in_ M b_21 x2 ∧ ((60 < (sm_I (sm_putI M b_12 (x2).toNatClampNeg ((sm_I M b_4 (x5 + 2).toNatClampNeg) + (256 * (sm_I M b_8 (x5 + 3).toNatClampNeg)))) b_21 (x2).toNatClampNeg) → sm_Run (d + 1) 190 213 [some (.inr (some a0)), some (.inl x1), some (.inl x2), some (.inl x3), some (.inl x4), some (.inl x5), z6, z7] [] (sm_putI M b_12 (x2).toNatClampNeg ((sm_I M b_4 (x5 + 2).toNatClampNeg) + (256 * (sm_I M b_8 (x5 + 3).toNatClampNeg)))) Q) ∧ (¬ (60 < (sm_I (sm_putI M b_12 (x2).toNatClampNeg ((sm_I M b_4 (x5 + 2).toNatClampNeg) + (256 * (sm_I M b_8 (x5 + 3).toNatClampNeg)))) b_21 (x2).toNatClampNeg)) → sm_Run (d + 1) 190 271 [some (.inr (some a0)), some (.inl x1), some (.inl x2), some (.inl x3), some (.inl 1), some (.inl x5), z6, z7] [] (sm_putI M b_12 (x2).toNatClampNeg ((sm_I M b_4 (x5 + 2).toNatClampNeg) + (256 * (sm_I M b_8 (x5 + 3).toNatClampNeg)))) Q))))))))) :
    sm_Run (d + 1) 190 148 [some (.inr (some a0)), some (.inl x1), some (.inl x2), some (.inl x3), some (.inl x4), some (.inl x5), z6, z7] [] M Q := by
  refine ru_go (t := (150, [some (.inr (some a0)), some (.inl x1), some (.inl x2), some (.inl x3), some (.inl x4), some (.inl x5), z6, z7], [.inl x4], M)) sm_a190_148 rfl rfl rfl ?_
  refine ru_if (pc := 150) (p := 219) (p2 := 153) sm_a190_150 (by decide) rfl ⟨fun hc_1 => ?_, fun hc_1 => ?_⟩
  · have h := h.1 hc_1
    exact h
  · have h := h.2 hc_1
    refine ru_go (t := (154, [some (.inr (some a0)), some (.inl x1), some (.inl x2), some (.inl x3), some (.inl x4), some (.inl x5), z6, z7], [.inl x3], M)) sm_a190_153 rfl rfl rfl ?_
    refine ru_go (t := (155, [some (.inr (some a0)), some (.inl x1), some (.inl x2), some (.inl x3), some (.inl x4), some (.inl x5), z6, z7], [.inl 3, .inl x3], M)) sm_a190_154 rfl rfl (st_iconst (by decide)) ?_
    refine ru_icmp (pc := 155) (p := 219) (p2 := 158) sm_a190_155 (by decide) rfl ⟨fun hc_2 => ?_, fun hc_2 => ?_⟩
    · have h := h.1 hc_2
      exact h
    · have h := h.2 hc_2
      refine ru_go (t := (159, [some (.inr (some a0)), some (.inl x1), some (.inl x2), some (.inl x3), some (.inl x4), some (.inl x5), z6, z7], [.inr (some a0)], M)) sm_a190_158 rfl rfl rfl ?_
      obtain ⟨h_3, h⟩ := h
      refine ru_go (t := (162, [some (.inr (some a0)), some (.inl x1), some (.inl x2), some (.inl x3), some (.inl x4), some (.inl x5), z6, z7], [.inr (sm_R M a0 85)], M)) sm_a190_159 rfl rfl (st_getR h_3 rfl rfl) ?_
      refine ru_go (t := (163, [some (.inr (some a0)), some (.inl x1), some (.inl x2), some (.inl x3), some (.inl x4), some (.inl x5), z6, z7], [.inl x2, .inr (sm_R M a0 85)], M)) sm_a190_162 rfl rfl rfl ?_
      refine ru_go (t := (164, [some (.inr (some a0)), some (.inl x1), some (.inl x2), some (.inl x3), some (.inl x4), some (.inl x5), z6, z7], [.inr (some a0), .inl x2, .inr (sm_R M a0 85)], M)) sm_a190_163 rfl rfl rfl ?_
      refine ru_go (t := (167, [some (.inr (some a0)), some (.inl x1), some (.inl x2), some (.inl x3), some (.inl x4), some (.inl x5), z6, z7], [.inr (sm_R M a0 81), .inl x2, .inr (sm_R M a0 85)], M)) sm_a190_164 rfl rfl (st_getR h_3 rfl rfl) ?_
      refine ru_go (t := (169, [some (.inr (some a0)), some (.inl x1), some (.inl x2), some (.inl x3), some (.inl x4), some (.inl x5), z6, z7], [.inl x5, .inr (sm_R M a0 81), .inl x2, .inr (sm_R M a0 85)], M)) sm_a190_167 rfl rfl rfl ?_
      refine ru_go (t := (170, [some (.inr (some a0)), some (.inl x1), some (.inl x2), some (.inl x3), some (.inl x4), some (.inl x5), z6, z7], [.inl 2, .inl x5, .inr (sm_R M a0 81), .inl x2, .inr (sm_R M a0 85)], M)) sm_a190_169 rfl rfl (st_iconst (by decide)) ?_
      refine ru_go (t := (171, [some (.inr (some a0)), some (.inl x1), some (.inl x2), some (.inl x3), some (.inl x4), some (.inl x5), z6, z7], [.inl (x5 + 2), .inr (sm_R M a0 81), .inl x2, .inr (sm_R M a0 85)], M)) sm_a190_170 rfl rfl rfl ?_
      obtain ⟨b_4, hb_5, h⟩ := h
      rw [hb_5]
      obtain ⟨h_6, h⟩ := h
      obtain ⟨h_7, h⟩ := h
      refine ru_go (t := (172, [some (.inr (some a0)), some (.inl x1), some (.inl x2), some (.inl x3), some (.inl x4), some (.inl x5), z6, z7], [.inl (sm_I M b_4 (x5 + 2).toNatClampNeg), .inl x2, .inr (sm_R M a0 85)], M)) sm_a190_171 rfl rfl (st_iald h_6 h_7) ?_
      refine ru_go (t := (175, [some (.inr (some a0)), some (.inl x1), some (.inl x2), some (.inl x3), some (.inl x4), some (.inl x5), z6, z7], [.inl 256, .inl (sm_I M b_4 (x5 + 2).toNatClampNeg), .inl x2, .inr (sm_R M a0 85)], M)) sm_a190_172 rfl rfl (st_sipush (by decide)) ?_
      refine ru_go (t := (176, [some (.inr (some a0)), some (.inl x1), some (.inl x2), some (.inl x3), some (.inl x4), some (.inl x5), z6, z7], [.inr (some a0), .inl 256, .inl (sm_I M b_4 (x5 + 2).toNatClampNeg), .inl x2, .inr (sm_R M a0 85)], M)) sm_a190_175 rfl rfl rfl ?_
      refine ru_go (t := (179, [some (.inr (some a0)), some (.inl x1), some (.inl x2), some (.inl x3), some (.inl x4), some (.inl x5), z6, z7], [.inr (sm_R M a0 81), .inl 256, .inl (sm_I M b_4 (x5 + 2).toNatClampNeg), .inl x2, .inr (sm_R M a0 85)], M)) sm_a190_176 rfl rfl (st_getR h_3 rfl rfl) ?_
      refine ru_go (t := (181, [some (.inr (some a0)), some (.inl x1), some (.inl x2), some (.inl x3), some (.inl x4), some (.inl x5), z6, z7], [.inl x5, .inr (sm_R M a0 81), .inl 256, .inl (sm_I M b_4 (x5 + 2).toNatClampNeg), .inl x2, .inr (sm_R M a0 85)], M)) sm_a190_179 rfl rfl rfl ?_
      refine ru_go (t := (182, [some (.inr (some a0)), some (.inl x1), some (.inl x2), some (.inl x3), some (.inl x4), some (.inl x5), z6, z7], [.inl 3, .inl x5, .inr (sm_R M a0 81), .inl 256, .inl (sm_I M b_4 (x5 + 2).toNatClampNeg), .inl x2, .inr (sm_R M a0 85)], M)) sm_a190_181 rfl rfl (st_iconst (by decide)) ?_
      refine ru_go (t := (183, [some (.inr (some a0)), some (.inl x1), some (.inl x2), some (.inl x3), some (.inl x4), some (.inl x5), z6, z7], [.inl (x5 + 3), .inr (sm_R M a0 81), .inl 256, .inl (sm_I M b_4 (x5 + 2).toNatClampNeg), .inl x2, .inr (sm_R M a0 85)], M)) sm_a190_182 rfl rfl rfl ?_
      obtain ⟨b_8, hb_9, h⟩ := h
      rw [hb_9]
      obtain ⟨h_10, h⟩ := h
      obtain ⟨h_11, h⟩ := h
      refine ru_go (t := (184, [some (.inr (some a0)), some (.inl x1), some (.inl x2), some (.inl x3), some (.inl x4), some (.inl x5), z6, z7], [.inl (sm_I M b_8 (x5 + 3).toNatClampNeg), .inl 256, .inl (sm_I M b_4 (x5 + 2).toNatClampNeg), .inl x2, .inr (sm_R M a0 85)], M)) sm_a190_183 rfl rfl (st_iald h_10 h_11) ?_
      refine ru_go (t := (185, [some (.inr (some a0)), some (.inl x1), some (.inl x2), some (.inl x3), some (.inl x4), some (.inl x5), z6, z7], [.inl (256 * (sm_I M b_8 (x5 + 3).toNatClampNeg)), .inl (sm_I M b_4 (x5 + 2).toNatClampNeg), .inl x2, .inr (sm_R M a0 85)], M)) sm_a190_184 rfl rfl rfl ?_
      refine ru_go (t := (186, [some (.inr (some a0)), some (.inl x1), some (.inl x2), some (.inl x3), some (.inl x4), some (.inl x5), z6, z7], [.inl ((sm_I M b_4 (x5 + 2).toNatClampNeg) + (256 * (sm_I M b_8 (x5 + 3).toNatClampNeg))), .inl x2, .inr (sm_R M a0 85)], M)) sm_a190_185 rfl rfl rfl ?_
      obtain ⟨b_12, hb_13, h⟩ := h
      rw [hb_13]
      obtain ⟨h_14, h⟩ := h
      obtain ⟨h_15, h⟩ := h
      refine ru_go (t := (187, [some (.inr (some a0)), some (.inl x1), some (.inl x2), some (.inl x3), some (.inl x4), some (.inl x5), z6, z7], [], sm_putI M b_12 (x2).toNatClampNeg ((sm_I M b_4 (x5 + 2).toNatClampNeg) + (256 * (sm_I M b_8 (x5 + 3).toNatClampNeg))))) sm_a190_186 rfl rfl (st_iast h_14 h_15) ?_
      refine ru_go (t := (188, [some (.inr (some a0)), some (.inl x1), some (.inl x2), some (.inl x3), some (.inl x4), some (.inl x5), z6, z7], [.inr (some a0)], sm_putI M b_12 (x2).toNatClampNeg ((sm_I M b_4 (x5 + 2).toNatClampNeg) + (256 * (sm_I M b_8 (x5 + 3).toNatClampNeg))))) sm_a190_187 rfl rfl rfl ?_
      refine ru_go (t := (191, [some (.inr (some a0)), some (.inl x1), some (.inl x2), some (.inl x3), some (.inl x4), some (.inl x5), z6, z7], [.inr (sm_R (sm_putI M b_12 (x2).toNatClampNeg ((sm_I M b_4 (x5 + 2).toNatClampNeg) + (256 * (sm_I M b_8 (x5 + 3).toNatClampNeg)))) a0 85)], sm_putI M b_12 (x2).toNatClampNeg ((sm_I M b_4 (x5 + 2).toNatClampNeg) + (256 * (sm_I M b_8 (x5 + 3).toNatClampNeg))))) sm_a190_188 rfl rfl (st_getR h_3 rfl rfl) ?_
      refine ru_go (t := (192, [some (.inr (some a0)), some (.inl x1), some (.inl x2), some (.inl x3), some (.inl x4), some (.inl x5), z6, z7], [.inl x2, .inr (sm_R (sm_putI M b_12 (x2).toNatClampNeg ((sm_I M b_4 (x5 + 2).toNatClampNeg) + (256 * (sm_I M b_8 (x5 + 3).toNatClampNeg)))) a0 85)], sm_putI M b_12 (x2).toNatClampNeg ((sm_I M b_4 (x5 + 2).toNatClampNeg) + (256 * (sm_I M b_8 (x5 + 3).toNatClampNeg))))) sm_a190_191 rfl rfl rfl ?_
      obtain ⟨b_16, hb_17, h⟩ := h
      rw [hb_17]
      obtain ⟨h_18, h⟩ := h
      obtain ⟨h_19, h⟩ := h
      refine ru_go (t := (193, [some (.inr (some a0)), some (.inl x1), some (.inl x2), some (.inl x3), some (.inl x4), some (.inl x5), z6, z7], [.inl (sm_I (sm_putI M b_12 (x2).toNatClampNeg ((sm_I M b_4 (x5 + 2).toNatClampNeg) + (256 * (sm_I M b_8 (x5 + 3).toNatClampNeg)))) b_16 (x2).toNatClampNeg)], sm_putI M b_12 (x2).toNatClampNeg ((sm_I M b_4 (x5 + 2).toNatClampNeg) + (256 * (sm_I M b_8 (x5 + 3).toNatClampNeg))))) sm_a190_192 rfl rfl (st_iald h_18 h_19) ?_
      refine ru_go (t := (195, [some (.inr (some a0)), some (.inl x1), some (.inl x2), some (.inl x3), some (.inl x4), some (.inl x5), z6, z7], [.inl 18, .inl (sm_I (sm_putI M b_12 (x2).toNatClampNeg ((sm_I M b_4 (x5 + 2).toNatClampNeg) + (256 * (sm_I M b_8 (x5 + 3).toNatClampNeg)))) b_16 (x2).toNatClampNeg)], sm_putI M b_12 (x2).toNatClampNeg ((sm_I M b_4 (x5 + 2).toNatClampNeg) + (256 * (sm_I M b_8 (x5 + 3).toNatClampNeg))))) sm_a190_193 rfl rfl (st_bipush (by decide)) ?_
      refine ru_icmp (pc := 195) (p := 213) (p2 := 198) sm_a190_195 (by decide) rfl ⟨fun hc_20 => ?_, fun hc_20 => ?_⟩
      · have h := h.1 hc_20
        exact h
      · have h := h.2 hc_20
        refine ru_go (t := (199, [some (.inr (some a0)), some (.inl x1), some (.inl x2), some (.inl x3), some (.inl x4), some (.inl x5), z6, z7], [.inr (some a0)], sm_putI M b_12 (x2).toNatClampNeg ((sm_I M b_4 (x5 + 2).toNatClampNeg) + (256 * (sm_I M b_8 (x5 + 3).toNatClampNeg))))) sm_a190_198 rfl rfl rfl ?_
        refine ru_go (t := (202, [some (.inr (some a0)), some (.inl x1), some (.inl x2), some (.inl x3), some (.inl x4), some (.inl x5), z6, z7], [.inr (sm_R (sm_putI M b_12 (x2).toNatClampNeg ((sm_I M b_4 (x5 + 2).toNatClampNeg) + (256 * (sm_I M b_8 (x5 + 3).toNatClampNeg)))) a0 85)], sm_putI M b_12 (x2).toNatClampNeg ((sm_I M b_4 (x5 + 2).toNatClampNeg) + (256 * (sm_I M b_8 (x5 + 3).toNatClampNeg))))) sm_a190_199 rfl rfl (st_getR h_3 rfl rfl) ?_
        refine ru_go (t := (203, [some (.inr (some a0)), some (.inl x1), some (.inl x2), some (.inl x3), some (.inl x4), some (.inl x5), z6, z7], [.inl x2, .inr (sm_R (sm_putI M b_12 (x2).toNatClampNeg ((sm_I M b_4 (x5 + 2).toNatClampNeg) + (256 * (sm_I M b_8 (x5 + 3).toNatClampNeg)))) a0 85)], sm_putI M b_12 (x2).toNatClampNeg ((sm_I M b_4 (x5 + 2).toNatClampNeg) + (256 * (sm_I M b_8 (x5 + 3).toNatClampNeg))))) sm_a190_202 rfl rfl rfl ?_
        obtain ⟨b_21, hb_22, h⟩ := h
        rw [hb_22]
        obtain ⟨h_23, h⟩ := h
        obtain ⟨h_24, h⟩ := h
        refine ru_go (t := (204, [some (.inr (some a0)), some (.inl x1), some (.inl x2), some (.inl x3), some (.inl x4), some (.inl x5), z6, z7], [.inl (sm_I (sm_putI M b_12 (x2).toNatClampNeg ((sm_I M b_4 (x5 + 2).toNatClampNeg) + (256 * (sm_I M b_8 (x5 + 3).toNatClampNeg)))) b_21 (x2).toNatClampNeg)], sm_putI M b_12 (x2).toNatClampNeg ((sm_I M b_4 (x5 + 2).toNatClampNeg) + (256 * (sm_I M b_8 (x5 + 3).toNatClampNeg))))) sm_a190_203 rfl rfl (st_iald h_23 h_24) ?_
        refine ru_go (t := (206, [some (.inr (some a0)), some (.inl x1), some (.inl x2), some (.inl x3), some (.inl x4), some (.inl x5), z6, z7], [.inl 60, .inl (sm_I (sm_putI M b_12 (x2).toNatClampNeg ((sm_I M b_4 (x5 + 2).toNatClampNeg) + (256 * (sm_I M b_8 (x5 + 3).toNatClampNeg)))) b_21 (x2).toNatClampNeg)], sm_putI M b_12 (x2).toNatClampNeg ((sm_I M b_4 (x5 + 2).toNatClampNeg) + (256 * (sm_I M b_8 (x5 + 3).toNatClampNeg))))) sm_a190_204 rfl rfl (st_bipush (by decide)) ?_
        refine ru_icmp (pc := 206) (p := 213) (p2 := 209) sm_a190_206 (by decide) rfl ⟨fun hc_25 => ?_, fun hc_25 => ?_⟩
        · have h := h.1 hc_25
          exact h
        · have h := h.2 hc_25
          refine ru_go (t := (210, [some (.inr (some a0)), some (.inl x1), some (.inl x2), some (.inl x3), some (.inl x4), some (.inl x5), z6, z7], [.inl 1], sm_putI M b_12 (x2).toNatClampNeg ((sm_I M b_4 (x5 + 2).toNatClampNeg) + (256 * (sm_I M b_8 (x5 + 3).toNatClampNeg))))) sm_a190_209 rfl rfl (st_iconst (by decide)) ?_
          refine ru_go (t := (214, [some (.inr (some a0)), some (.inl x1), some (.inl x2), some (.inl x3), some (.inl x4), some (.inl x5), z6, z7], [.inl 1], sm_putI M b_12 (x2).toNatClampNeg ((sm_I M b_4 (x5 + 2).toNatClampNeg) + (256 * (sm_I M b_8 (x5 + 3).toNatClampNeg))))) sm_a190_210 rfl rfl (st_goto (pc := 210) (by decide)) ?_
          refine ru_go (t := (216, [some (.inr (some a0)), some (.inl x1), some (.inl x2), some (.inl x3), some (.inl 1), some (.inl x5), z6, z7], [], sm_putI M b_12 (x2).toNatClampNeg ((sm_I M b_4 (x5 + 2).toNatClampNeg) + (256 * (sm_I M b_8 (x5 + 3).toNatClampNeg))))) sm_a190_214 rfl rfl rfl ?_
          refine ru_go (t := (271, [some (.inr (some a0)), some (.inl x1), some (.inl x2), some (.inl x3), some (.inl 1), some (.inl x5), z6, z7], [], sm_putI M b_12 (x2).toNatClampNeg ((sm_I M b_4 (x5 + 2).toNatClampNeg) + (256 * (sm_I M b_8 (x5 + 3).toNatClampNeg))))) sm_a190_216 rfl rfl (st_goto (pc := 216) (by decide)) ?_
          exact h
theorem bb_190_213 {d : Nat} {M : sm_M} {Q : Option sm_V → sm_M → Prop} {a0 : Nat} {x1 : Int32} {x2 : Int32} {x3 : Int32} {x4 : Int32} {x5 : Int32} {z6 : Option sm_V} {z7 : Option sm_V}
    (h : sm_Run (d + 1) 190 271 [some (.inr (some a0)), some (.inl x1), some (.inl x2), some (.inl x3), some (.inl 0), some (.inl x5), z6, z7] [] M Q) :
    sm_Run (d + 1) 190 213 [some (.inr (some a0)), some (.inl x1), some (.inl x2), some (.inl x3), some (.inl x4), some (.inl x5), z6, z7] [] M Q := by
  refine ru_go (t := (214, [some (.inr (some a0)), some (.inl x1), some (.inl x2), some (.inl x3), some (.inl x4), some (.inl x5), z6, z7], [.inl 0], M)) sm_a190_213 rfl rfl (st_iconst (by decide)) ?_
  refine ru_go (t := (216, [some (.inr (some a0)), some (.inl x1), some (.inl x2), some (.inl x3), some (.inl 0), some (.inl x5), z6, z7], [], M)) sm_a190_214 rfl rfl rfl ?_
  refine ru_go (t := (271, [some (.inr (some a0)), some (.inl x1), some (.inl x2), some (.inl x3), some (.inl 0), some (.inl x5), z6, z7], [], M)) sm_a190_216 rfl rfl (st_goto (pc := 216) (by decide)) ?_
  exact h
theorem bb_190_219 {d : Nat} {M : sm_M} {Q : Option sm_V → sm_M → Prop} {a0 : Nat} {x1 : Int32} {x2 : Int32} {x3 : Int32} {x4 : Int32} {x5 : Int32} {z6 : Option sm_V} {z7 : Option sm_V}
    (h : ((x4 = 0 → sm_Run (d + 1) 190 271 [some (.inr (some a0)), some (.inl x1), some (.inl x2), some (.inl x3), some (.inl x4), some (.inl x5), z6, z7] [] M Q) ∧ (¬ (x4 = 0) → ((¬ x3 = 4 → sm_Run (d + 1) 190 271 [some (.inr (some a0)), some (.inl x1), some (.inl x2), some (.inl x3), some (.inl x4), some (.inl x5), z6, z7] [] M Q) ∧ (¬ (¬ x3 = 4) → sm_Run (d + 1) 190 232 [some (.inr (some a0)), some (.inl x1), some (.inl x2), some (.inl x3), some (.inl x4), some (.inl x5), some (.inl 0), z7] [] M Q))))) :
    sm_Run (d + 1) 190 219 [some (.inr (some a0)), some (.inl x1), some (.inl x2), some (.inl x3), some (.inl x4), some (.inl x5), z6, z7] [] M Q := by
  refine ru_go (t := (221, [some (.inr (some a0)), some (.inl x1), some (.inl x2), some (.inl x3), some (.inl x4), some (.inl x5), z6, z7], [.inl x4], M)) sm_a190_219 rfl rfl rfl ?_
  refine ru_if (pc := 221) (p := 271) (p2 := 224) sm_a190_221 (by decide) rfl ⟨fun hc_1 => ?_, fun hc_1 => ?_⟩
  · have h := h.1 hc_1
    exact h
  · have h := h.2 hc_1
    refine ru_go (t := (225, [some (.inr (some a0)), some (.inl x1), some (.inl x2), some (.inl x3), some (.inl x4), some (.inl x5), z6, z7], [.inl x3], M)) sm_a190_224 rfl rfl rfl ?_
    refine ru_go (t := (226, [some (.inr (some a0)), some (.inl x1), some (.inl x2), some (.inl x3), some (.inl x4), some (.inl x5), z6, z7], [.inl 4, .inl x3], M)) sm_a190_225 rfl rfl (st_iconst (by decide)) ?_
    refine ru_icmp (pc := 226) (p := 271) (p2 := 229) sm_a190_226 (by decide) rfl ⟨fun hc_2 => ?_, fun hc_2 => ?_⟩
    · have h := h.1 hc_2
      exact h
    · have h := h.2 hc_2
      refine ru_go (t := (230, [some (.inr (some a0)), some (.inl x1), some (.inl x2), some (.inl x3), some (.inl x4), some (.inl x5), z6, z7], [.inl 0], M)) sm_a190_229 rfl rfl (st_iconst (by decide)) ?_
      refine ru_go (t := (232, [some (.inr (some a0)), some (.inl x1), some (.inl x2), some (.inl x3), some (.inl x4), some (.inl x5), some (.inl 0), z7], [], M)) sm_a190_230 rfl rfl rfl ?_
      exact h
theorem bb_190_232 {d : Nat} {M : sm_M} {Q : Option sm_V → sm_M → Prop} {a0 : Nat} {x1 : Int32} {x2 : Int32} {x3 : Int32} {x4 : Int32} {x5 : Int32} {x6 : Int32} {z7 : Option sm_V}
    (h : sm_K M a0 = 39 ∧ ∃ b_2, sm_R M a0 74 = some b_2 ∧ sm_iA M b_2 ∧ sm_in_ M b_2 x1 ∧ (((sm_I M b_2 (x1).toNatClampNeg) ≤ x6 → sm_Run (d + 1) 190 271 [some (.inr (some a0)), some (.inl x1), some (.inl x2), some (.inl x3), some (.inl x4), some (.inl x5), some (.inl x6), z7] [] M Q) ∧ (¬ ((sm_I M b_2 (x1).toNatClampNeg) ≤ x6) → ∃ b_7, sm_R M a0 81 = some b_7 ∧ sm_iA M b_7 ∧ sm_in_ M b_7 (x5 + x6) ∧ ∃ b_11, sm_R M a0 86 = some b_11 ∧ sm_wA 1 M b_11 ∧ sm_in_ M b_11 ((60 * x2) + x6) ∧ sm_Run (d + 1) 190 232 [some (.inr (some a0)), some (.inl x1), some (.inl x2), some (.inl x3), some (.inl x4), some (.inl x5), some (.inl (x6 + 1)), z7] [] (sm_putI M b_11 ((60 * x2) + x6).toNatClampNeg (sm_I M b_7 (x5 + x6).toNatClampNeg)) Q))) :
    sm_Run (d + 1) 190 232 [some (.inr (some a0)), some (.inl x1), some (.inl x2), some (.inl x3), some (.inl x4), some (.inl x5), some (.inl x6), z7] [] M Q := by
  refine ru_go (t := (234, [some (.inr (some a0)), some (.inl x1), some (.inl x2), some (.inl x3), some (.inl x4), some (.inl x5), some (.inl x6), z7], [.inl x6], M)) sm_a190_232 rfl rfl rfl ?_
  refine ru_go (t := (235, [some (.inr (some a0)), some (.inl x1), some (.inl x2), some (.inl x3), some (.inl x4), some (.inl x5), some (.inl x6), z7], [.inr (some a0), .inl x6], M)) sm_a190_234 rfl rfl rfl ?_
  obtain ⟨h_1, h⟩ := h
  refine ru_go (t := (238, [some (.inr (some a0)), some (.inl x1), some (.inl x2), some (.inl x3), some (.inl x4), some (.inl x5), some (.inl x6), z7], [.inr (sm_R M a0 74), .inl x6], M)) sm_a190_235 rfl rfl (st_getR h_1 rfl rfl) ?_
  refine ru_go (t := (239, [some (.inr (some a0)), some (.inl x1), some (.inl x2), some (.inl x3), some (.inl x4), some (.inl x5), some (.inl x6), z7], [.inl x1, .inr (sm_R M a0 74), .inl x6], M)) sm_a190_238 rfl rfl rfl ?_
  obtain ⟨b_2, hb_3, h⟩ := h
  rw [hb_3]
  obtain ⟨h_4, h⟩ := h
  obtain ⟨h_5, h⟩ := h
  refine ru_go (t := (240, [some (.inr (some a0)), some (.inl x1), some (.inl x2), some (.inl x3), some (.inl x4), some (.inl x5), some (.inl x6), z7], [.inl (sm_I M b_2 (x1).toNatClampNeg), .inl x6], M)) sm_a190_239 rfl rfl (st_iald h_4 h_5) ?_
  refine ru_icmp (pc := 240) (p := 271) (p2 := 243) sm_a190_240 (by decide) rfl ⟨fun hc_6 => ?_, fun hc_6 => ?_⟩
  · have h := h.1 hc_6
    exact h
  · have h := h.2 hc_6
    refine ru_go (t := (244, [some (.inr (some a0)), some (.inl x1), some (.inl x2), some (.inl x3), some (.inl x4), some (.inl x5), some (.inl x6), z7], [.inr (some a0)], M)) sm_a190_243 rfl rfl rfl ?_
    refine ru_go (t := (247, [some (.inr (some a0)), some (.inl x1), some (.inl x2), some (.inl x3), some (.inl x4), some (.inl x5), some (.inl x6), z7], [.inr (sm_R M a0 86)], M)) sm_a190_244 rfl rfl (st_getR h_1 rfl rfl) ?_
    refine ru_go (t := (249, [some (.inr (some a0)), some (.inl x1), some (.inl x2), some (.inl x3), some (.inl x4), some (.inl x5), some (.inl x6), z7], [.inl 60, .inr (sm_R M a0 86)], M)) sm_a190_247 rfl rfl (st_bipush (by decide)) ?_
    refine ru_go (t := (250, [some (.inr (some a0)), some (.inl x1), some (.inl x2), some (.inl x3), some (.inl x4), some (.inl x5), some (.inl x6), z7], [.inl x2, .inl 60, .inr (sm_R M a0 86)], M)) sm_a190_249 rfl rfl rfl ?_
    refine ru_go (t := (251, [some (.inr (some a0)), some (.inl x1), some (.inl x2), some (.inl x3), some (.inl x4), some (.inl x5), some (.inl x6), z7], [.inl (60 * x2), .inr (sm_R M a0 86)], M)) sm_a190_250 rfl rfl rfl ?_
    refine ru_go (t := (253, [some (.inr (some a0)), some (.inl x1), some (.inl x2), some (.inl x3), some (.inl x4), some (.inl x5), some (.inl x6), z7], [.inl x6, .inl (60 * x2), .inr (sm_R M a0 86)], M)) sm_a190_251 rfl rfl rfl ?_
    refine ru_go (t := (254, [some (.inr (some a0)), some (.inl x1), some (.inl x2), some (.inl x3), some (.inl x4), some (.inl x5), some (.inl x6), z7], [.inl ((60 * x2) + x6), .inr (sm_R M a0 86)], M)) sm_a190_253 rfl rfl rfl ?_
    refine ru_go (t := (255, [some (.inr (some a0)), some (.inl x1), some (.inl x2), some (.inl x3), some (.inl x4), some (.inl x5), some (.inl x6), z7], [.inr (some a0), .inl ((60 * x2) + x6), .inr (sm_R M a0 86)], M)) sm_a190_254 rfl rfl rfl ?_
    refine ru_go (t := (258, [some (.inr (some a0)), some (.inl x1), some (.inl x2), some (.inl x3), some (.inl x4), some (.inl x5), some (.inl x6), z7], [.inr (sm_R M a0 81), .inl ((60 * x2) + x6), .inr (sm_R M a0 86)], M)) sm_a190_255 rfl rfl (st_getR h_1 rfl rfl) ?_
    refine ru_go (t := (260, [some (.inr (some a0)), some (.inl x1), some (.inl x2), some (.inl x3), some (.inl x4), some (.inl x5), some (.inl x6), z7], [.inl x5, .inr (sm_R M a0 81), .inl ((60 * x2) + x6), .inr (sm_R M a0 86)], M)) sm_a190_258 rfl rfl rfl ?_
    refine ru_go (t := (262, [some (.inr (some a0)), some (.inl x1), some (.inl x2), some (.inl x3), some (.inl x4), some (.inl x5), some (.inl x6), z7], [.inl x6, .inl x5, .inr (sm_R M a0 81), .inl ((60 * x2) + x6), .inr (sm_R M a0 86)], M)) sm_a190_260 rfl rfl rfl ?_
    refine ru_go (t := (263, [some (.inr (some a0)), some (.inl x1), some (.inl x2), some (.inl x3), some (.inl x4), some (.inl x5), some (.inl x6), z7], [.inl (x5 + x6), .inr (sm_R M a0 81), .inl ((60 * x2) + x6), .inr (sm_R M a0 86)], M)) sm_a190_262 rfl rfl rfl ?_
    obtain ⟨b_7, hb_8, h⟩ := h
    rw [hb_8]
    obtain ⟨h_9, h⟩ := h
    obtain ⟨h_10, h⟩ := h
    refine ru_go (t := (264, [some (.inr (some a0)), some (.inl x1), some (.inl x2), some (.inl x3), some (.inl x4), some (.inl x5), some (.inl x6), z7], [.inl (sm_I M b_7 (x5 + x6).toNatClampNeg), .inl ((60 * x2) + x6), .inr (sm_R M a0 86)], M)) sm_a190_263 rfl rfl (st_iald h_9 h_10) ?_
    obtain ⟨b_11, hb_12, h⟩ := h
    rw [hb_12]
    obtain ⟨h_13, h⟩ := h
    obtain ⟨h_14, h⟩ := h
    refine ru_go (t := (265, [some (.inr (some a0)), some (.inl x1), some (.inl x2), some (.inl x3), some (.inl x4), some (.inl x5), some (.inl x6), z7], [], sm_putI M b_11 ((60 * x2) + x6).toNatClampNeg (sm_I M b_7 (x5 + x6).toNatClampNeg))) sm_a190_264 rfl rfl (st_iast h_13 h_14) ?_
    refine ru_go (t := (268, [some (.inr (some a0)), some (.inl x1), some (.inl x2), some (.inl x3), some (.inl x4), some (.inl x5), some (.inl (x6 + 1)), z7], [], sm_putI M b_11 ((60 * x2) + x6).toNatClampNeg (sm_I M b_7 (x5 + x6).toNatClampNeg))) sm_a190_265 rfl rfl (st_iinc rfl (by decide)) ?_
    refine ru_go (t := (232, [some (.inr (some a0)), some (.inl x1), some (.inl x2), some (.inl x3), some (.inl x4), some (.inl x5), some (.inl (x6 + 1)), z7], [], sm_putI M b_11 ((60 * x2) + x6).toNatClampNeg (sm_I M b_7 (x5 + x6).toNatClampNeg))) sm_a190_268 rfl rfl (st_goto (pc := 268) (by decide)) ?_
    exact h
theorem bb_190_271 {d : Nat} {M : sm_M} {Q : Option sm_V → sm_M → Prop} {a0 : Nat} {x1 : Int32} {x2 : Int32} {x3 : Int32} {x4 : Int32} {x5 : Int32} {z6 : Option sm_V} {z7 : Option sm_V}
    (h : ((¬ x4 = 0 → ((5 ≤ x3 → sm_K M a0 = 39 ∧ ∃ b_4, sm_R M a0 57 = some b_4 ∧ sm_wA 1 M b_4 ∧ sm_in_ M b_4 x2 ∧ ∃ b_8, sm_R (sm_putI M b_4 (x2).toNatClampNeg 2) a0 61 = some b_8 ∧ sm_wA 1 M b_8 ∧ sm_in_ M b_8 x2 ∧ sm_Run (d + 1) 190 320 [some (.inr (some a0)), some (.inl x1), some (.inl x2), some (.inl x3), some (.inl x4), some (.inl x5), some (.inl 18), z7] [] (sm_putI (sm_putI M b_4 (x2).toNatClampNeg 2) b_8 (x2).toNatClampNeg 0) Q) ∧ (¬ (5 ≤ x3) → sm_K M a0 = 39 ∧ sm_Run d 188 0 (sm_ent 188 [.inr (some a0), .inl x2, .inl (x3 + 1)]) [] M (fun v M1 => sm_Run (d + 1) 190 299 [some (.inr (some a0)), some (.inl x1), some (.inl x2), some (.inl x3), some (.inl x4), some (.inl x5), z6, z7] (v.toList ++ []) M1 Q)))) ∧ (¬ (¬ x4 = 0) → sm_K M a0 = 39 ∧ ∃ b_14, sm_R M a0 57 = some b_14 ∧ sm_wA 1 M b_14 ∧ sm_in_ M b_14 x2 ∧ Q none (sm_putI M b_14 (x2).toNatClampNeg 3)))) :
    sm_Run (d + 1) 190 271 [some (.inr (some a0)), some (.inl x1), some (.inl x2), some (.inl x3), some (.inl x4), some (.inl x5), z6, z7] [] M Q := by
  refine ru_go (t := (273, [some (.inr (some a0)), some (.inl x1), some (.inl x2), some (.inl x3), some (.inl x4), some (.inl x5), z6, z7], [.inl x4], M)) sm_a190_271 rfl rfl rfl ?_
  refine ru_if (pc := 273) (p := 286) (p2 := 276) sm_a190_273 (by decide) rfl ⟨fun hc_1 => ?_, fun hc_1 => ?_⟩
  · have h := h.1 hc_1
    refine ru_go (t := (287, [some (.inr (some a0)), some (.inl x1), some (.inl x2), some (.inl x3), some (.inl x4), some (.inl x5), z6, z7], [.inl x3], M)) sm_a190_286 rfl rfl rfl ?_
    refine ru_go (t := (288, [some (.inr (some a0)), some (.inl x1), some (.inl x2), some (.inl x3), some (.inl x4), some (.inl x5), z6, z7], [.inl 5, .inl x3], M)) sm_a190_287 rfl rfl (st_iconst (by decide)) ?_
    refine ru_icmp (pc := 288) (p := 302) (p2 := 291) sm_a190_288 (by decide) rfl ⟨fun hc_2 => ?_, fun hc_2 => ?_⟩
    · have h := h.1 hc_2
      refine ru_go (t := (303, [some (.inr (some a0)), some (.inl x1), some (.inl x2), some (.inl x3), some (.inl x4), some (.inl x5), z6, z7], [.inr (some a0)], M)) sm_a190_302 rfl rfl rfl ?_
      obtain ⟨h_3, h⟩ := h
      refine ru_go (t := (306, [some (.inr (some a0)), some (.inl x1), some (.inl x2), some (.inl x3), some (.inl x4), some (.inl x5), z6, z7], [.inr (sm_R M a0 57)], M)) sm_a190_303 rfl rfl (st_getR h_3 rfl rfl) ?_
      refine ru_go (t := (307, [some (.inr (some a0)), some (.inl x1), some (.inl x2), some (.inl x3), some (.inl x4), some (.inl x5), z6, z7], [.inl x2, .inr (sm_R M a0 57)], M)) sm_a190_306 rfl rfl rfl ?_
      refine ru_go (t := (308, [some (.inr (some a0)), some (.inl x1), some (.inl x2), some (.inl x3), some (.inl x4), some (.inl x5), z6, z7], [.inl 2, .inl x2, .inr (sm_R M a0 57)], M)) sm_a190_307 rfl rfl (st_iconst (by decide)) ?_
      obtain ⟨b_4, hb_5, h⟩ := h
      rw [hb_5]
      obtain ⟨h_6, h⟩ := h
      obtain ⟨h_7, h⟩ := h
      refine ru_go (t := (309, [some (.inr (some a0)), some (.inl x1), some (.inl x2), some (.inl x3), some (.inl x4), some (.inl x5), z6, z7], [], sm_putI M b_4 (x2).toNatClampNeg 2)) sm_a190_308 rfl rfl (st_iast h_6 h_7) ?_
      refine ru_go (t := (310, [some (.inr (some a0)), some (.inl x1), some (.inl x2), some (.inl x3), some (.inl x4), some (.inl x5), z6, z7], [.inr (some a0)], sm_putI M b_4 (x2).toNatClampNeg 2)) sm_a190_309 rfl rfl rfl ?_
      refine ru_go (t := (313, [some (.inr (some a0)), some (.inl x1), some (.inl x2), some (.inl x3), some (.inl x4), some (.inl x5), z6, z7], [.inr (sm_R (sm_putI M b_4 (x2).toNatClampNeg 2) a0 61)], sm_putI M b_4 (x2).toNatClampNeg 2)) sm_a190_310 rfl rfl (st_getR h_3 rfl rfl) ?_
      refine ru_go (t := (314, [some (.inr (some a0)), some (.inl x1), some (.inl x2), some (.inl x3), some (.inl x4), some (.inl x5), z6, z7], [.inl x2, .inr (sm_R (sm_putI M b_4 (x2).toNatClampNeg 2) a0 61)], sm_putI M b_4 (x2).toNatClampNeg 2)) sm_a190_313 rfl rfl rfl ?_
      refine ru_go (t := (315, [some (.inr (some a0)), some (.inl x1), some (.inl x2), some (.inl x3), some (.inl x4), some (.inl x5), z6, z7], [.inl 0, .inl x2, .inr (sm_R (sm_putI M b_4 (x2).toNatClampNeg 2) a0 61)], sm_putI M b_4 (x2).toNatClampNeg 2)) sm_a190_314 rfl rfl (st_iconst (by decide)) ?_
      obtain ⟨b_8, hb_9, h⟩ := h
      rw [hb_9]
      obtain ⟨h_10, h⟩ := h
      obtain ⟨h_11, h⟩ := h
      refine ru_go (t := (316, [some (.inr (some a0)), some (.inl x1), some (.inl x2), some (.inl x3), some (.inl x4), some (.inl x5), z6, z7], [], sm_putI (sm_putI M b_4 (x2).toNatClampNeg 2) b_8 (x2).toNatClampNeg 0)) sm_a190_315 rfl rfl (st_iast h_10 h_11) ?_
      refine ru_go (t := (318, [some (.inr (some a0)), some (.inl x1), some (.inl x2), some (.inl x3), some (.inl x4), some (.inl x5), z6, z7], [.inl 18], sm_putI (sm_putI M b_4 (x2).toNatClampNeg 2) b_8 (x2).toNatClampNeg 0)) sm_a190_316 rfl rfl (st_bipush (by decide)) ?_
      refine ru_go (t := (320, [some (.inr (some a0)), some (.inl x1), some (.inl x2), some (.inl x3), some (.inl x4), some (.inl x5), some (.inl 18), z7], [], sm_putI (sm_putI M b_4 (x2).toNatClampNeg 2) b_8 (x2).toNatClampNeg 0)) sm_a190_318 rfl rfl rfl ?_
      exact h
    · have h := h.2 hc_2
      refine ru_go (t := (292, [some (.inr (some a0)), some (.inl x1), some (.inl x2), some (.inl x3), some (.inl x4), some (.inl x5), z6, z7], [.inr (some a0)], M)) sm_a190_291 rfl rfl rfl ?_
      refine ru_go (t := (293, [some (.inr (some a0)), some (.inl x1), some (.inl x2), some (.inl x3), some (.inl x4), some (.inl x5), z6, z7], [.inl x2, .inr (some a0)], M)) sm_a190_292 rfl rfl rfl ?_
      refine ru_go (t := (294, [some (.inr (some a0)), some (.inl x1), some (.inl x2), some (.inl x3), some (.inl x4), some (.inl x5), z6, z7], [.inl x3, .inl x2, .inr (some a0)], M)) sm_a190_293 rfl rfl rfl ?_
      refine ru_go (t := (295, [some (.inr (some a0)), some (.inl x1), some (.inl x2), some (.inl x3), some (.inl x4), some (.inl x5), z6, z7], [.inl 1, .inl x3, .inl x2, .inr (some a0)], M)) sm_a190_294 rfl rfl (st_iconst (by decide)) ?_
      refine ru_go (t := (296, [some (.inr (some a0)), some (.inl x1), some (.inl x2), some (.inl x3), some (.inl x4), some (.inl x5), z6, z7], [.inl (x3 + 1), .inl x2, .inr (some a0)], M)) sm_a190_295 rfl rfl rfl ?_
      obtain ⟨h_12, h⟩ := h
      exact ru_call (p := 299) sm_a190_296 rfl (sc_virt (Or.inl rfl) rfl rfl h_12 (Nat.le_of_ble_eq_true rfl)) rfl h
  · have h := h.2 hc_1
    refine ru_go (t := (277, [some (.inr (some a0)), some (.inl x1), some (.inl x2), some (.inl x3), some (.inl x4), some (.inl x5), z6, z7], [.inr (some a0)], M)) sm_a190_276 rfl rfl rfl ?_
    obtain ⟨h_13, h⟩ := h
    refine ru_go (t := (280, [some (.inr (some a0)), some (.inl x1), some (.inl x2), some (.inl x3), some (.inl x4), some (.inl x5), z6, z7], [.inr (sm_R M a0 57)], M)) sm_a190_277 rfl rfl (st_getR h_13 rfl rfl) ?_
    refine ru_go (t := (281, [some (.inr (some a0)), some (.inl x1), some (.inl x2), some (.inl x3), some (.inl x4), some (.inl x5), z6, z7], [.inl x2, .inr (sm_R M a0 57)], M)) sm_a190_280 rfl rfl rfl ?_
    refine ru_go (t := (282, [some (.inr (some a0)), some (.inl x1), some (.inl x2), some (.inl x3), some (.inl x4), some (.inl x5), z6, z7], [.inl 3, .inl x2, .inr (sm_R M a0 57)], M)) sm_a190_281 rfl rfl (st_iconst (by decide)) ?_
    obtain ⟨b_14, hb_15, h⟩ := h
    rw [hb_15]
    obtain ⟨h_16, h⟩ := h
    obtain ⟨h_17, h⟩ := h
    refine ru_go (t := (283, [some (.inr (some a0)), some (.inl x1), some (.inl x2), some (.inl x3), some (.inl x4), some (.inl x5), z6, z7], [], sm_putI M b_14 (x2).toNatClampNeg 3)) sm_a190_282 rfl rfl (st_iast h_16 h_17) ?_
    refine ru_go (t := (448, [some (.inr (some a0)), some (.inl x1), some (.inl x2), some (.inl x3), some (.inl x4), some (.inl x5), z6, z7], [], sm_putI M b_14 (x2).toNatClampNeg 3)) sm_a190_283 rfl rfl (st_goto (pc := 283) (by decide)) ?_
    exact ru_ret sm_a190_448 (sm_rvv rfl) h
theorem bb_190_299 {d : Nat} {M : sm_M} {Q : Option sm_V → sm_M → Prop} {a0 : Nat} {x1 : Int32} {x2 : Int32} {x3 : Int32} {x4 : Int32} {x5 : Int32} {z6 : Option sm_V} {z7 : Option sm_V}
    (h : Q none M) :
    sm_Run (d + 1) 190 299 [some (.inr (some a0)), some (.inl x1), some (.inl x2), some (.inl x3), some (.inl x4), some (.inl x5), z6, z7] [] M Q := by
  refine ru_go (t := (448, [some (.inr (some a0)), some (.inl x1), some (.inl x2), some (.inl x3), some (.inl x4), some (.inl x5), z6, z7], [], M)) sm_a190_299 rfl rfl (st_goto (pc := 299) (by decide)) ?_
  exact ru_ret sm_a190_448 (sm_rvv rfl) h
theorem bb_190_320 {d : Nat} {M : sm_M} {Q : Option sm_V → sm_M → Prop} {a0 : Nat} {x1 : Int32} {x2 : Int32} {x3 : Int32} {x4 : Int32} {x5 : Int32} {x6 : Int32} {z7 : Option sm_V}
    (h : sm_K M a0 = 39 ∧ ∃ b_2, sm_R M a0 85 = some b_2 ∧ sm_iA M b_2 ∧ sm_in_ M b_2 x2 ∧ (((sm_I M b_2 (x2).toNatClampNeg) < (x6 + 7) → Q none M) ∧ (¬ ((sm_I M b_2 (x2).toNatClampNeg) < (x6 + 7)) → ∃ b_7, sm_R M a0 61 = some b_7 ∧ sm_iA M b_7 ∧ sm_in_ M b_7 x2 ∧ ∃ b_11, sm_R M a0 86 = some b_11 ∧ sm_iA M b_11 ∧ sm_in_ M b_11 (((60 * x2) + x6) + 2) ∧ ∃ b_15, sm_R M a0 62 = some b_15 ∧ sm_wA 1 M b_15 ∧ sm_in_ M b_15 ((10 * x2) + (sm_I M b_7 (x2).toNatClampNeg)) ∧ ∃ b_19, sm_R (sm_putI M b_15 ((10 * x2) + (sm_I M b_7 (x2).toNatClampNeg)).toNatClampNeg (sm_I M b_11 (((60 * x2) + x6) + 2).toNatClampNeg)) a0 86 = some b_19 ∧ sm_iA M b_19 ∧ sm_in_ M b_19 (((60 * x2) + x6) + 3) ∧ ∃ b_23, sm_R (sm_putI M b_15 ((10 * x2) + (sm_I M b_7 (x2).toNatClampNeg)).toNatClampNeg (sm_I M b_11 (((60 * x2) + x6) + 2).toNatClampNeg)) a0 63 = some b_23 ∧ sm_wA 1 M b_23 ∧ sm_in_ M b_23 ((10 * x2) + (sm_I M b_7 (x2).toNatClampNeg)) ∧ sm_Run (d + 1) 190 389 [some (.inr (some a0)), some (.inl x1), some (.inl x2), some (.inl x3), some (.inl x4), some (.inl x5), some (.inl x6), some (.inl ((10 * x2) + (sm_I M b_7 (x2).toNatClampNeg)))] [] (sm_putI (sm_putI M b_15 ((10 * x2) + (sm_I M b_7 (x2).toNatClampNeg)).toNatClampNeg (sm_I M b_11 (((60 * x2) + x6) + 2).toNatClampNeg)) b_23 ((10 * x2) + (sm_I M b_7 (x2).toNatClampNeg)).toNatClampNeg (sm_I (sm_putI M b_15 ((10 * x2) + (sm_I M b_7 (x2).toNatClampNeg)).toNatClampNeg (sm_I M b_11 (((60 * x2) + x6) + 2).toNatClampNeg)) b_19 (((60 * x2) + x6) + 3).toNatClampNeg)) Q))) :
    sm_Run (d + 1) 190 320 [some (.inr (some a0)), some (.inl x1), some (.inl x2), some (.inl x3), some (.inl x4), some (.inl x5), some (.inl x6), z7] [] M Q := by
  refine ru_go (t := (322, [some (.inr (some a0)), some (.inl x1), some (.inl x2), some (.inl x3), some (.inl x4), some (.inl x5), some (.inl x6), z7], [.inl x6], M)) sm_a190_320 rfl rfl rfl ?_
  refine ru_go (t := (324, [some (.inr (some a0)), some (.inl x1), some (.inl x2), some (.inl x3), some (.inl x4), some (.inl x5), some (.inl x6), z7], [.inl 7, .inl x6], M)) sm_a190_322 rfl rfl (st_bipush (by decide)) ?_
  refine ru_go (t := (325, [some (.inr (some a0)), some (.inl x1), some (.inl x2), some (.inl x3), some (.inl x4), some (.inl x5), some (.inl x6), z7], [.inl (x6 + 7)], M)) sm_a190_324 rfl rfl rfl ?_
  refine ru_go (t := (326, [some (.inr (some a0)), some (.inl x1), some (.inl x2), some (.inl x3), some (.inl x4), some (.inl x5), some (.inl x6), z7], [.inr (some a0), .inl (x6 + 7)], M)) sm_a190_325 rfl rfl rfl ?_
  obtain ⟨h_1, h⟩ := h
  refine ru_go (t := (329, [some (.inr (some a0)), some (.inl x1), some (.inl x2), some (.inl x3), some (.inl x4), some (.inl x5), some (.inl x6), z7], [.inr (sm_R M a0 85), .inl (x6 + 7)], M)) sm_a190_326 rfl rfl (st_getR h_1 rfl rfl) ?_
  refine ru_go (t := (330, [some (.inr (some a0)), some (.inl x1), some (.inl x2), some (.inl x3), some (.inl x4), some (.inl x5), some (.inl x6), z7], [.inl x2, .inr (sm_R M a0 85), .inl (x6 + 7)], M)) sm_a190_329 rfl rfl rfl ?_
  obtain ⟨b_2, hb_3, h⟩ := h
  rw [hb_3]
  obtain ⟨h_4, h⟩ := h
  obtain ⟨h_5, h⟩ := h
  refine ru_go (t := (331, [some (.inr (some a0)), some (.inl x1), some (.inl x2), some (.inl x3), some (.inl x4), some (.inl x5), some (.inl x6), z7], [.inl (sm_I M b_2 (x2).toNatClampNeg), .inl (x6 + 7)], M)) sm_a190_330 rfl rfl (st_iald h_4 h_5) ?_
  refine ru_icmp (pc := 331) (p := 448) (p2 := 334) sm_a190_331 (by decide) rfl ⟨fun hc_6 => ?_, fun hc_6 => ?_⟩
  · have h := h.1 hc_6
    exact ru_ret sm_a190_448 (sm_rvv rfl) h
  · have h := h.2 hc_6
    refine ru_go (t := (336, [some (.inr (some a0)), some (.inl x1), some (.inl x2), some (.inl x3), some (.inl x4), some (.inl x5), some (.inl x6), z7], [.inl 10], M)) sm_a190_334 rfl rfl (st_bipush (by decide)) ?_
    refine ru_go (t := (337, [some (.inr (some a0)), some (.inl x1), some (.inl x2), some (.inl x3), some (.inl x4), some (.inl x5), some (.inl x6), z7], [.inl x2, .inl 10], M)) sm_a190_336 rfl rfl rfl ?_
    refine ru_go (t := (338, [some (.inr (some a0)), some (.inl x1), some (.inl x2), some (.inl x3), some (.inl x4), some (.inl x5), some (.inl x6), z7], [.inl (10 * x2)], M)) sm_a190_337 rfl rfl rfl ?_
    refine ru_go (t := (339, [some (.inr (some a0)), some (.inl x1), some (.inl x2), some (.inl x3), some (.inl x4), some (.inl x5), some (.inl x6), z7], [.inr (some a0), .inl (10 * x2)], M)) sm_a190_338 rfl rfl rfl ?_
    refine ru_go (t := (342, [some (.inr (some a0)), some (.inl x1), some (.inl x2), some (.inl x3), some (.inl x4), some (.inl x5), some (.inl x6), z7], [.inr (sm_R M a0 61), .inl (10 * x2)], M)) sm_a190_339 rfl rfl (st_getR h_1 rfl rfl) ?_
    refine ru_go (t := (343, [some (.inr (some a0)), some (.inl x1), some (.inl x2), some (.inl x3), some (.inl x4), some (.inl x5), some (.inl x6), z7], [.inl x2, .inr (sm_R M a0 61), .inl (10 * x2)], M)) sm_a190_342 rfl rfl rfl ?_
    obtain ⟨b_7, hb_8, h⟩ := h
    rw [hb_8]
    obtain ⟨h_9, h⟩ := h
    obtain ⟨h_10, h⟩ := h
    refine ru_go (t := (344, [some (.inr (some a0)), some (.inl x1), some (.inl x2), some (.inl x3), some (.inl x4), some (.inl x5), some (.inl x6), z7], [.inl (sm_I M b_7 (x2).toNatClampNeg), .inl (10 * x2)], M)) sm_a190_343 rfl rfl (st_iald h_9 h_10) ?_
    refine ru_go (t := (345, [some (.inr (some a0)), some (.inl x1), some (.inl x2), some (.inl x3), some (.inl x4), some (.inl x5), some (.inl x6), z7], [.inl ((10 * x2) + (sm_I M b_7 (x2).toNatClampNeg))], M)) sm_a190_344 rfl rfl rfl ?_
    refine ru_go (t := (347, [some (.inr (some a0)), some (.inl x1), some (.inl x2), some (.inl x3), some (.inl x4), some (.inl x5), some (.inl x6), some (.inl ((10 * x2) + (sm_I M b_7 (x2).toNatClampNeg)))], [], M)) sm_a190_345 rfl rfl rfl ?_
    refine ru_go (t := (348, [some (.inr (some a0)), some (.inl x1), some (.inl x2), some (.inl x3), some (.inl x4), some (.inl x5), some (.inl x6), some (.inl ((10 * x2) + (sm_I M b_7 (x2).toNatClampNeg)))], [.inr (some a0)], M)) sm_a190_347 rfl rfl rfl ?_
    refine ru_go (t := (351, [some (.inr (some a0)), some (.inl x1), some (.inl x2), some (.inl x3), some (.inl x4), some (.inl x5), some (.inl x6), some (.inl ((10 * x2) + (sm_I M b_7 (x2).toNatClampNeg)))], [.inr (sm_R M a0 62)], M)) sm_a190_348 rfl rfl (st_getR h_1 rfl rfl) ?_
    refine ru_go (t := (353, [some (.inr (some a0)), some (.inl x1), some (.inl x2), some (.inl x3), some (.inl x4), some (.inl x5), some (.inl x6), some (.inl ((10 * x2) + (sm_I M b_7 (x2).toNatClampNeg)))], [.inl ((10 * x2) + (sm_I M b_7 (x2).toNatClampNeg)), .inr (sm_R M a0 62)], M)) sm_a190_351 rfl rfl rfl ?_
    refine ru_go (t := (354, [some (.inr (some a0)), some (.inl x1), some (.inl x2), some (.inl x3), some (.inl x4), some (.inl x5), some (.inl x6), some (.inl ((10 * x2) + (sm_I M b_7 (x2).toNatClampNeg)))], [.inr (some a0), .inl ((10 * x2) + (sm_I M b_7 (x2).toNatClampNeg)), .inr (sm_R M a0 62)], M)) sm_a190_353 rfl rfl rfl ?_
    refine ru_go (t := (357, [some (.inr (some a0)), some (.inl x1), some (.inl x2), some (.inl x3), some (.inl x4), some (.inl x5), some (.inl x6), some (.inl ((10 * x2) + (sm_I M b_7 (x2).toNatClampNeg)))], [.inr (sm_R M a0 86), .inl ((10 * x2) + (sm_I M b_7 (x2).toNatClampNeg)), .inr (sm_R M a0 62)], M)) sm_a190_354 rfl rfl (st_getR h_1 rfl rfl) ?_
    refine ru_go (t := (359, [some (.inr (some a0)), some (.inl x1), some (.inl x2), some (.inl x3), some (.inl x4), some (.inl x5), some (.inl x6), some (.inl ((10 * x2) + (sm_I M b_7 (x2).toNatClampNeg)))], [.inl 60, .inr (sm_R M a0 86), .inl ((10 * x2) + (sm_I M b_7 (x2).toNatClampNeg)), .inr (sm_R M a0 62)], M)) sm_a190_357 rfl rfl (st_bipush (by decide)) ?_
    refine ru_go (t := (360, [some (.inr (some a0)), some (.inl x1), some (.inl x2), some (.inl x3), some (.inl x4), some (.inl x5), some (.inl x6), some (.inl ((10 * x2) + (sm_I M b_7 (x2).toNatClampNeg)))], [.inl x2, .inl 60, .inr (sm_R M a0 86), .inl ((10 * x2) + (sm_I M b_7 (x2).toNatClampNeg)), .inr (sm_R M a0 62)], M)) sm_a190_359 rfl rfl rfl ?_
    refine ru_go (t := (361, [some (.inr (some a0)), some (.inl x1), some (.inl x2), some (.inl x3), some (.inl x4), some (.inl x5), some (.inl x6), some (.inl ((10 * x2) + (sm_I M b_7 (x2).toNatClampNeg)))], [.inl (60 * x2), .inr (sm_R M a0 86), .inl ((10 * x2) + (sm_I M b_7 (x2).toNatClampNeg)), .inr (sm_R M a0 62)], M)) sm_a190_360 rfl rfl rfl ?_
    refine ru_go (t := (363, [some (.inr (some a0)), some (.inl x1), some (.inl x2), some (.inl x3), some (.inl x4), some (.inl x5), some (.inl x6), some (.inl ((10 * x2) + (sm_I M b_7 (x2).toNatClampNeg)))], [.inl x6, .inl (60 * x2), .inr (sm_R M a0 86), .inl ((10 * x2) + (sm_I M b_7 (x2).toNatClampNeg)), .inr (sm_R M a0 62)], M)) sm_a190_361 rfl rfl rfl ?_
    refine ru_go (t := (364, [some (.inr (some a0)), some (.inl x1), some (.inl x2), some (.inl x3), some (.inl x4), some (.inl x5), some (.inl x6), some (.inl ((10 * x2) + (sm_I M b_7 (x2).toNatClampNeg)))], [.inl ((60 * x2) + x6), .inr (sm_R M a0 86), .inl ((10 * x2) + (sm_I M b_7 (x2).toNatClampNeg)), .inr (sm_R M a0 62)], M)) sm_a190_363 rfl rfl rfl ?_
    refine ru_go (t := (365, [some (.inr (some a0)), some (.inl x1), some (.inl x2), some (.inl x3), some (.inl x4), some (.inl x5), some (.inl x6), some (.inl ((10 * x2) + (sm_I M b_7 (x2).toNatClampNeg)))], [.inl 2, .inl ((60 * x2) + x6), .inr (sm_R M a0 86), .inl ((10 * x2) + (sm_I M b_7 (x2).toNatClampNeg)), .inr (sm_R M a0 62)], M)) sm_a190_364 rfl rfl (st_iconst (by decide)) ?_
    refine ru_go (t := (366, [some (.inr (some a0)), some (.inl x1), some (.inl x2), some (.inl x3), some (.inl x4), some (.inl x5), some (.inl x6), some (.inl ((10 * x2) + (sm_I M b_7 (x2).toNatClampNeg)))], [.inl (((60 * x2) + x6) + 2), .inr (sm_R M a0 86), .inl ((10 * x2) + (sm_I M b_7 (x2).toNatClampNeg)), .inr (sm_R M a0 62)], M)) sm_a190_365 rfl rfl rfl ?_
    obtain ⟨b_11, hb_12, h⟩ := h
    rw [hb_12]
    obtain ⟨h_13, h⟩ := h
    obtain ⟨h_14, h⟩ := h
    refine ru_go (t := (367, [some (.inr (some a0)), some (.inl x1), some (.inl x2), some (.inl x3), some (.inl x4), some (.inl x5), some (.inl x6), some (.inl ((10 * x2) + (sm_I M b_7 (x2).toNatClampNeg)))], [.inl (sm_I M b_11 (((60 * x2) + x6) + 2).toNatClampNeg), .inl ((10 * x2) + (sm_I M b_7 (x2).toNatClampNeg)), .inr (sm_R M a0 62)], M)) sm_a190_366 rfl rfl (st_iald h_13 h_14) ?_
    obtain ⟨b_15, hb_16, h⟩ := h
    rw [hb_16]
    obtain ⟨h_17, h⟩ := h
    obtain ⟨h_18, h⟩ := h
    refine ru_go (t := (368, [some (.inr (some a0)), some (.inl x1), some (.inl x2), some (.inl x3), some (.inl x4), some (.inl x5), some (.inl x6), some (.inl ((10 * x2) + (sm_I M b_7 (x2).toNatClampNeg)))], [], sm_putI M b_15 ((10 * x2) + (sm_I M b_7 (x2).toNatClampNeg)).toNatClampNeg (sm_I M b_11 (((60 * x2) + x6) + 2).toNatClampNeg))) sm_a190_367 rfl rfl (st_iast h_17 h_18) ?_
    refine ru_go (t := (369, [some (.inr (some a0)), some (.inl x1), some (.inl x2), some (.inl x3), some (.inl x4), some (.inl x5), some (.inl x6), some (.inl ((10 * x2) + (sm_I M b_7 (x2).toNatClampNeg)))], [.inr (some a0)], sm_putI M b_15 ((10 * x2) + (sm_I M b_7 (x2).toNatClampNeg)).toNatClampNeg (sm_I M b_11 (((60 * x2) + x6) + 2).toNatClampNeg))) sm_a190_368 rfl rfl rfl ?_
    refine ru_go (t := (372, [some (.inr (some a0)), some (.inl x1), some (.inl x2), some (.inl x3), some (.inl x4), some (.inl x5), some (.inl x6), some (.inl ((10 * x2) + (sm_I M b_7 (x2).toNatClampNeg)))], [.inr (sm_R (sm_putI M b_15 ((10 * x2) + (sm_I M b_7 (x2).toNatClampNeg)).toNatClampNeg (sm_I M b_11 (((60 * x2) + x6) + 2).toNatClampNeg)) a0 63)], sm_putI M b_15 ((10 * x2) + (sm_I M b_7 (x2).toNatClampNeg)).toNatClampNeg (sm_I M b_11 (((60 * x2) + x6) + 2).toNatClampNeg))) sm_a190_369 rfl rfl (st_getR h_1 rfl rfl) ?_
    refine ru_go (t := (374, [some (.inr (some a0)), some (.inl x1), some (.inl x2), some (.inl x3), some (.inl x4), some (.inl x5), some (.inl x6), some (.inl ((10 * x2) + (sm_I M b_7 (x2).toNatClampNeg)))], [.inl ((10 * x2) + (sm_I M b_7 (x2).toNatClampNeg)), .inr (sm_R (sm_putI M b_15 ((10 * x2) + (sm_I M b_7 (x2).toNatClampNeg)).toNatClampNeg (sm_I M b_11 (((60 * x2) + x6) + 2).toNatClampNeg)) a0 63)], sm_putI M b_15 ((10 * x2) + (sm_I M b_7 (x2).toNatClampNeg)).toNatClampNeg (sm_I M b_11 (((60 * x2) + x6) + 2).toNatClampNeg))) sm_a190_372 rfl rfl rfl ?_
    refine ru_go (t := (375, [some (.inr (some a0)), some (.inl x1), some (.inl x2), some (.inl x3), some (.inl x4), some (.inl x5), some (.inl x6), some (.inl ((10 * x2) + (sm_I M b_7 (x2).toNatClampNeg)))], [.inr (some a0), .inl ((10 * x2) + (sm_I M b_7 (x2).toNatClampNeg)), .inr (sm_R (sm_putI M b_15 ((10 * x2) + (sm_I M b_7 (x2).toNatClampNeg)).toNatClampNeg (sm_I M b_11 (((60 * x2) + x6) + 2).toNatClampNeg)) a0 63)], sm_putI M b_15 ((10 * x2) + (sm_I M b_7 (x2).toNatClampNeg)).toNatClampNeg (sm_I M b_11 (((60 * x2) + x6) + 2).toNatClampNeg))) sm_a190_374 rfl rfl rfl ?_
    refine ru_go (t := (378, [some (.inr (some a0)), some (.inl x1), some (.inl x2), some (.inl x3), some (.inl x4), some (.inl x5), some (.inl x6), some (.inl ((10 * x2) + (sm_I M b_7 (x2).toNatClampNeg)))], [.inr (sm_R (sm_putI M b_15 ((10 * x2) + (sm_I M b_7 (x2).toNatClampNeg)).toNatClampNeg (sm_I M b_11 (((60 * x2) + x6) + 2).toNatClampNeg)) a0 86), .inl ((10 * x2) + (sm_I M b_7 (x2).toNatClampNeg)), .inr (sm_R (sm_putI M b_15 ((10 * x2) + (sm_I M b_7 (x2).toNatClampNeg)).toNatClampNeg (sm_I M b_11 (((60 * x2) + x6) + 2).toNatClampNeg)) a0 63)], sm_putI M b_15 ((10 * x2) + (sm_I M b_7 (x2).toNatClampNeg)).toNatClampNeg (sm_I M b_11 (((60 * x2) + x6) + 2).toNatClampNeg))) sm_a190_375 rfl rfl (st_getR h_1 rfl rfl) ?_
    refine ru_go (t := (380, [some (.inr (some a0)), some (.inl x1), some (.inl x2), some (.inl x3), some (.inl x4), some (.inl x5), some (.inl x6), some (.inl ((10 * x2) + (sm_I M b_7 (x2).toNatClampNeg)))], [.inl 60, .inr (sm_R (sm_putI M b_15 ((10 * x2) + (sm_I M b_7 (x2).toNatClampNeg)).toNatClampNeg (sm_I M b_11 (((60 * x2) + x6) + 2).toNatClampNeg)) a0 86), .inl ((10 * x2) + (sm_I M b_7 (x2).toNatClampNeg)), .inr (sm_R (sm_putI M b_15 ((10 * x2) + (sm_I M b_7 (x2).toNatClampNeg)).toNatClampNeg (sm_I M b_11 (((60 * x2) + x6) + 2).toNatClampNeg)) a0 63)], sm_putI M b_15 ((10 * x2) + (sm_I M b_7 (x2).toNatClampNeg)).toNatClampNeg (sm_I M b_11 (((60 * x2) + x6) + 2).toNatClampNeg))) sm_a190_378 rfl rfl (st_bipush (by decide)) ?_
    refine ru_go (t := (381, [some (.inr (some a0)), some (.inl x1), some (.inl x2), some (.inl x3), some (.inl x4), some (.inl x5), some (.inl x6), some (.inl ((10 * x2) + (sm_I M b_7 (x2).toNatClampNeg)))], [.inl x2, .inl 60, .inr (sm_R (sm_putI M b_15 ((10 * x2) + (sm_I M b_7 (x2).toNatClampNeg)).toNatClampNeg (sm_I M b_11 (((60 * x2) + x6) + 2).toNatClampNeg)) a0 86), .inl ((10 * x2) + (sm_I M b_7 (x2).toNatClampNeg)), .inr (sm_R (sm_putI M b_15 ((10 * x2) + (sm_I M b_7 (x2).toNatClampNeg)).toNatClampNeg (sm_I M b_11 (((60 * x2) + x6) + 2).toNatClampNeg)) a0 63)], sm_putI M b_15 ((10 * x2) + (sm_I M b_7 (x2).toNatClampNeg)).toNatClampNeg (sm_I M b_11 (((60 * x2) + x6) + 2).toNatClampNeg))) sm_a190_380 rfl rfl rfl ?_
    refine ru_go (t := (382, [some (.inr (some a0)), some (.inl x1), some (.inl x2), some (.inl x3), some (.inl x4), some (.inl x5), some (.inl x6), some (.inl ((10 * x2) + (sm_I M b_7 (x2).toNatClampNeg)))], [.inl (60 * x2), .inr (sm_R (sm_putI M b_15 ((10 * x2) + (sm_I M b_7 (x2).toNatClampNeg)).toNatClampNeg (sm_I M b_11 (((60 * x2) + x6) + 2).toNatClampNeg)) a0 86), .inl ((10 * x2) + (sm_I M b_7 (x2).toNatClampNeg)), .inr (sm_R (sm_putI M b_15 ((10 * x2) + (sm_I M b_7 (x2).toNatClampNeg)).toNatClampNeg (sm_I M b_11 (((60 * x2) + x6) + 2).toNatClampNeg)) a0 63)], sm_putI M b_15 ((10 * x2) + (sm_I M b_7 (x2).toNatClampNeg)).toNatClampNeg (sm_I M b_11 (((60 * x2) + x6) + 2).toNatClampNeg))) sm_a190_381 rfl rfl rfl ?_
    refine ru_go (t := (384, [some (.inr (some a0)), some (.inl x1), some (.inl x2), some (.inl x3), some (.inl x4), some (.inl x5), some (.inl x6), some (.inl ((10 * x2) + (sm_I M b_7 (x2).toNatClampNeg)))], [.inl x6, .inl (60 * x2), .inr (sm_R (sm_putI M b_15 ((10 * x2) + (sm_I M b_7 (x2).toNatClampNeg)).toNatClampNeg (sm_I M b_11 (((60 * x2) + x6) + 2).toNatClampNeg)) a0 86), .inl ((10 * x2) + (sm_I M b_7 (x2).toNatClampNeg)), .inr (sm_R (sm_putI M b_15 ((10 * x2) + (sm_I M b_7 (x2).toNatClampNeg)).toNatClampNeg (sm_I M b_11 (((60 * x2) + x6) + 2).toNatClampNeg)) a0 63)], sm_putI M b_15 ((10 * x2) + (sm_I M b_7 (x2).toNatClampNeg)).toNatClampNeg (sm_I M b_11 (((60 * x2) + x6) + 2).toNatClampNeg))) sm_a190_382 rfl rfl rfl ?_
    refine ru_go (t := (385, [some (.inr (some a0)), some (.inl x1), some (.inl x2), some (.inl x3), some (.inl x4), some (.inl x5), some (.inl x6), some (.inl ((10 * x2) + (sm_I M b_7 (x2).toNatClampNeg)))], [.inl ((60 * x2) + x6), .inr (sm_R (sm_putI M b_15 ((10 * x2) + (sm_I M b_7 (x2).toNatClampNeg)).toNatClampNeg (sm_I M b_11 (((60 * x2) + x6) + 2).toNatClampNeg)) a0 86), .inl ((10 * x2) + (sm_I M b_7 (x2).toNatClampNeg)), .inr (sm_R (sm_putI M b_15 ((10 * x2) + (sm_I M b_7 (x2).toNatClampNeg)).toNatClampNeg (sm_I M b_11 (((60 * x2) + x6) + 2).toNatClampNeg)) a0 63)], sm_putI M b_15 ((10 * x2) + (sm_I M b_7 (x2).toNatClampNeg)).toNatClampNeg (sm_I M b_11 (((60 * x2) + x6) + 2).toNatClampNeg))) sm_a190_384 rfl rfl rfl ?_
    refine ru_go (t := (386, [some (.inr (some a0)), some (.inl x1), some (.inl x2), some (.inl x3), some (.inl x4), some (.inl x5), some (.inl x6), some (.inl ((10 * x2) + (sm_I M b_7 (x2).toNatClampNeg)))], [.inl 3, .inl ((60 * x2) + x6), .inr (sm_R (sm_putI M b_15 ((10 * x2) + (sm_I M b_7 (x2).toNatClampNeg)).toNatClampNeg (sm_I M b_11 (((60 * x2) + x6) + 2).toNatClampNeg)) a0 86), .inl ((10 * x2) + (sm_I M b_7 (x2).toNatClampNeg)), .inr (sm_R (sm_putI M b_15 ((10 * x2) + (sm_I M b_7 (x2).toNatClampNeg)).toNatClampNeg (sm_I M b_11 (((60 * x2) + x6) + 2).toNatClampNeg)) a0 63)], sm_putI M b_15 ((10 * x2) + (sm_I M b_7 (x2).toNatClampNeg)).toNatClampNeg (sm_I M b_11 (((60 * x2) + x6) + 2).toNatClampNeg))) sm_a190_385 rfl rfl (st_iconst (by decide)) ?_
    refine ru_go (t := (387, [some (.inr (some a0)), some (.inl x1), some (.inl x2), some (.inl x3), some (.inl x4), some (.inl x5), some (.inl x6), some (.inl ((10 * x2) + (sm_I M b_7 (x2).toNatClampNeg)))], [.inl (((60 * x2) + x6) + 3), .inr (sm_R (sm_putI M b_15 ((10 * x2) + (sm_I M b_7 (x2).toNatClampNeg)).toNatClampNeg (sm_I M b_11 (((60 * x2) + x6) + 2).toNatClampNeg)) a0 86), .inl ((10 * x2) + (sm_I M b_7 (x2).toNatClampNeg)), .inr (sm_R (sm_putI M b_15 ((10 * x2) + (sm_I M b_7 (x2).toNatClampNeg)).toNatClampNeg (sm_I M b_11 (((60 * x2) + x6) + 2).toNatClampNeg)) a0 63)], sm_putI M b_15 ((10 * x2) + (sm_I M b_7 (x2).toNatClampNeg)).toNatClampNeg (sm_I M b_11 (((60 * x2) + x6) + 2).toNatClampNeg))) sm_a190_386 rfl rfl rfl ?_
    obtain ⟨b_19, hb_20, h⟩ := h
    rw [hb_20]
    obtain ⟨h_21, h⟩ := h
    obtain ⟨h_22, h⟩ := h
    refine ru_go (t := (388, [some (.inr (some a0)), some (.inl x1), some (.inl x2), some (.inl x3), some (.inl x4), some (.inl x5), some (.inl x6), some (.inl ((10 * x2) + (sm_I M b_7 (x2).toNatClampNeg)))], [.inl (sm_I (sm_putI M b_15 ((10 * x2) + (sm_I M b_7 (x2).toNatClampNeg)).toNatClampNeg (sm_I M b_11 (((60 * x2) + x6) + 2).toNatClampNeg)) b_19 (((60 * x2) + x6) + 3).toNatClampNeg), .inl ((10 * x2) + (sm_I M b_7 (x2).toNatClampNeg)), .inr (sm_R (sm_putI M b_15 ((10 * x2) + (sm_I M b_7 (x2).toNatClampNeg)).toNatClampNeg (sm_I M b_11 (((60 * x2) + x6) + 2).toNatClampNeg)) a0 63)], sm_putI M b_15 ((10 * x2) + (sm_I M b_7 (x2).toNatClampNeg)).toNatClampNeg (sm_I M b_11 (((60 * x2) + x6) + 2).toNatClampNeg))) sm_a190_387 rfl rfl (st_iald h_21 h_22) ?_
    obtain ⟨b_23, hb_24, h⟩ := h
    rw [hb_24]
    obtain ⟨h_25, h⟩ := h
    obtain ⟨h_26, h⟩ := h
    refine ru_go (t := (389, [some (.inr (some a0)), some (.inl x1), some (.inl x2), some (.inl x3), some (.inl x4), some (.inl x5), some (.inl x6), some (.inl ((10 * x2) + (sm_I M b_7 (x2).toNatClampNeg)))], [], sm_putI (sm_putI M b_15 ((10 * x2) + (sm_I M b_7 (x2).toNatClampNeg)).toNatClampNeg (sm_I M b_11 (((60 * x2) + x6) + 2).toNatClampNeg)) b_23 ((10 * x2) + (sm_I M b_7 (x2).toNatClampNeg)).toNatClampNeg (sm_I (sm_putI M b_15 ((10 * x2) + (sm_I M b_7 (x2).toNatClampNeg)).toNatClampNeg (sm_I M b_11 (((60 * x2) + x6) + 2).toNatClampNeg)) b_19 (((60 * x2) + x6) + 3).toNatClampNeg))) sm_a190_388 rfl rfl (st_iast h_25 h_26) ?_
    exact h
theorem bb_190_389 {d : Nat} {M : sm_M} {Q : Option sm_V → sm_M → Prop} {a0 : Nat} {x1 : Int32} {x2 : Int32} {x3 : Int32} {x4 : Int32} {x5 : Int32} {x6 : Int32} {x7 : Int32}
    (h : sm_K M a0 = 39 ∧ ∃ b_2, sm_R M a0 86 = some b_2 ∧ sm_iA M b_2 ∧ sm_in_ M b_2 (((60 * x2) + x6) + 4) ∧ ∃ b_6, sm_R M a0 64 = some b_6 ∧ sm_wA 1 M b_6 ∧ sm_in_ M b_6 x7 ∧ ∃ b_10, sm_R (sm_putI M b_6 (x7).toNatClampNeg (sm_I M b_2 (((60 * x2) + x6) + 4).toNatClampNeg)) a0 86 = some b_10 ∧ sm_iA M b_10 ∧ sm_in_ M b_10 (((60 * x2) + x6) + 6) ∧ ∃ b_14, sm_R (sm_putI M b_6 (x7).toNatClampNeg (sm_I M b_2 (((60 * x2) + x6) + 4).toNatClampNeg)) a0 65 = some b_14 ∧ sm_wA 1 M b_14 ∧ sm_in_ M b_14 x7 ∧ ∃ b_18, sm_R (sm_putI (sm_putI M b_6 (x7).toNatClampNeg (sm_I M b_2 (((60 * x2) + x6) + 4).toNatClampNeg)) b_14 (x7).toNatClampNeg (sm_I (sm_putI M b_6 (x7).toNatClampNeg (sm_I M b_2 (((60 * x2) + x6) + 4).toNatClampNeg)) b_10 (((60 * x2) + x6) + 6).toNatClampNeg)) a0 61 = some b_18 ∧ sm_iA M b_18 ∧ sm_in_ M b_18 x2 ∧ sm_wA 1 M b_18 ∧ sm_Run (d + 1) 190 442 [some (.inr (some a0)), some (.inl x1), some (.inl x2), some (.inl x3), some (.inl x4), some (.inl x5), some (.inl x6), some (.inl x7)] [] (sm_putI (sm_putI (sm_putI M b_6 (x7).toNatClampNeg (sm_I M b_2 (((60 * x2) + x6) + 4).toNatClampNeg)) b_14 (x7).toNatClampNeg (sm_I (sm_putI M b_6 (x7).toNatClampNeg (sm_I M b_2 (((60 * x2) + x6) + 4).toNatClampNeg)) b_10 (((60 * x2) + x6) + 6).toNatClampNeg)) b_18 (x2).toNatClampNeg ((sm_I (sm_putI (sm_putI M b_6 (x7).toNatClampNeg (sm_I M b_2 (((60 * x2) + x6) + 4).toNatClampNeg)) b_14 (x7).toNatClampNeg (sm_I (sm_putI M b_6 (x7).toNatClampNeg (sm_I M b_2 (((60 * x2) + x6) + 4).toNatClampNeg)) b_10 (((60 * x2) + x6) + 6).toNatClampNeg)) b_18 (x2).toNatClampNeg) + 1)) Q) :
    sm_Run (d + 1) 190 389 [some (.inr (some a0)), some (.inl x1), some (.inl x2), some (.inl x3), some (.inl x4), some (.inl x5), some (.inl x6), some (.inl x7)] [] M Q := by
  refine ru_go (t := (390, [some (.inr (some a0)), some (.inl x1), some (.inl x2), some (.inl x3), some (.inl x4), some (.inl x5), some (.inl x6), some (.inl x7)], [.inr (some a0)], M)) sm_a190_389 rfl rfl rfl ?_
  obtain ⟨h_1, h⟩ := h
  refine ru_go (t := (393, [some (.inr (some a0)), some (.inl x1), some (.inl x2), some (.inl x3), some (.inl x4), some (.inl x5), some (.inl x6), some (.inl x7)], [.inr (sm_R M a0 64)], M)) sm_a190_390 rfl rfl (st_getR h_1 rfl rfl) ?_
  refine ru_go (t := (395, [some (.inr (some a0)), some (.inl x1), some (.inl x2), some (.inl x3), some (.inl x4), some (.inl x5), some (.inl x6), some (.inl x7)], [.inl x7, .inr (sm_R M a0 64)], M)) sm_a190_393 rfl rfl rfl ?_
  refine ru_go (t := (396, [some (.inr (some a0)), some (.inl x1), some (.inl x2), some (.inl x3), some (.inl x4), some (.inl x5), some (.inl x6), some (.inl x7)], [.inr (some a0), .inl x7, .inr (sm_R M a0 64)], M)) sm_a190_395 rfl rfl rfl ?_
  refine ru_go (t := (399, [some (.inr (some a0)), some (.inl x1), some (.inl x2), some (.inl x3), some (.inl x4), some (.inl x5), some (.inl x6), some (.inl x7)], [.inr (sm_R M a0 86), .inl x7, .inr (sm_R M a0 64)], M)) sm_a190_396 rfl rfl (st_getR h_1 rfl rfl) ?_
  refine ru_go (t := (401, [some (.inr (some a0)), some (.inl x1), some (.inl x2), some (.inl x3), some (.inl x4), some (.inl x5), some (.inl x6), some (.inl x7)], [.inl 60, .inr (sm_R M a0 86), .inl x7, .inr (sm_R M a0 64)], M)) sm_a190_399 rfl rfl (st_bipush (by decide)) ?_
  refine ru_go (t := (402, [some (.inr (some a0)), some (.inl x1), some (.inl x2), some (.inl x3), some (.inl x4), some (.inl x5), some (.inl x6), some (.inl x7)], [.inl x2, .inl 60, .inr (sm_R M a0 86), .inl x7, .inr (sm_R M a0 64)], M)) sm_a190_401 rfl rfl rfl ?_
  refine ru_go (t := (403, [some (.inr (some a0)), some (.inl x1), some (.inl x2), some (.inl x3), some (.inl x4), some (.inl x5), some (.inl x6), some (.inl x7)], [.inl (60 * x2), .inr (sm_R M a0 86), .inl x7, .inr (sm_R M a0 64)], M)) sm_a190_402 rfl rfl rfl ?_
  refine ru_go (t := (405, [some (.inr (some a0)), some (.inl x1), some (.inl x2), some (.inl x3), some (.inl x4), some (.inl x5), some (.inl x6), some (.inl x7)], [.inl x6, .inl (60 * x2), .inr (sm_R M a0 86), .inl x7, .inr (sm_R M a0 64)], M)) sm_a190_403 rfl rfl rfl ?_
  refine ru_go (t := (406, [some (.inr (some a0)), some (.inl x1), some (.inl x2), some (.inl x3), some (.inl x4), some (.inl x5), some (.inl x6), some (.inl x7)], [.inl ((60 * x2) + x6), .inr (sm_R M a0 86), .inl x7, .inr (sm_R M a0 64)], M)) sm_a190_405 rfl rfl rfl ?_
  refine ru_go (t := (407, [some (.inr (some a0)), some (.inl x1), some (.inl x2), some (.inl x3), some (.inl x4), some (.inl x5), some (.inl x6), some (.inl x7)], [.inl 4, .inl ((60 * x2) + x6), .inr (sm_R M a0 86), .inl x7, .inr (sm_R M a0 64)], M)) sm_a190_406 rfl rfl (st_iconst (by decide)) ?_
  refine ru_go (t := (408, [some (.inr (some a0)), some (.inl x1), some (.inl x2), some (.inl x3), some (.inl x4), some (.inl x5), some (.inl x6), some (.inl x7)], [.inl (((60 * x2) + x6) + 4), .inr (sm_R M a0 86), .inl x7, .inr (sm_R M a0 64)], M)) sm_a190_407 rfl rfl rfl ?_
  obtain ⟨b_2, hb_3, h⟩ := h
  rw [hb_3]
  obtain ⟨h_4, h⟩ := h
  obtain ⟨h_5, h⟩ := h
  refine ru_go (t := (409, [some (.inr (some a0)), some (.inl x1), some (.inl x2), some (.inl x3), some (.inl x4), some (.inl x5), some (.inl x6), some (.inl x7)], [.inl (sm_I M b_2 (((60 * x2) + x6) + 4).toNatClampNeg), .inl x7, .inr (sm_R M a0 64)], M)) sm_a190_408 rfl rfl (st_iald h_4 h_5) ?_
  obtain ⟨b_6, hb_7, h⟩ := h
  rw [hb_7]
  obtain ⟨h_8, h⟩ := h
  obtain ⟨h_9, h⟩ := h
  refine ru_go (t := (410, [some (.inr (some a0)), some (.inl x1), some (.inl x2), some (.inl x3), some (.inl x4), some (.inl x5), some (.inl x6), some (.inl x7)], [], sm_putI M b_6 (x7).toNatClampNeg (sm_I M b_2 (((60 * x2) + x6) + 4).toNatClampNeg))) sm_a190_409 rfl rfl (st_iast h_8 h_9) ?_
  refine ru_go (t := (411, [some (.inr (some a0)), some (.inl x1), some (.inl x2), some (.inl x3), some (.inl x4), some (.inl x5), some (.inl x6), some (.inl x7)], [.inr (some a0)], sm_putI M b_6 (x7).toNatClampNeg (sm_I M b_2 (((60 * x2) + x6) + 4).toNatClampNeg))) sm_a190_410 rfl rfl rfl ?_
  refine ru_go (t := (414, [some (.inr (some a0)), some (.inl x1), some (.inl x2), some (.inl x3), some (.inl x4), some (.inl x5), some (.inl x6), some (.inl x7)], [.inr (sm_R (sm_putI M b_6 (x7).toNatClampNeg (sm_I M b_2 (((60 * x2) + x6) + 4).toNatClampNeg)) a0 65)], sm_putI M b_6 (x7).toNatClampNeg (sm_I M b_2 (((60 * x2) + x6) + 4).toNatClampNeg))) sm_a190_411 rfl rfl (st_getR h_1 rfl rfl) ?_
  refine ru_go (t := (416, [some (.inr (some a0)), some (.inl x1), some (.inl x2), some (.inl x3), some (.inl x4), some (.inl x5), some (.inl x6), some (.inl x7)], [.inl x7, .inr (sm_R (sm_putI M b_6 (x7).toNatClampNeg (sm_I M b_2 (((60 * x2) + x6) + 4).toNatClampNeg)) a0 65)], sm_putI M b_6 (x7).toNatClampNeg (sm_I M b_2 (((60 * x2) + x6) + 4).toNatClampNeg))) sm_a190_414 rfl rfl rfl ?_
  refine ru_go (t := (417, [some (.inr (some a0)), some (.inl x1), some (.inl x2), some (.inl x3), some (.inl x4), some (.inl x5), some (.inl x6), some (.inl x7)], [.inr (some a0), .inl x7, .inr (sm_R (sm_putI M b_6 (x7).toNatClampNeg (sm_I M b_2 (((60 * x2) + x6) + 4).toNatClampNeg)) a0 65)], sm_putI M b_6 (x7).toNatClampNeg (sm_I M b_2 (((60 * x2) + x6) + 4).toNatClampNeg))) sm_a190_416 rfl rfl rfl ?_
  refine ru_go (t := (420, [some (.inr (some a0)), some (.inl x1), some (.inl x2), some (.inl x3), some (.inl x4), some (.inl x5), some (.inl x6), some (.inl x7)], [.inr (sm_R (sm_putI M b_6 (x7).toNatClampNeg (sm_I M b_2 (((60 * x2) + x6) + 4).toNatClampNeg)) a0 86), .inl x7, .inr (sm_R (sm_putI M b_6 (x7).toNatClampNeg (sm_I M b_2 (((60 * x2) + x6) + 4).toNatClampNeg)) a0 65)], sm_putI M b_6 (x7).toNatClampNeg (sm_I M b_2 (((60 * x2) + x6) + 4).toNatClampNeg))) sm_a190_417 rfl rfl (st_getR h_1 rfl rfl) ?_
  refine ru_go (t := (422, [some (.inr (some a0)), some (.inl x1), some (.inl x2), some (.inl x3), some (.inl x4), some (.inl x5), some (.inl x6), some (.inl x7)], [.inl 60, .inr (sm_R (sm_putI M b_6 (x7).toNatClampNeg (sm_I M b_2 (((60 * x2) + x6) + 4).toNatClampNeg)) a0 86), .inl x7, .inr (sm_R (sm_putI M b_6 (x7).toNatClampNeg (sm_I M b_2 (((60 * x2) + x6) + 4).toNatClampNeg)) a0 65)], sm_putI M b_6 (x7).toNatClampNeg (sm_I M b_2 (((60 * x2) + x6) + 4).toNatClampNeg))) sm_a190_420 rfl rfl (st_bipush (by decide)) ?_
  refine ru_go (t := (423, [some (.inr (some a0)), some (.inl x1), some (.inl x2), some (.inl x3), some (.inl x4), some (.inl x5), some (.inl x6), some (.inl x7)], [.inl x2, .inl 60, .inr (sm_R (sm_putI M b_6 (x7).toNatClampNeg (sm_I M b_2 (((60 * x2) + x6) + 4).toNatClampNeg)) a0 86), .inl x7, .inr (sm_R (sm_putI M b_6 (x7).toNatClampNeg (sm_I M b_2 (((60 * x2) + x6) + 4).toNatClampNeg)) a0 65)], sm_putI M b_6 (x7).toNatClampNeg (sm_I M b_2 (((60 * x2) + x6) + 4).toNatClampNeg))) sm_a190_422 rfl rfl rfl ?_
  refine ru_go (t := (424, [some (.inr (some a0)), some (.inl x1), some (.inl x2), some (.inl x3), some (.inl x4), some (.inl x5), some (.inl x6), some (.inl x7)], [.inl (60 * x2), .inr (sm_R (sm_putI M b_6 (x7).toNatClampNeg (sm_I M b_2 (((60 * x2) + x6) + 4).toNatClampNeg)) a0 86), .inl x7, .inr (sm_R (sm_putI M b_6 (x7).toNatClampNeg (sm_I M b_2 (((60 * x2) + x6) + 4).toNatClampNeg)) a0 65)], sm_putI M b_6 (x7).toNatClampNeg (sm_I M b_2 (((60 * x2) + x6) + 4).toNatClampNeg))) sm_a190_423 rfl rfl rfl ?_
  refine ru_go (t := (426, [some (.inr (some a0)), some (.inl x1), some (.inl x2), some (.inl x3), some (.inl x4), some (.inl x5), some (.inl x6), some (.inl x7)], [.inl x6, .inl (60 * x2), .inr (sm_R (sm_putI M b_6 (x7).toNatClampNeg (sm_I M b_2 (((60 * x2) + x6) + 4).toNatClampNeg)) a0 86), .inl x7, .inr (sm_R (sm_putI M b_6 (x7).toNatClampNeg (sm_I M b_2 (((60 * x2) + x6) + 4).toNatClampNeg)) a0 65)], sm_putI M b_6 (x7).toNatClampNeg (sm_I M b_2 (((60 * x2) + x6) + 4).toNatClampNeg))) sm_a190_424 rfl rfl rfl ?_
  refine ru_go (t := (427, [some (.inr (some a0)), some (.inl x1), some (.inl x2), some (.inl x3), some (.inl x4), some (.inl x5), some (.inl x6), some (.inl x7)], [.inl ((60 * x2) + x6), .inr (sm_R (sm_putI M b_6 (x7).toNatClampNeg (sm_I M b_2 (((60 * x2) + x6) + 4).toNatClampNeg)) a0 86), .inl x7, .inr (sm_R (sm_putI M b_6 (x7).toNatClampNeg (sm_I M b_2 (((60 * x2) + x6) + 4).toNatClampNeg)) a0 65)], sm_putI M b_6 (x7).toNatClampNeg (sm_I M b_2 (((60 * x2) + x6) + 4).toNatClampNeg))) sm_a190_426 rfl rfl rfl ?_
  refine ru_go (t := (429, [some (.inr (some a0)), some (.inl x1), some (.inl x2), some (.inl x3), some (.inl x4), some (.inl x5), some (.inl x6), some (.inl x7)], [.inl 6, .inl ((60 * x2) + x6), .inr (sm_R (sm_putI M b_6 (x7).toNatClampNeg (sm_I M b_2 (((60 * x2) + x6) + 4).toNatClampNeg)) a0 86), .inl x7, .inr (sm_R (sm_putI M b_6 (x7).toNatClampNeg (sm_I M b_2 (((60 * x2) + x6) + 4).toNatClampNeg)) a0 65)], sm_putI M b_6 (x7).toNatClampNeg (sm_I M b_2 (((60 * x2) + x6) + 4).toNatClampNeg))) sm_a190_427 rfl rfl (st_bipush (by decide)) ?_
  refine ru_go (t := (430, [some (.inr (some a0)), some (.inl x1), some (.inl x2), some (.inl x3), some (.inl x4), some (.inl x5), some (.inl x6), some (.inl x7)], [.inl (((60 * x2) + x6) + 6), .inr (sm_R (sm_putI M b_6 (x7).toNatClampNeg (sm_I M b_2 (((60 * x2) + x6) + 4).toNatClampNeg)) a0 86), .inl x7, .inr (sm_R (sm_putI M b_6 (x7).toNatClampNeg (sm_I M b_2 (((60 * x2) + x6) + 4).toNatClampNeg)) a0 65)], sm_putI M b_6 (x7).toNatClampNeg (sm_I M b_2 (((60 * x2) + x6) + 4).toNatClampNeg))) sm_a190_429 rfl rfl rfl ?_
  obtain ⟨b_10, hb_11, h⟩ := h
  rw [hb_11]
  obtain ⟨h_12, h⟩ := h
  obtain ⟨h_13, h⟩ := h
  refine ru_go (t := (431, [some (.inr (some a0)), some (.inl x1), some (.inl x2), some (.inl x3), some (.inl x4), some (.inl x5), some (.inl x6), some (.inl x7)], [.inl (sm_I (sm_putI M b_6 (x7).toNatClampNeg (sm_I M b_2 (((60 * x2) + x6) + 4).toNatClampNeg)) b_10 (((60 * x2) + x6) + 6).toNatClampNeg), .inl x7, .inr (sm_R (sm_putI M b_6 (x7).toNatClampNeg (sm_I M b_2 (((60 * x2) + x6) + 4).toNatClampNeg)) a0 65)], sm_putI M b_6 (x7).toNatClampNeg (sm_I M b_2 (((60 * x2) + x6) + 4).toNatClampNeg))) sm_a190_430 rfl rfl (st_iald h_12 h_13) ?_
  obtain ⟨b_14, hb_15, h⟩ := h
  rw [hb_15]
  obtain ⟨h_16, h⟩ := h
  obtain ⟨h_17, h⟩ := h
  refine ru_go (t := (432, [some (.inr (some a0)), some (.inl x1), some (.inl x2), some (.inl x3), some (.inl x4), some (.inl x5), some (.inl x6), some (.inl x7)], [], sm_putI (sm_putI M b_6 (x7).toNatClampNeg (sm_I M b_2 (((60 * x2) + x6) + 4).toNatClampNeg)) b_14 (x7).toNatClampNeg (sm_I (sm_putI M b_6 (x7).toNatClampNeg (sm_I M b_2 (((60 * x2) + x6) + 4).toNatClampNeg)) b_10 (((60 * x2) + x6) + 6).toNatClampNeg))) sm_a190_431 rfl rfl (st_iast h_16 h_17) ?_
  refine ru_go (t := (433, [some (.inr (some a0)), some (.inl x1), some (.inl x2), some (.inl x3), some (.inl x4), some (.inl x5), some (.inl x6), some (.inl x7)], [.inr (some a0)], sm_putI (sm_putI M b_6 (x7).toNatClampNeg (sm_I M b_2 (((60 * x2) + x6) + 4).toNatClampNeg)) b_14 (x7).toNatClampNeg (sm_I (sm_putI M b_6 (x7).toNatClampNeg (sm_I M b_2 (((60 * x2) + x6) + 4).toNatClampNeg)) b_10 (((60 * x2) + x6) + 6).toNatClampNeg))) sm_a190_432 rfl rfl rfl ?_
  refine ru_go (t := (436, [some (.inr (some a0)), some (.inl x1), some (.inl x2), some (.inl x3), some (.inl x4), some (.inl x5), some (.inl x6), some (.inl x7)], [.inr (sm_R (sm_putI (sm_putI M b_6 (x7).toNatClampNeg (sm_I M b_2 (((60 * x2) + x6) + 4).toNatClampNeg)) b_14 (x7).toNatClampNeg (sm_I (sm_putI M b_6 (x7).toNatClampNeg (sm_I M b_2 (((60 * x2) + x6) + 4).toNatClampNeg)) b_10 (((60 * x2) + x6) + 6).toNatClampNeg)) a0 61)], sm_putI (sm_putI M b_6 (x7).toNatClampNeg (sm_I M b_2 (((60 * x2) + x6) + 4).toNatClampNeg)) b_14 (x7).toNatClampNeg (sm_I (sm_putI M b_6 (x7).toNatClampNeg (sm_I M b_2 (((60 * x2) + x6) + 4).toNatClampNeg)) b_10 (((60 * x2) + x6) + 6).toNatClampNeg))) sm_a190_433 rfl rfl (st_getR h_1 rfl rfl) ?_
  refine ru_go (t := (437, [some (.inr (some a0)), some (.inl x1), some (.inl x2), some (.inl x3), some (.inl x4), some (.inl x5), some (.inl x6), some (.inl x7)], [.inl x2, .inr (sm_R (sm_putI (sm_putI M b_6 (x7).toNatClampNeg (sm_I M b_2 (((60 * x2) + x6) + 4).toNatClampNeg)) b_14 (x7).toNatClampNeg (sm_I (sm_putI M b_6 (x7).toNatClampNeg (sm_I M b_2 (((60 * x2) + x6) + 4).toNatClampNeg)) b_10 (((60 * x2) + x6) + 6).toNatClampNeg)) a0 61)], sm_putI (sm_putI M b_6 (x7).toNatClampNeg (sm_I M b_2 (((60 * x2) + x6) + 4).toNatClampNeg)) b_14 (x7).toNatClampNeg (sm_I (sm_putI M b_6 (x7).toNatClampNeg (sm_I M b_2 (((60 * x2) + x6) + 4).toNatClampNeg)) b_10 (((60 * x2) + x6) + 6).toNatClampNeg))) sm_a190_436 rfl rfl rfl ?_
  refine ru_go (t := (438, [some (.inr (some a0)), some (.inl x1), some (.inl x2), some (.inl x3), some (.inl x4), some (.inl x5), some (.inl x6), some (.inl x7)], [.inl x2, .inr (sm_R (sm_putI (sm_putI M b_6 (x7).toNatClampNeg (sm_I M b_2 (((60 * x2) + x6) + 4).toNatClampNeg)) b_14 (x7).toNatClampNeg (sm_I (sm_putI M b_6 (x7).toNatClampNeg (sm_I M b_2 (((60 * x2) + x6) + 4).toNatClampNeg)) b_10 (((60 * x2) + x6) + 6).toNatClampNeg)) a0 61), .inl x2, .inr (sm_R (sm_putI (sm_putI M b_6 (x7).toNatClampNeg (sm_I M b_2 (((60 * x2) + x6) + 4).toNatClampNeg)) b_14 (x7).toNatClampNeg (sm_I (sm_putI M b_6 (x7).toNatClampNeg (sm_I M b_2 (((60 * x2) + x6) + 4).toNatClampNeg)) b_10 (((60 * x2) + x6) + 6).toNatClampNeg)) a0 61)], sm_putI (sm_putI M b_6 (x7).toNatClampNeg (sm_I M b_2 (((60 * x2) + x6) + 4).toNatClampNeg)) b_14 (x7).toNatClampNeg (sm_I (sm_putI M b_6 (x7).toNatClampNeg (sm_I M b_2 (((60 * x2) + x6) + 4).toNatClampNeg)) b_10 (((60 * x2) + x6) + 6).toNatClampNeg))) sm_a190_437 rfl rfl rfl ?_
  obtain ⟨b_18, hb_19, h⟩ := h
  rw [hb_19]
  obtain ⟨h_20, h⟩ := h
  obtain ⟨h_21, h⟩ := h
  refine ru_go (t := (439, [some (.inr (some a0)), some (.inl x1), some (.inl x2), some (.inl x3), some (.inl x4), some (.inl x5), some (.inl x6), some (.inl x7)], [.inl (sm_I (sm_putI (sm_putI M b_6 (x7).toNatClampNeg (sm_I M b_2 (((60 * x2) + x6) + 4).toNatClampNeg)) b_14 (x7).toNatClampNeg (sm_I (sm_putI M b_6 (x7).toNatClampNeg (sm_I M b_2 (((60 * x2) + x6) + 4).toNatClampNeg)) b_10 (((60 * x2) + x6) + 6).toNatClampNeg)) b_18 (x2).toNatClampNeg), .inl x2, .inr (some b_18)], sm_putI (sm_putI M b_6 (x7).toNatClampNeg (sm_I M b_2 (((60 * x2) + x6) + 4).toNatClampNeg)) b_14 (x7).toNatClampNeg (sm_I (sm_putI M b_6 (x7).toNatClampNeg (sm_I M b_2 (((60 * x2) + x6) + 4).toNatClampNeg)) b_10 (((60 * x2) + x6) + 6).toNatClampNeg))) sm_a190_438 rfl rfl (st_iald h_20 h_21) ?_
  refine ru_go (t := (440, [some (.inr (some a0)), some (.inl x1), some (.inl x2), some (.inl x3), some (.inl x4), some (.inl x5), some (.inl x6), some (.inl x7)], [.inl 1, .inl (sm_I (sm_putI (sm_putI M b_6 (x7).toNatClampNeg (sm_I M b_2 (((60 * x2) + x6) + 4).toNatClampNeg)) b_14 (x7).toNatClampNeg (sm_I (sm_putI M b_6 (x7).toNatClampNeg (sm_I M b_2 (((60 * x2) + x6) + 4).toNatClampNeg)) b_10 (((60 * x2) + x6) + 6).toNatClampNeg)) b_18 (x2).toNatClampNeg), .inl x2, .inr (some b_18)], sm_putI (sm_putI M b_6 (x7).toNatClampNeg (sm_I M b_2 (((60 * x2) + x6) + 4).toNatClampNeg)) b_14 (x7).toNatClampNeg (sm_I (sm_putI M b_6 (x7).toNatClampNeg (sm_I M b_2 (((60 * x2) + x6) + 4).toNatClampNeg)) b_10 (((60 * x2) + x6) + 6).toNatClampNeg))) sm_a190_439 rfl rfl (st_iconst (by decide)) ?_
  refine ru_go (t := (441, [some (.inr (some a0)), some (.inl x1), some (.inl x2), some (.inl x3), some (.inl x4), some (.inl x5), some (.inl x6), some (.inl x7)], [.inl ((sm_I (sm_putI (sm_putI M b_6 (x7).toNatClampNeg (sm_I M b_2 (((60 * x2) + x6) + 4).toNatClampNeg)) b_14 (x7).toNatClampNeg (sm_I (sm_putI M b_6 (x7).toNatClampNeg (sm_I M b_2 (((60 * x2) + x6) + 4).toNatClampNeg)) b_10 (((60 * x2) + x6) + 6).toNatClampNeg)) b_18 (x2).toNatClampNeg) + 1), .inl x2, .inr (some b_18)], sm_putI (sm_putI M b_6 (x7).toNatClampNeg (sm_I M b_2 (((60 * x2) + x6) + 4).toNatClampNeg)) b_14 (x7).toNatClampNeg (sm_I (sm_putI M b_6 (x7).toNatClampNeg (sm_I M b_2 (((60 * x2) + x6) + 4).toNatClampNeg)) b_10 (((60 * x2) + x6) + 6).toNatClampNeg))) sm_a190_440 rfl rfl rfl ?_
  obtain ⟨h_22, h⟩ := h
  refine ru_go (t := (442, [some (.inr (some a0)), some (.inl x1), some (.inl x2), some (.inl x3), some (.inl x4), some (.inl x5), some (.inl x6), some (.inl x7)], [], sm_putI (sm_putI (sm_putI M b_6 (x7).toNatClampNeg (sm_I M b_2 (((60 * x2) + x6) + 4).toNatClampNeg)) b_14 (x7).toNatClampNeg (sm_I (sm_putI M b_6 (x7).toNatClampNeg (sm_I M b_2 (((60 * x2) + x6) + 4).toNatClampNeg)) b_10 (((60 * x2) + x6) + 6).toNatClampNeg)) b_18 (x2).toNatClampNeg ((sm_I (sm_putI (sm_putI M b_6 (x7).toNatClampNeg (sm_I M b_2 (((60 * x2) + x6) + 4).toNatClampNeg)) b_14 (x7).toNatClampNeg (sm_I (sm_putI M b_6 (x7).toNatClampNeg (sm_I M b_2 (((60 * x2) + x6) + 4).toNatClampNeg)) b_10 (((60 * x2) + x6) + 6).toNatClampNeg)) b_18 (x2).toNatClampNeg) + 1))) sm_a190_441 rfl rfl (st_iast h_22 h_21) ?_
  exact h
theorem bb_190_442 {d : Nat} {M : sm_M} {Q : Option sm_V → sm_M → Prop} {a0 : Nat} {x1 : Int32} {x2 : Int32} {x3 : Int32} {x4 : Int32} {x5 : Int32} {x6 : Int32} {x7 : Int32}
    (h : sm_Run (d + 1) 190 320 [some (.inr (some a0)), some (.inl x1), some (.inl x2), some (.inl x3), some (.inl x4), some (.inl x5), some (.inl (x6 + 7)), some (.inl x7)] [] M Q) :
    sm_Run (d + 1) 190 442 [some (.inr (some a0)), some (.inl x1), some (.inl x2), some (.inl x3), some (.inl x4), some (.inl x5), some (.inl x6), some (.inl x7)] [] M Q := by
  refine ru_go (t := (445, [some (.inr (some a0)), some (.inl x1), some (.inl x2), some (.inl x3), some (.inl x4), some (.inl x5), some (.inl (x6 + 7)), some (.inl x7)], [], M)) sm_a190_442 rfl rfl (st_iinc rfl (by decide)) ?_
  refine ru_go (t := (320, [some (.inr (some a0)), some (.inl x1), some (.inl x2), some (.inl x3), some (.inl x4), some (.inl x5), some (.inl (x6 + 7)), some (.inl x7)], [], M)) sm_a190_445 rfl rfl (st_goto (pc := 445) (by decide)) ?_
  exact h

/-! WireBusModel.oneFrame:()V -/
theorem sm_a191_0 : sm_at 191 0 = some (.aload_n 0, 1, (0, 0, 0, 0)) := by decide +kernel
theorem sm_a191_1 : sm_at 191 1 = some (.iconst 5, 1, (0, 0, 0, 0)) := by decide +kernel
theorem sm_a191_2 : sm_at 191 2 = some (.aload_n 0, 1, (0, 0, 0, 0)) := by decide +kernel
theorem sm_a191_3 : sm_at 191 3 = some (.getfield 391, 3, (12, 56, 0, 1239)) := by decide +kernel
theorem sm_a191_6 : sm_at 191 6 = some (.iconst 0, 1, (0, 0, 0, 0)) := by decide +kernel
theorem sm_a191_7 : sm_at 191 7 = some (.iconst 0, 1, (0, 0, 0, 0)) := by decide +kernel
theorem sm_a191_8 : sm_at 191 8 = some (.invokevirtual 349, 3, (10, 178, 12, 1523)) := by decide +kernel
theorem sm_a191_11 : sm_at 191 11 = some (.aload_n 0, 1, (0, 0, 0, 0)) := by decide +kernel
theorem sm_a191_12 : sm_at 191 12 = some (.aload_n 0, 1, (0, 0, 0, 0)) := by decide +kernel
theorem sm_a191_13 : sm_at 191 13 = some (.getfield 228, 3, (12, 0, 0, 1183)) := by decide +kernel
theorem sm_a191_16 : sm_at 191 16 = some (.putfield 394, 3, (12, 87, 0, 1270)) := by decide +kernel
theorem sm_a191_19 : sm_at 191 19 = some (.iconst 0, 1, (0, 0, 0, 0)) := by decide +kernel
theorem sm_a191_20 : sm_at 191 20 = some (.istore_n 1, 1, (0, 0, 0, 0)) := by decide +kernel
theorem sm_a191_21 : sm_at 191 21 = some (.iload_n 1, 1, (0, 0, 0, 0)) := by decide +kernel
theorem sm_a191_22 : sm_at 191 22 = some (.bipush 60, 2, (0, 0, 0, 0)) := by decide +kernel
theorem sm_a191_24 : sm_at 191 24 = some (.if_icmp .ge 16, 3, (0, 0, 0, 0)) := by decide +kernel
theorem sm_a191_27 : sm_at 191 27 = some (.aload_n 0, 1, (0, 0, 0, 0)) := by decide +kernel
theorem sm_a191_28 : sm_at 191 28 = some (.getfield 182, 3, (12, 68, 0, 1251)) := by decide +kernel
theorem sm_a191_31 : sm_at 191 31 = some (.iload_n 1, 1, (0, 0, 0, 0)) := by decide +kernel
theorem sm_a191_32 : sm_at 191 32 = some (.iconst 0, 1, (0, 0, 0, 0)) := by decide +kernel
theorem sm_a191_33 : sm_at 191 33 = some (.bastore, 1, (1, 0, 0, 0)) := by decide +kernel
theorem sm_a191_34 : sm_at 191 34 = some (.iinc 1 1, 3, (0, 0, 0, 0)) := by decide +kernel
theorem sm_a191_37 : sm_at 191 37 = some (.goto (-16), 3, (0, 0, 0, 0)) := by decide +kernel
theorem sm_a191_40 : sm_at 191 40 = some (.iconst 0, 1, (0, 0, 0, 0)) := by decide +kernel
theorem sm_a191_41 : sm_at 191 41 = some (.istore_n 1, 1, (0, 0, 0, 0)) := by decide +kernel
theorem sm_a191_42 : sm_at 191 42 = some (.iload_n 1, 1, (0, 0, 0, 0)) := by decide +kernel
theorem sm_a191_43 : sm_at 191 43 = some (.bipush 60, 2, (0, 0, 0, 0)) := by decide +kernel
theorem sm_a191_45 : sm_at 191 45 = some (.if_icmp .ge 119, 3, (0, 0, 0, 0)) := by decide +kernel
theorem sm_a191_48 : sm_at 191 48 = some (.iload_n 1, 1, (0, 0, 0, 0)) := by decide +kernel
theorem sm_a191_49 : sm_at 191 49 = some (.bipush 10, 2, (0, 0, 0, 0)) := by decide +kernel
theorem sm_a191_51 : sm_at 191 51 = some (.idiv, 1, (0, 0, 0, 0)) := by decide +kernel
theorem sm_a191_52 : sm_at 191 52 = some (.istore_n 2, 1, (0, 0, 0, 0)) := by decide +kernel
theorem sm_a191_53 : sm_at 191 53 = some (.iload_n 1, 1, (0, 0, 0, 0)) := by decide +kernel
theorem sm_a191_54 : sm_at 191 54 = some (.bipush 10, 2, (0, 0, 0, 0)) := by decide +kernel
theorem sm_a191_56 : sm_at 191 56 = some (.irem, 1, (0, 0, 0, 0)) := by decide +kernel
theorem sm_a191_57 : sm_at 191 57 = some (.aload_n 0, 1, (0, 0, 0, 0)) := by decide +kernel
theorem sm_a191_58 : sm_at 191 58 = some (.getfield 161, 3, (12, 61, 0, 1244)) := by decide +kernel
theorem sm_a191_61 : sm_at 191 61 = some (.iload_n 2, 1, (0, 0, 0, 0)) := by decide +kernel
theorem sm_a191_62 : sm_at 191 62 = some (.iaload, 1, (0, 0, 0, 0)) := by decide +kernel
theorem sm_a191_63 : sm_at 191 63 = some (.if_icmp .ge 47, 3, (0, 0, 0, 0)) := by decide +kernel
theorem sm_a191_66 : sm_at 191 66 = some (.aload_n 0, 1, (0, 0, 0, 0)) := by decide +kernel
theorem sm_a191_67 : sm_at 191 67 = some (.getfield 179, 3, (12, 67, 0, 1250)) := by decide +kernel
theorem sm_a191_70 : sm_at 191 70 = some (.iload_n 1, 1, (0, 0, 0, 0)) := by decide +kernel
theorem sm_a191_71 : sm_at 191 71 = some (.baload, 1, (0, 0, 0, 0)) := by decide +kernel
theorem sm_a191_72 : sm_at 191 72 = some (.ifCond .eq 38, 3, (0, 0, 0, 0)) := by decide +kernel
theorem sm_a191_75 : sm_at 191 75 = some (.aload_n 0, 1, (0, 0, 0, 0)) := by decide +kernel
theorem sm_a191_76 : sm_at 191 76 = some (.getfield 167, 3, (12, 63, 0, 1246)) := by decide +kernel
theorem sm_a191_79 : sm_at 191 79 = some (.iload_n 1, 1, (0, 0, 0, 0)) := by decide +kernel
theorem sm_a191_80 : sm_at 191 80 = some (.iaload, 1, (0, 0, 0, 0)) := by decide +kernel
theorem sm_a191_81 : sm_at 191 81 = some (.iconst 3, 1, (0, 0, 0, 0)) := by decide +kernel
theorem sm_a191_82 : sm_at 191 82 = some (.if_icmp .ne 28, 3, (0, 0, 0, 0)) := by decide +kernel
theorem sm_a191_85 : sm_at 191 85 = some (.aload_n 0, 1, (0, 0, 0, 0)) := by decide +kernel
theorem sm_a191_86 : sm_at 191 86 = some (.getfield 391, 3, (12, 56, 0, 1239)) := by decide +kernel
theorem sm_a191_89 : sm_at 191 89 = some (.aload_n 0, 1, (0, 0, 0, 0)) := by decide +kernel
theorem sm_a191_90 : sm_at 191 90 = some (.getfield 173, 3, (12, 65, 0, 1248)) := by decide +kernel
theorem sm_a191_93 : sm_at 191 93 = some (.iload_n 1, 1, (0, 0, 0, 0)) := by decide +kernel
theorem sm_a191_94 : sm_at 191 94 = some (.iaload, 1, (0, 0, 0, 0)) := by decide +kernel
theorem sm_a191_95 : sm_at 191 95 = some (.irem, 1, (0, 0, 0, 0)) := by decide +kernel
theorem sm_a191_96 : sm_at 191 96 = some (.ifCond .ne 14, 3, (0, 0, 0, 0)) := by decide +kernel
theorem sm_a191_99 : sm_at 191 99 = some (.aload_n 0, 1, (0, 0, 0, 0)) := by decide +kernel
theorem sm_a191_100 : sm_at 191 100 = some (.getfield 394, 3, (12, 87, 0, 1270)) := by decide +kernel
theorem sm_a191_103 : sm_at 191 103 = some (.ifCond .le 7, 3, (0, 0, 0, 0)) := by decide +kernel
theorem sm_a191_106 : sm_at 191 106 = some (.iconst 1, 1, (0, 0, 0, 0)) := by decide +kernel
theorem sm_a191_107 : sm_at 191 107 = some (.goto 4, 3, (0, 0, 0, 0)) := by decide +kernel
theorem sm_a191_110 : sm_at 191 110 = some (.iconst 0, 1, (0, 0, 0, 0)) := by decide +kernel
theorem sm_a191_111 : sm_at 191 111 = some (.istore_n 3, 1, (0, 0, 0, 0)) := by decide +kernel
theorem sm_a191_112 : sm_at 191 112 = some (.iload_n 3, 1, (0, 0, 0, 0)) := by decide +kernel
theorem sm_a191_113 : sm_at 191 113 = some (.ifCond .eq 17, 3, (0, 0, 0, 0)) := by decide +kernel
theorem sm_a191_116 : sm_at 191 116 = some (.aload_n 0, 1, (0, 0, 0, 0)) := by decide +kernel
theorem sm_a191_117 : sm_at 191 117 = some (.iload_n 2, 1, (0, 0, 0, 0)) := by decide +kernel
theorem sm_a191_118 : sm_at 191 118 = some (.aload_n 0, 1, (0, 0, 0, 0)) := by decide +kernel
theorem sm_a191_119 : sm_at 191 119 = some (.getfield 164, 3, (12, 62, 0, 1245)) := by decide +kernel
theorem sm_a191_122 : sm_at 191 122 = some (.iload_n 1, 1, (0, 0, 0, 0)) := by decide +kernel
theorem sm_a191_123 : sm_at 191 123 = some (.iaload, 1, (0, 0, 0, 0)) := by decide +kernel
theorem sm_a191_124 : sm_at 191 124 = some (.invokevirtual 397, 3, (10, 186, 12, 1608)) := by decide +kernel
theorem sm_a191_127 : sm_at 191 127 = some (.goto 4, 3, (0, 0, 0, 0)) := by decide +kernel
theorem sm_a191_130 : sm_at 191 130 = some (.iconst (-1), 1, (0, 0, 0, 0)) := by decide +kernel
theorem sm_a191_131 : sm_at 191 131 = some (.istore 4, 2, (0, 0, 0, 0)) := by decide +kernel
theorem sm_a191_133 : sm_at 191 133 = some (.iload 4, 2, (0, 0, 0, 0)) := by decide +kernel
theorem sm_a191_135 : sm_at 191 135 = some (.iconst (-1), 1, (0, 0, 0, 0)) := by decide +kernel
theorem sm_a191_136 : sm_at 191 136 = some (.if_icmp .eq 22, 3, (0, 0, 0, 0)) := by decide +kernel
theorem sm_a191_139 : sm_at 191 139 = some (.aload_n 0, 1, (0, 0, 0, 0)) := by decide +kernel
theorem sm_a191_140 : sm_at 191 140 = some (.iload_n 1, 1, (0, 0, 0, 0)) := by decide +kernel
theorem sm_a191_141 : sm_at 191 141 = some (.iload 4, 2, (0, 0, 0, 0)) := by decide +kernel
theorem sm_a191_143 : sm_at 191 143 = some (.invokevirtual 400, 3, (10, 185, 12, 1612)) := by decide +kernel
theorem sm_a191_146 : sm_at 191 146 = some (.istore 5, 2, (0, 0, 0, 0)) := by decide +kernel
theorem sm_a191_148 : sm_at 191 148 = some (.aload_n 0, 1, (0, 0, 0, 0)) := by decide +kernel
theorem sm_a191_149 : sm_at 191 149 = some (.dup, 1, (0, 0, 0, 0)) := by decide +kernel
theorem sm_a191_150 : sm_at 191 150 = some (.getfield 394, 3, (12, 87, 0, 1270)) := by decide +kernel
theorem sm_a191_153 : sm_at 191 153 = some (.iconst 1, 1, (0, 0, 0, 0)) := by decide +kernel
theorem sm_a191_154 : sm_at 191 154 = some (.isub, 1, (0, 0, 0, 0)) := by decide +kernel
theorem sm_a191_155 : sm_at 191 155 = some (.putfield 394, 3, (12, 87, 0, 1270)) := by decide +kernel
theorem sm_a191_158 : sm_at 191 158 = some (.iinc 1 1, 3, (0, 0, 0, 0)) := by decide +kernel
theorem sm_a191_161 : sm_at 191 161 = some (.goto (-119), 3, (0, 0, 0, 0)) := by decide +kernel
theorem sm_a191_164 : sm_at 191 164 = some (.iconst 0, 1, (0, 0, 0, 0)) := by decide +kernel
theorem sm_a191_165 : sm_at 191 165 = some (.istore_n 1, 1, (0, 0, 0, 0)) := by decide +kernel
theorem sm_a191_166 : sm_at 191 166 = some (.aload_n 0, 1, (0, 0, 0, 0)) := by decide +kernel
theorem sm_a191_167 : sm_at 191 167 = some (.invokevirtual 404, 3, (10, 187, 12, 1637)) := by decide +kernel
theorem sm_a191_170 : sm_at 191 170 = some (.istore_n 2, 1, (0, 0, 0, 0)) := by decide +kernel
theorem sm_a191_171 : sm_at 191 171 = some (.iload_n 2, 1, (0, 0, 0, 0)) := by decide +kernel
theorem sm_a191_172 : sm_at 191 172 = some (.iconst (-1), 1, (0, 0, 0, 0)) := by decide +kernel
theorem sm_a191_173 : sm_at 191 173 = some (.if_icmp .eq 52, 3, (0, 0, 0, 0)) := by decide +kernel
theorem sm_a191_176 : sm_at 191 176 = some (.aload_n 0, 1, (0, 0, 0, 0)) := by decide +kernel
theorem sm_a191_177 : sm_at 191 177 = some (.getfield 394, 3, (12, 87, 0, 1270)) := by decide +kernel
theorem sm_a191_180 : sm_at 191 180 = some (.ifCond .le 45, 3, (0, 0, 0, 0)) := by decide +kernel
theorem sm_a191_183 : sm_at 191 183 = some (.iload_n 1, 1, (0, 0, 0, 0)) := by decide +kernel
theorem sm_a191_184 : sm_at 191 184 = some (.ifCond .ne 41, 3, (0, 0, 0, 0)) := by decide +kernel
theorem sm_a191_187 : sm_at 191 187 = some (.aload_n 0, 1, (0, 0, 0, 0)) := by decide +kernel
theorem sm_a191_188 : sm_at 191 188 = some (.iload_n 2, 1, (0, 0, 0, 0)) := by decide +kernel
theorem sm_a191_189 : sm_at 191 189 = some (.invokevirtual 408, 3, (10, 184, 12, 1641)) := by decide +kernel
theorem sm_a191_192 : sm_at 191 192 = some (.istore_n 1, 1, (0, 0, 0, 0)) := by decide +kernel
theorem sm_a191_193 : sm_at 191 193 = some (.aload_n 0, 1, (0, 0, 0, 0)) := by decide +kernel
theorem sm_a191_194 : sm_at 191 194 = some (.dup, 1, (0, 0, 0, 0)) := by decide +kernel
theorem sm_a191_195 : sm_at 191 195 = some (.getfield 394, 3, (12, 87, 0, 1270)) := by decide +kernel
theorem sm_a191_198 : sm_at 191 198 = some (.iconst 1, 1, (0, 0, 0, 0)) := by decide +kernel
theorem sm_a191_199 : sm_at 191 199 = some (.isub, 1, (0, 0, 0, 0)) := by decide +kernel
theorem sm_a191_200 : sm_at 191 200 = some (.putfield 394, 3, (12, 87, 0, 1270)) := by decide +kernel
theorem sm_a191_203 : sm_at 191 203 = some (.aload_n 0, 1, (0, 0, 0, 0)) := by decide +kernel
theorem sm_a191_204 : sm_at 191 204 = some (.getfield 191, 3, (12, 73, 0, 1256)) := by decide +kernel
theorem sm_a191_207 : sm_at 191 207 = some (.iload_n 2, 1, (0, 0, 0, 0)) := by decide +kernel
theorem sm_a191_208 : sm_at 191 208 = some (.iaload, 1, (0, 0, 0, 0)) := by decide +kernel
theorem sm_a191_209 : sm_at 191 209 = some (.ifCond .eq 8, 3, (0, 0, 0, 0)) := by decide +kernel
theorem sm_a191_212 : sm_at 191 212 = some (.aload_n 0, 1, (0, 0, 0, 0)) := by decide +kernel
theorem sm_a191_213 : sm_at 191 213 = some (.iload_n 2, 1, (0, 0, 0, 0)) := by decide +kernel
theorem sm_a191_214 : sm_at 191 214 = some (.invokevirtual 412, 3, (10, 189, 12, 1645)) := by decide +kernel
theorem sm_a191_217 : sm_at 191 217 = some (.aload_n 0, 1, (0, 0, 0, 0)) := by decide +kernel
theorem sm_a191_218 : sm_at 191 218 = some (.invokevirtual 404, 3, (10, 187, 12, 1637)) := by decide +kernel
theorem sm_a191_221 : sm_at 191 221 = some (.istore_n 2, 1, (0, 0, 0, 0)) := by decide +kernel
theorem sm_a191_222 : sm_at 191 222 = some (.goto (-51), 3, (0, 0, 0, 0)) := by decide +kernel
theorem sm_a191_225 : sm_at 191 225 = some (.iconst 1, 1, (0, 0, 0, 0)) := by decide +kernel
theorem sm_a191_226 : sm_at 191 226 = some (.istore_n 3, 1, (0, 0, 0, 0)) := by decide +kernel
theorem sm_a191_227 : sm_at 191 227 = some (.iload_n 3, 1, (0, 0, 0, 0)) := by decide +kernel
theorem sm_a191_228 : sm_at 191 228 = some (.ifCond .eq 170, 3, (0, 0, 0, 0)) := by decide +kernel
theorem sm_a191_231 : sm_at 191 231 = some (.aload_n 0, 1, (0, 0, 0, 0)) := by decide +kernel
theorem sm_a191_232 : sm_at 191 232 = some (.getfield 394, 3, (12, 87, 0, 1270)) := by decide +kernel
theorem sm_a191_235 : sm_at 191 235 = some (.ifCond .le 163, 3, (0, 0, 0, 0)) := by decide +kernel
theorem sm_a191_238 : sm_at 191 238 = some (.iconst 0, 1, (0, 0, 0, 0)) := by decide +kernel
theorem sm_a191_239 : sm_at 191 239 = some (.istore_n 3, 1, (0, 0, 0, 0)) := by decide +kernel
theorem sm_a191_240 : sm_at 191 240 = some (.iconst 1, 1, (0, 0, 0, 0)) := by decide +kernel
theorem sm_a191_241 : sm_at 191 241 = some (.istore 4, 2, (0, 0, 0, 0)) := by decide +kernel
theorem sm_a191_243 : sm_at 191 243 = some (.iload 4, 2, (0, 0, 0, 0)) := by decide +kernel
theorem sm_a191_245 : sm_at 191 245 = some (.bipush 60, 2, (0, 0, 0, 0)) := by decide +kernel
theorem sm_a191_247 : sm_at 191 247 = some (.if_icmp .gt 148, 3, (0, 0, 0, 0)) := by decide +kernel
theorem sm_a191_250 : sm_at 191 250 = some (.iload_n 3, 1, (0, 0, 0, 0)) := by decide +kernel
theorem sm_a191_251 : sm_at 191 251 = some (.ifCond .ne 144, 3, (0, 0, 0, 0)) := by decide +kernel
theorem sm_a191_254 : sm_at 191 254 = some (.aload_n 0, 1, (0, 0, 0, 0)) := by decide +kernel
theorem sm_a191_255 : sm_at 191 255 = some (.getfield 232, 3, (12, 69, 0, 1252)) := by decide +kernel
theorem sm_a191_258 : sm_at 191 258 = some (.iload 4, 2, (0, 0, 0, 0)) := by decide +kernel
theorem sm_a191_260 : sm_at 191 260 = some (.iadd, 1, (0, 0, 0, 0)) := by decide +kernel
theorem sm_a191_261 : sm_at 191 261 = some (.bipush 60, 2, (0, 0, 0, 0)) := by decide +kernel
theorem sm_a191_263 : sm_at 191 263 = some (.irem, 1, (0, 0, 0, 0)) := by decide +kernel
theorem sm_a191_264 : sm_at 191 264 = some (.istore 5, 2, (0, 0, 0, 0)) := by decide +kernel
theorem sm_a191_266 : sm_at 191 266 = some (.iload 5, 2, (0, 0, 0, 0)) := by decide +kernel
theorem sm_a191_268 : sm_at 191 268 = some (.bipush 10, 2, (0, 0, 0, 0)) := by decide +kernel
theorem sm_a191_270 : sm_at 191 270 = some (.idiv, 1, (0, 0, 0, 0)) := by decide +kernel
theorem sm_a191_271 : sm_at 191 271 = some (.istore 6, 2, (0, 0, 0, 0)) := by decide +kernel
theorem sm_a191_273 : sm_at 191 273 = some (.iload 5, 2, (0, 0, 0, 0)) := by decide +kernel
theorem sm_a191_275 : sm_at 191 275 = some (.bipush 10, 2, (0, 0, 0, 0)) := by decide +kernel
theorem sm_a191_277 : sm_at 191 277 = some (.irem, 1, (0, 0, 0, 0)) := by decide +kernel
theorem sm_a191_278 : sm_at 191 278 = some (.aload_n 0, 1, (0, 0, 0, 0)) := by decide +kernel
theorem sm_a191_279 : sm_at 191 279 = some (.getfield 161, 3, (12, 61, 0, 1244)) := by decide +kernel
theorem sm_a191_282 : sm_at 191 282 = some (.iload 6, 2, (0, 0, 0, 0)) := by decide +kernel
theorem sm_a191_284 : sm_at 191 284 = some (.iaload, 1, (0, 0, 0, 0)) := by decide +kernel
theorem sm_a191_285 : sm_at 191 285 = some (.if_icmp .ge 38, 3, (0, 0, 0, 0)) := by decide +kernel
theorem sm_a191_288 : sm_at 191 288 = some (.aload_n 0, 1, (0, 0, 0, 0)) := by decide +kernel
theorem sm_a191_289 : sm_at 191 289 = some (.getfield 179, 3, (12, 67, 0, 1250)) := by decide +kernel
theorem sm_a191_292 : sm_at 191 292 = some (.iload 5, 2, (0, 0, 0, 0)) := by decide +kernel
theorem sm_a191_294 : sm_at 191 294 = some (.baload, 1, (0, 0, 0, 0)) := by decide +kernel
theorem sm_a191_295 : sm_at 191 295 = some (.ifCond .eq 28, 3, (0, 0, 0, 0)) := by decide +kernel
theorem sm_a191_298 : sm_at 191 298 = some (.aload_n 0, 1, (0, 0, 0, 0)) := by decide +kernel
theorem sm_a191_299 : sm_at 191 299 = some (.getfield 167, 3, (12, 63, 0, 1246)) := by decide +kernel
theorem sm_a191_302 : sm_at 191 302 = some (.iload 5, 2, (0, 0, 0, 0)) := by decide +kernel
theorem sm_a191_304 : sm_at 191 304 = some (.iaload, 1, (0, 0, 0, 0)) := by decide +kernel
theorem sm_a191_305 : sm_at 191 305 = some (.iconst 2, 1, (0, 0, 0, 0)) := by decide +kernel
theorem sm_a191_306 : sm_at 191 306 = some (.if_icmp .ne 17, 3, (0, 0, 0, 0)) := by decide +kernel
theorem sm_a191_309 : sm_at 191 309 = some (.aload_n 0, 1, (0, 0, 0, 0)) := by decide +kernel
theorem sm_a191_310 : sm_at 191 310 = some (.getfield 182, 3, (12, 68, 0, 1251)) := by decide +kernel
theorem sm_a191_313 : sm_at 191 313 = some (.iload 5, 2, (0, 0, 0, 0)) := by decide +kernel
theorem sm_a191_315 : sm_at 191 315 = some (.baload, 1, (0, 0, 0, 0)) := by decide +kernel
theorem sm_a191_316 : sm_at 191 316 = some (.ifCond .ne 7, 3, (0, 0, 0, 0)) := by decide +kernel
theorem sm_a191_319 : sm_at 191 319 = some (.iconst 1, 1, (0, 0, 0, 0)) := by decide +kernel
theorem sm_a191_320 : sm_at 191 320 = some (.goto 4, 3, (0, 0, 0, 0)) := by decide +kernel
theorem sm_a191_323 : sm_at 191 323 = some (.iconst 0, 1, (0, 0, 0, 0)) := by decide +kernel
theorem sm_a191_324 : sm_at 191 324 = some (.istore 7, 2, (0, 0, 0, 0)) := by decide +kernel
theorem sm_a191_326 : sm_at 191 326 = some (.iload 7, 2, (0, 0, 0, 0)) := by decide +kernel
theorem sm_a191_328 : sm_at 191 328 = some (.ifCond .eq 19, 3, (0, 0, 0, 0)) := by decide +kernel
theorem sm_a191_331 : sm_at 191 331 = some (.aload_n 0, 1, (0, 0, 0, 0)) := by decide +kernel
theorem sm_a191_332 : sm_at 191 332 = some (.iload 6, 2, (0, 0, 0, 0)) := by decide +kernel
theorem sm_a191_334 : sm_at 191 334 = some (.aload_n 0, 1, (0, 0, 0, 0)) := by decide +kernel
theorem sm_a191_335 : sm_at 191 335 = some (.getfield 164, 3, (12, 62, 0, 1245)) := by decide +kernel
theorem sm_a191_338 : sm_at 191 338 = some (.iload 5, 2, (0, 0, 0, 0)) := by decide +kernel
theorem sm_a191_340 : sm_at 191 340 = some (.iaload, 1, (0, 0, 0, 0)) := by decide +kernel
theorem sm_a191_341 : sm_at 191 341 = some (.invokevirtual 397, 3, (10, 186, 12, 1608)) := by decide +kernel
theorem sm_a191_344 : sm_at 191 344 = some (.goto 4, 3, (0, 0, 0, 0)) := by decide +kernel
theorem sm_a191_347 : sm_at 191 347 = some (.iconst (-1), 1, (0, 0, 0, 0)) := by decide +kernel
theorem sm_a191_348 : sm_at 191 348 = some (.istore 8, 2, (0, 0, 0, 0)) := by decide +kernel
theorem sm_a191_350 : sm_at 191 350 = some (.iload 8, 2, (0, 0, 0, 0)) := by decide +kernel
theorem sm_a191_352 : sm_at 191 352 = some (.iconst (-1), 1, (0, 0, 0, 0)) := by decide +kernel
theorem sm_a191_353 : sm_at 191 353 = some (.if_icmp .eq 36, 3, (0, 0, 0, 0)) := by decide +kernel
theorem sm_a191_356 : sm_at 191 356 = some (.aload_n 0, 1, (0, 0, 0, 0)) := by decide +kernel
theorem sm_a191_357 : sm_at 191 357 = some (.getfield 182, 3, (12, 68, 0, 1251)) := by decide +kernel
theorem sm_a191_360 : sm_at 191 360 = some (.iload 5, 2, (0, 0, 0, 0)) := by decide +kernel
theorem sm_a191_362 : sm_at 191 362 = some (.aload_n 0, 1, (0, 0, 0, 0)) := by decide +kernel
theorem sm_a191_363 : sm_at 191 363 = some (.iload 5, 2, (0, 0, 0, 0)) := by decide +kernel
theorem sm_a191_365 : sm_at 191 365 = some (.iload 8, 2, (0, 0, 0, 0)) := by decide +kernel
theorem sm_a191_367 : sm_at 191 367 = some (.invokevirtual 400, 3, (10, 185, 12, 1612)) := by decide +kernel
theorem sm_a191_370 : sm_at 191 370 = some (.bastore, 1, (1, 0, 0, 0)) := by decide +kernel
theorem sm_a191_371 : sm_at 191 371 = some (.aload_n 0, 1, (0, 0, 0, 0)) := by decide +kernel
theorem sm_a191_372 : sm_at 191 372 = some (.iload 5, 2, (0, 0, 0, 0)) := by decide +kernel
theorem sm_a191_374 : sm_at 191 374 = some (.putfield 232, 3, (12, 69, 0, 1252)) := by decide +kernel
theorem sm_a191_377 : sm_at 191 377 = some (.aload_n 0, 1, (0, 0, 0, 0)) := by decide +kernel
theorem sm_a191_378 : sm_at 191 378 = some (.dup, 1, (0, 0, 0, 0)) := by decide +kernel
theorem sm_a191_379 : sm_at 191 379 = some (.getfield 394, 3, (12, 87, 0, 1270)) := by decide +kernel
theorem sm_a191_382 : sm_at 191 382 = some (.iconst 1, 1, (0, 0, 0, 0)) := by decide +kernel
theorem sm_a191_383 : sm_at 191 383 = some (.isub, 1, (0, 0, 0, 0)) := by decide +kernel
theorem sm_a191_384 : sm_at 191 384 = some (.putfield 394, 3, (12, 87, 0, 1270)) := by decide +kernel
theorem sm_a191_387 : sm_at 191 387 = some (.iconst 1, 1, (0, 0, 0, 0)) := by decide +kernel
theorem sm_a191_388 : sm_at 191 388 = some (.istore_n 3, 1, (0, 0, 0, 0)) := by decide +kernel
theorem sm_a191_389 : sm_at 191 389 = some (.iinc 4 1, 3, (0, 0, 0, 0)) := by decide +kernel
theorem sm_a191_392 : sm_at 191 392 = some (.goto (-149), 3, (0, 0, 0, 0)) := by decide +kernel
theorem sm_a191_395 : sm_at 191 395 = some (.goto (-168), 3, (0, 0, 0, 0)) := by decide +kernel
theorem sm_a191_398 : sm_at 191 398 = some (.aload_n 0, 1, (0, 0, 0, 0)) := by decide +kernel
theorem sm_a191_399 : sm_at 191 399 = some (.aload_n 0, 1, (0, 0, 0, 0)) := by decide +kernel
theorem sm_a191_400 : sm_at 191 400 = some (.getfield 391, 3, (12, 56, 0, 1239)) := by decide +kernel
theorem sm_a191_403 : sm_at 191 403 = some (.iconst 1, 1, (0, 0, 0, 0)) := by decide +kernel
theorem sm_a191_404 : sm_at 191 404 = some (.iadd, 1, (0, 0, 0, 0)) := by decide +kernel
theorem sm_a191_405 : sm_at 191 405 = some (.sipush 2048, 3, (0, 0, 0, 0)) := by decide +kernel
theorem sm_a191_408 : sm_at 191 408 = some (.irem, 1, (0, 0, 0, 0)) := by decide +kernel
theorem sm_a191_409 : sm_at 191 409 = some (.putfield 391, 3, (12, 56, 0, 1239)) := by decide +kernel
theorem sm_a191_412 : sm_at 191 412 = some (.return_, 1, (0, 0, 0, 0)) := by decide +kernel
theorem bb_191_0 {d : Nat} {M : sm_M} {Q : Option sm_V → sm_M → Prop} {a0 : Nat} {z1 : Option sm_V} {z2 : Option sm_V} {z3 : Option sm_V} {z4 : Option sm_V} {z5 : Option sm_V} {z6 : Option sm_V} {z7 : Option sm_V} {z8 : Option sm_V}
    (h : sm_K M a0 = 39 ∧ sm_Run d 178 0 (sm_ent 178 [.inr (some a0), .inl 5, .inl (sm_I M a0 56), .inl 0, .inl 0]) [] M (fun v M1 => sm_Run (d + 1) 191 11 [some (.inr (some a0)), z1, z2, z3, z4, z5, z6, z7, z8] (v.toList ++ []) M1 Q)) :
    sm_Run (d + 1) 191 0 [some (.inr (some a0)), z1, z2, z3, z4, z5, z6, z7, z8] [] M Q := by
  refine ru_go (t := (1, [some (.inr (some a0)), z1, z2, z3, z4, z5, z6, z7, z8], [.inr (some a0)], M)) sm_a191_0 rfl rfl rfl ?_
  refine ru_go (t := (2, [some (.inr (some a0)), z1, z2, z3, z4, z5, z6, z7, z8], [.inl 5, .inr (some a0)], M)) sm_a191_1 rfl rfl (st_iconst (by decide)) ?_
  refine ru_go (t := (3, [some (.inr (some a0)), z1, z2, z3, z4, z5, z6, z7, z8], [.inr (some a0), .inl 5, .inr (some a0)], M)) sm_a191_2 rfl rfl rfl ?_
  obtain ⟨h_1, h⟩ := h
  refine ru_go (t := (6, [some (.inr (some a0)), z1, z2, z3, z4, z5, z6, z7, z8], [.inl (sm_I M a0 56), .inl 5, .inr (some a0)], M)) sm_a191_3 rfl rfl (st_getI h_1 rfl) ?_
  refine ru_go (t := (7, [some (.inr (some a0)), z1, z2, z3, z4, z5, z6, z7, z8], [.inl 0, .inl (sm_I M a0 56), .inl 5, .inr (some a0)], M)) sm_a191_6 rfl rfl (st_iconst (by decide)) ?_
  refine ru_go (t := (8, [some (.inr (some a0)), z1, z2, z3, z4, z5, z6, z7, z8], [.inl 0, .inl 0, .inl (sm_I M a0 56), .inl 5, .inr (some a0)], M)) sm_a191_7 rfl rfl (st_iconst (by decide)) ?_
  exact ru_call (p := 11) sm_a191_8 rfl (sc_virt (Or.inl rfl) rfl rfl h_1 (Nat.le_of_ble_eq_true rfl)) rfl h
theorem bb_191_11 {d : Nat} {M : sm_M} {Q : Option sm_V → sm_M → Prop} {a0 : Nat} {z1 : Option sm_V} {z2 : Option sm_V} {z3 : Option sm_V} {z4 : Option sm_V} {z5 : Option sm_V} {z6 : Option sm_V} {z7 : Option sm_V} {z8 : Option sm_V}
    (h : sm_K M a0 = 39 ∧ sm_Run (d + 1) 191 21 [some (.inr (some a0)), some (.inl 0), z2, z3, z4, z5, z6, z7, z8] [] (sm_putI M a0 87 (sm_I M a0 0)) Q) :
    sm_Run (d + 1) 191 11 [some (.inr (some a0)), z1, z2, z3, z4, z5, z6, z7, z8] [] M Q := by
  refine ru_go (t := (12, [some (.inr (some a0)), z1, z2, z3, z4, z5, z6, z7, z8], [.inr (some a0)], M)) sm_a191_11 rfl rfl rfl ?_
  refine ru_go (t := (13, [some (.inr (some a0)), z1, z2, z3, z4, z5, z6, z7, z8], [.inr (some a0), .inr (some a0)], M)) sm_a191_12 rfl rfl rfl ?_
  obtain ⟨h_1, h⟩ := h
  refine ru_go (t := (16, [some (.inr (some a0)), z1, z2, z3, z4, z5, z6, z7, z8], [.inl (sm_I M a0 0), .inr (some a0)], M)) sm_a191_13 rfl rfl (st_getI h_1 rfl) ?_
  refine ru_go (t := (19, [some (.inr (some a0)), z1, z2, z3, z4, z5, z6, z7, z8], [], sm_putI M a0 87 (sm_I M a0 0))) sm_a191_16 rfl rfl (st_putI h_1 rfl) ?_
  refine ru_go (t := (20, [some (.inr (some a0)), z1, z2, z3, z4, z5, z6, z7, z8], [.inl 0], sm_putI M a0 87 (sm_I M a0 0))) sm_a191_19 rfl rfl (st_iconst (by decide)) ?_
  refine ru_go (t := (21, [some (.inr (some a0)), some (.inl 0), z2, z3, z4, z5, z6, z7, z8], [], sm_putI M a0 87 (sm_I M a0 0))) sm_a191_20 rfl rfl rfl ?_
  exact h
theorem bb_191_21 {d : Nat} {M : sm_M} {Q : Option sm_V → sm_M → Prop} {a0 : Nat} {x1 : Int32} {z2 : Option sm_V} {z3 : Option sm_V} {z4 : Option sm_V} {z5 : Option sm_V} {z6 : Option sm_V} {z7 : Option sm_V} {z8 : Option sm_V}
    (h : ((60 ≤ x1 → sm_Run (d + 1) 191 42 [some (.inr (some a0)), some (.inl 0), z2, z3, z4, z5, z6, z7, z8] [] M Q) ∧ (¬ (60 ≤ x1) → sm_K M a0 = 39 ∧ ∃ b_3, sm_R M a0 68 = some b_3 ∧ sm_wZ 1 M b_3 ∧ sm_in_ M b_3 x1 ∧ sm_Run (d + 1) 191 21 [some (.inr (some a0)), some (.inl (x1 + 1)), z2, z3, z4, z5, z6, z7, z8] [] (sm_putI M b_3 (x1).toNatClampNeg 0) Q))) :
    sm_Run (d + 1) 191 21 [some (.inr (some a0)), some (.inl x1), z2, z3, z4, z5, z6, z7, z8] [] M Q := by
  refine ru_go (t := (22, [some (.inr (some a0)), some (.inl x1), z2, z3, z4, z5, z6, z7, z8], [.inl x1], M)) sm_a191_21 rfl rfl rfl ?_
  refine ru_go (t := (24, [some (.inr (some a0)), some (.inl x1), z2, z3, z4, z5, z6, z7, z8], [.inl 60, .inl x1], M)) sm_a191_22 rfl rfl (st_bipush (by decide)) ?_
  refine ru_icmp (pc := 24) (p := 40) (p2 := 27) sm_a191_24 (by decide) rfl ⟨fun hc_1 => ?_, fun hc_1 => ?_⟩
  · have h := h.1 hc_1
    refine ru_go (t := (41, [some (.inr (some a0)), some (.inl x1), z2, z3, z4, z5, z6, z7, z8], [.inl 0], M)) sm_a191_40 rfl rfl (st_iconst (by decide)) ?_
    refine ru_go (t := (42, [some (.inr (some a0)), some (.inl 0), z2, z3, z4, z5, z6, z7, z8], [], M)) sm_a191_41 rfl rfl rfl ?_
    exact h
  · have h := h.2 hc_1
    refine ru_go (t := (28, [some (.inr (some a0)), some (.inl x1), z2, z3, z4, z5, z6, z7, z8], [.inr (some a0)], M)) sm_a191_27 rfl rfl rfl ?_
    obtain ⟨h_2, h⟩ := h
    refine ru_go (t := (31, [some (.inr (some a0)), some (.inl x1), z2, z3, z4, z5, z6, z7, z8], [.inr (sm_R M a0 68)], M)) sm_a191_28 rfl rfl (st_getR h_2 rfl rfl) ?_
    refine ru_go (t := (32, [some (.inr (some a0)), some (.inl x1), z2, z3, z4, z5, z6, z7, z8], [.inl x1, .inr (sm_R M a0 68)], M)) sm_a191_31 rfl rfl rfl ?_
    refine ru_go (t := (33, [some (.inr (some a0)), some (.inl x1), z2, z3, z4, z5, z6, z7, z8], [.inl 0, .inl x1, .inr (sm_R M a0 68)], M)) sm_a191_32 rfl rfl (st_iconst (by decide)) ?_
    obtain ⟨b_3, hb_4, h⟩ := h
    rw [hb_4]
    obtain ⟨h_5, h⟩ := h
    obtain ⟨h_6, h⟩ := h
    refine ru_go (t := (34, [some (.inr (some a0)), some (.inl x1), z2, z3, z4, z5, z6, z7, z8], [], sm_putI M b_3 (x1).toNatClampNeg 0)) sm_a191_33 rfl rfl (st_zast h_5 h_6 (by decide)) ?_
    refine ru_go (t := (37, [some (.inr (some a0)), some (.inl (x1 + 1)), z2, z3, z4, z5, z6, z7, z8], [], sm_putI M b_3 (x1).toNatClampNeg 0)) sm_a191_34 rfl rfl (st_iinc rfl (by decide)) ?_
    refine ru_go (t := (21, [some (.inr (some a0)), some (.inl (x1 + 1)), z2, z3, z4, z5, z6, z7, z8], [], sm_putI M b_3 (x1).toNatClampNeg 0)) sm_a191_37 rfl rfl (st_goto (pc := 37) (by decide)) ?_
    exact h
theorem bb_191_42 {d : Nat} {M : sm_M} {Q : Option sm_V → sm_M → Prop} {a0 : Nat} {x1 : Int32} {z2 : Option sm_V} {z3 : Option sm_V} {z4 : Option sm_V} {z5 : Option sm_V} {z6 : Option sm_V} {z7 : Option sm_V} {z8 : Option sm_V}
    (h : ((60 ≤ x1 → sm_K M a0 = 39 ∧ sm_Run d 187 0 (sm_ent 187 [.inr (some a0)]) [] M (fun v M1 => sm_Run (d + 1) 191 170 [some (.inr (some a0)), some (.inl 0), z2, z3, z4, z5, z6, z7, z8] (v.toList ++ []) M1 Q)) ∧ (¬ (60 ≤ x1) → sm_K M a0 = 39 ∧ ∃ b_4, sm_R M a0 61 = some b_4 ∧ sm_iA M b_4 ∧ sm_in_ M b_4 (x1 / 10) ∧ (((sm_I M b_4 (x1 / 10).toNatClampNeg) ≤ (x1 - x1 / 10 * 10) → sm_Run (d + 1) 191 110 [some (.inr (some a0)), some (.inl x1), some (.inl (x1 / 10)), z3, z4, z5, z6, z7, z8] [] M Q) ∧ (¬ ((sm_I M b_4 (x1 / 10).toNatClampNeg) ≤ (x1 - x1 / 10 * 10)) → ∃ b_9, sm_R M a0 67 = some b_9 ∧ sm_wZ 1 M b_9 ∧ sm_in_ M b_9 x1 ∧ (((sm_I M b_9 (x1).toNatClampNeg) = 0 → sm_Run (d + 1) 191 110 [some (.inr (some a0)), some (.inl x1), some (.inl (x1 / 10)), z3, z4, z5, z6, z7, z8] [] M Q) ∧ (¬ ((sm_I M b_9 (x1).toNatClampNeg) = 0) → ∃ b_14, sm_R M a0 63 = some b_14 ∧ sm_iA M b_14 ∧ sm_in_ M b_14 x1 ∧ ((¬ (sm_I M b_14 (x1).toNatClampNeg) = 3 → sm_Run (d + 1) 191 110 [some (.inr (some a0)), some (.inl x1), some (.inl (x1 / 10)), z3, z4, z5, z6, z7, z8] [] M Q) ∧ (¬ (¬ (sm_I M b_14 (x1).toNatClampNeg) = 3) → ∃ b_19, sm_R M a0 65 = some b_19 ∧ sm_iA M b_19 ∧ sm_in_ M b_19 x1 ∧ ¬ (sm_I M b_19 (x1).toNatClampNeg) = 0 ∧ ((¬ ((sm_I M a0 56) - (sm_I M a0 56) / (sm_I M b_19 (x1).toNatClampNeg) * (sm_I M b_19 (x1).toNatClampNeg)) = 0 → sm_Run (d + 1) 191 110 [some (.inr (some a0)), some (.inl x1), some (.inl (x1 / 10)), z3, z4, z5, z6, z7, z8] [] M Q) ∧ (¬ (¬ ((sm_I M a0 56) - (sm_I M a0 56) / (sm_I M b_19 (x1).toNatClampNeg) * (sm_I M b_19 (x1).toNatClampNeg)) = 0) → (((sm_I M a0 87) ≤ 0 → sm_Run (d + 1) 191 110 [some (.inr (some a0)), some (.inl x1), some (.inl (x1 / 10)), z3, z4, z5, z6, z7, z8] [] M Q) ∧ (¬ ((sm_I M a0 87) ≤ 0) → ∃ b_26, sm_R M a0 62 = some b_26 ∧ sm_iA M b_26 ∧ sm_in_ M b_26 x1 ∧ sm_Run d 186 0 (sm_ent 186 [.inr (some a0), .inl (x1 / 10), .inl (sm_I M b_26 (x1).toNatClampNeg)]) [] M (fun v M1 => sm_Run (d + 1) 191 127 [some (.inr (some a0)), some (.inl x1), some (.inl (x1 / 10)), some (.inl 1), z4, z5, z6, z7, z8] (v.toList ++ []) M1 Q)))))))))))))) :
    sm_Run (d + 1) 191 42 [some (.inr (some a0)), some (.inl x1), z2, z3, z4, z5, z6, z7, z8] [] M Q := by
  refine ru_go (t := (43, [some (.inr (some a0)), some (.inl x1), z2, z3, z4, z5, z6, z7, z8], [.inl x1], M)) sm_a191_42 rfl rfl rfl ?_
  refine ru_go (t := (45, [some (.inr (some a0)), some (.inl x1), z2, z3, z4, z5, z6, z7, z8], [.inl 60, .inl x1], M)) sm_a191_43 rfl rfl (st_bipush (by decide)) ?_
  refine ru_icmp (pc := 45) (p := 164) (p2 := 48) sm_a191_45 (by decide) rfl ⟨fun hc_1 => ?_, fun hc_1 => ?_⟩
  · have h := h.1 hc_1
    refine ru_go (t := (165, [some (.inr (some a0)), some (.inl x1), z2, z3, z4, z5, z6, z7, z8], [.inl 0], M)) sm_a191_164 rfl rfl (st_iconst (by decide)) ?_
    refine ru_go (t := (166, [some (.inr (some a0)), some (.inl 0), z2, z3, z4, z5, z6, z7, z8], [], M)) sm_a191_165 rfl rfl rfl ?_
    refine ru_go (t := (167, [some (.inr (some a0)), some (.inl 0), z2, z3, z4, z5, z6, z7, z8], [.inr (some a0)], M)) sm_a191_166 rfl rfl rfl ?_
    obtain ⟨h_2, h⟩ := h
    exact ru_call (p := 170) sm_a191_167 rfl (sc_virt (Or.inl rfl) rfl rfl h_2 (Nat.le_of_ble_eq_true rfl)) rfl h
  · have h := h.2 hc_1
    refine ru_go (t := (49, [some (.inr (some a0)), some (.inl x1), z2, z3, z4, z5, z6, z7, z8], [.inl x1], M)) sm_a191_48 rfl rfl rfl ?_
    refine ru_go (t := (51, [some (.inr (some a0)), some (.inl x1), z2, z3, z4, z5, z6, z7, z8], [.inl 10, .inl x1], M)) sm_a191_49 rfl rfl (st_bipush (by decide)) ?_
    refine ru_go (t := (52, [some (.inr (some a0)), some (.inl x1), z2, z3, z4, z5, z6, z7, z8], [.inl (x1 / 10)], M)) sm_a191_51 rfl rfl (st_div (by decide)) ?_
    refine ru_go (t := (53, [some (.inr (some a0)), some (.inl x1), some (.inl (x1 / 10)), z3, z4, z5, z6, z7, z8], [], M)) sm_a191_52 rfl rfl rfl ?_
    refine ru_go (t := (54, [some (.inr (some a0)), some (.inl x1), some (.inl (x1 / 10)), z3, z4, z5, z6, z7, z8], [.inl x1], M)) sm_a191_53 rfl rfl rfl ?_
    refine ru_go (t := (56, [some (.inr (some a0)), some (.inl x1), some (.inl (x1 / 10)), z3, z4, z5, z6, z7, z8], [.inl 10, .inl x1], M)) sm_a191_54 rfl rfl (st_bipush (by decide)) ?_
    refine ru_go (t := (57, [some (.inr (some a0)), some (.inl x1), some (.inl (x1 / 10)), z3, z4, z5, z6, z7, z8], [.inl (x1 - x1 / 10 * 10)], M)) sm_a191_56 rfl rfl (st_rem (by decide)) ?_
    refine ru_go (t := (58, [some (.inr (some a0)), some (.inl x1), some (.inl (x1 / 10)), z3, z4, z5, z6, z7, z8], [.inr (some a0), .inl (x1 - x1 / 10 * 10)], M)) sm_a191_57 rfl rfl rfl ?_
    obtain ⟨h_3, h⟩ := h
    refine ru_go (t := (61, [some (.inr (some a0)), some (.inl x1), some (.inl (x1 / 10)), z3, z4, z5, z6, z7, z8], [.inr (sm_R M a0 61), .inl (x1 - x1 / 10 * 10)], M)) sm_a191_58 rfl rfl (st_getR h_3 rfl rfl) ?_
    refine ru_go (t := (62, [some (.inr (some a0)), some (.inl x1), some (.inl (x1 / 10)), z3, z4, z5, z6, z7, z8], [.inl (x1 / 10), .inr (sm_R M a0 61), .inl (x1 - x1 / 10 * 10)], M)) sm_a191_61 rfl rfl rfl ?_
    obtain ⟨b_4, hb_5, h⟩ := h
    rw [hb_5]
    obtain ⟨h_6, h⟩ := h
    obtain ⟨h_7, h⟩ := h
    refine ru_go (t := (63, [some (.inr (some a0)), some (.inl x1), some (.inl (x1 / 10)), z3, z4, z5, z6, z7, z8], [.inl (sm_I M b_4 (x1 / 10).toNatClampNeg), .inl (x1 - x1 / 10 * 10)], M)) sm_a191_62 rfl rfl (st_iald h_6 h_7) ?_
    refine ru_icmp (pc := 63) (p := 110) (p2 := 66) sm_a191_63 (by decide) rfl ⟨fun hc_8 => ?_, fun hc_8 => ?_⟩
    · have h := h.1 hc_8
      exact h
    · have h := h.2 hc_8
      refine ru_go (t := (67, [some (.inr (some a0)), some (.inl x1), some (.inl (x1 / 10)), z3, z4, z5, z6, z7, z8], [.inr (some a0)], M)) sm_a191_66 rfl rfl rfl ?_
      refine ru_go (t := (70, [some (.inr (some a0)), some (.inl x1), some (.inl (x1 / 10)), z3, z4, z5, z6, z7, z8], [.inr (sm_R M a0 67)], M)) sm_a191_67 rfl rfl (st_getR h_3 rfl rfl) ?_
      refine ru_go (t := (71, [some (.inr (some a0)), some (.inl x1), some (.inl (x1 / 10)), z3, z4, z5, z6, z7, z8], [.inl x1, .inr (sm_R M a0 67)], M)) sm_a191_70 rfl rfl rfl ?_
      obtain ⟨b_9, hb_10, h⟩ := h
      rw [hb_10]
      obtain ⟨h_11, h⟩ := h
      obtain ⟨h_12, h⟩ := h
      refine ru_go (t := (72, [some (.inr (some a0)), some (.inl x1), some (.inl (x1 / 10)), z3, z4, z5, z6, z7, z8], [.inl (sm_I M b_9 (x1).toNatClampNeg)], M)) sm_a191_71 rfl rfl (st_zald h_11 h_12) ?_
      refine ru_if (pc := 72) (p := 110) (p2 := 75) sm_a191_72 (by decide) rfl ⟨fun hc_13 => ?_, fun hc_13 => ?_⟩
      · have h := h.1 hc_13
        exact h
      · have h := h.2 hc_13
        refine ru_go (t := (76, [some (.inr (some a0)), some (.inl x1), some (.inl (x1 / 10)), z3, z4, z5, z6, z7, z8], [.inr (some a0)], M)) sm_a191_75 rfl rfl rfl ?_
        refine ru_go (t := (79, [some (.inr (some a0)), some (.inl x1), some (.inl (x1 / 10)), z3, z4, z5, z6, z7, z8], [.inr (sm_R M a0 63)], M)) sm_a191_76 rfl rfl (st_getR h_3 rfl rfl) ?_
        refine ru_go (t := (80, [some (.inr (some a0)), some (.inl x1), some (.inl (x1 / 10)), z3, z4, z5, z6, z7, z8], [.inl x1, .inr (sm_R M a0 63)], M)) sm_a191_79 rfl rfl rfl ?_
        obtain ⟨b_14, hb_15, h⟩ := h
        rw [hb_15]
        obtain ⟨h_16, h⟩ := h
        obtain ⟨h_17, h⟩ := h
        refine ru_go (t := (81, [some (.inr (some a0)), some (.inl x1), some (.inl (x1 / 10)), z3, z4, z5, z6, z7, z8], [.inl (sm_I M b_14 (x1).toNatClampNeg)], M)) sm_a191_80 rfl rfl (st_iald h_16 h_17) ?_
        refine ru_go (t := (82, [some (.inr (some a0)), some (.inl x1), some (.inl (x1 / 10)), z3, z4, z5, z6, z7, z8], [.inl 3, .inl (sm_I M b_14 (x1).toNatClampNeg)], M)) sm_a191_81 rfl rfl (st_iconst (by decide)) ?_
        refine ru_icmp (pc := 82) (p := 110) (p2 := 85) sm_a191_82 (by decide) rfl ⟨fun hc_18 => ?_, fun hc_18 => ?_⟩
        · have h := h.1 hc_18
          exact h
        · have h := h.2 hc_18
          refine ru_go (t := (86, [some (.inr (some a0)), some (.inl x1), some (.inl (x1 / 10)), z3, z4, z5, z6, z7, z8], [.inr (some a0)], M)) sm_a191_85 rfl rfl rfl ?_
          refine ru_go (t := (89, [some (.inr (some a0)), some (.inl x1), some (.inl (x1 / 10)), z3, z4, z5, z6, z7, z8], [.inl (sm_I M a0 56)], M)) sm_a191_86 rfl rfl (st_getI h_3 rfl) ?_
          refine ru_go (t := (90, [some (.inr (some a0)), some (.inl x1), some (.inl (x1 / 10)), z3, z4, z5, z6, z7, z8], [.inr (some a0), .inl (sm_I M a0 56)], M)) sm_a191_89 rfl rfl rfl ?_
          refine ru_go (t := (93, [some (.inr (some a0)), some (.inl x1), some (.inl (x1 / 10)), z3, z4, z5, z6, z7, z8], [.inr (sm_R M a0 65), .inl (sm_I M a0 56)], M)) sm_a191_90 rfl rfl (st_getR h_3 rfl rfl) ?_
          refine ru_go (t := (94, [some (.inr (some a0)), some (.inl x1), some (.inl (x1 / 10)), z3, z4, z5, z6, z7, z8], [.inl x1, .inr (sm_R M a0 65), .inl (sm_I M a0 56)], M)) sm_a191_93 rfl rfl rfl ?_
          obtain ⟨b_19, hb_20, h⟩ := h
          rw [hb_20]
          obtain ⟨h_21, h⟩ := h
          obtain ⟨h_22, h⟩ := h
          refine ru_go (t := (95, [some (.inr (some a0)), some (.inl x1), some (.inl (x1 / 10)), z3, z4, z5, z6, z7, z8], [.inl (sm_I M b_19 (x1).toNatClampNeg), .inl (sm_I M a0 56)], M)) sm_a191_94 rfl rfl (st_iald h_21 h_22) ?_
          obtain ⟨h_23, h⟩ := h
          refine ru_go (t := (96, [some (.inr (some a0)), some (.inl x1), some (.inl (x1 / 10)), z3, z4, z5, z6, z7, z8], [.inl ((sm_I M a0 56) - (sm_I M a0 56) / (sm_I M b_19 (x1).toNatClampNeg) * (sm_I M b_19 (x1).toNatClampNeg))], M)) sm_a191_95 rfl rfl (st_rem h_23) ?_
          refine ru_if (pc := 96) (p := 110) (p2 := 99) sm_a191_96 (by decide) rfl ⟨fun hc_24 => ?_, fun hc_24 => ?_⟩
          · have h := h.1 hc_24
            exact h
          · have h := h.2 hc_24
            refine ru_go (t := (100, [some (.inr (some a0)), some (.inl x1), some (.inl (x1 / 10)), z3, z4, z5, z6, z7, z8], [.inr (some a0)], M)) sm_a191_99 rfl rfl rfl ?_
            refine ru_go (t := (103, [some (.inr (some a0)), some (.inl x1), some (.inl (x1 / 10)), z3, z4, z5, z6, z7, z8], [.inl (sm_I M a0 87)], M)) sm_a191_100 rfl rfl (st_getI h_3 rfl) ?_
            refine ru_if (pc := 103) (p := 110) (p2 := 106) sm_a191_103 (by decide) rfl ⟨fun hc_25 => ?_, fun hc_25 => ?_⟩
            · have h := h.1 hc_25
              exact h
            · have h := h.2 hc_25
              refine ru_go (t := (107, [some (.inr (some a0)), some (.inl x1), some (.inl (x1 / 10)), z3, z4, z5, z6, z7, z8], [.inl 1], M)) sm_a191_106 rfl rfl (st_iconst (by decide)) ?_
              refine ru_go (t := (111, [some (.inr (some a0)), some (.inl x1), some (.inl (x1 / 10)), z3, z4, z5, z6, z7, z8], [.inl 1], M)) sm_a191_107 rfl rfl (st_goto (pc := 107) (by decide)) ?_
              refine ru_go (t := (112, [some (.inr (some a0)), some (.inl x1), some (.inl (x1 / 10)), some (.inl 1), z4, z5, z6, z7, z8], [], M)) sm_a191_111 rfl rfl rfl ?_
              refine ru_go (t := (113, [some (.inr (some a0)), some (.inl x1), some (.inl (x1 / 10)), some (.inl 1), z4, z5, z6, z7, z8], [.inl 1], M)) sm_a191_112 rfl rfl rfl ?_
              refine ru_if (pc := 113) (p := 130) (p2 := 116) sm_a191_113 (by decide) rfl ⟨fun hc => absurd (show (1 : Int32) = 0 from hc) (by decide), fun _ => ?_⟩
              refine ru_go (t := (117, [some (.inr (some a0)), some (.inl x1), some (.inl (x1 / 10)), some (.inl 1), z4, z5, z6, z7, z8], [.inr (some a0)], M)) sm_a191_116 rfl rfl rfl ?_
              refine ru_go (t := (118, [some (.inr (some a0)), some (.inl x1), some (.inl (x1 / 10)), some (.inl 1), z4, z5, z6, z7, z8], [.inl (x1 / 10), .inr (some a0)], M)) sm_a191_117 rfl rfl rfl ?_
              refine ru_go (t := (119, [some (.inr (some a0)), some (.inl x1), some (.inl (x1 / 10)), some (.inl 1), z4, z5, z6, z7, z8], [.inr (some a0), .inl (x1 / 10), .inr (some a0)], M)) sm_a191_118 rfl rfl rfl ?_
              refine ru_go (t := (122, [some (.inr (some a0)), some (.inl x1), some (.inl (x1 / 10)), some (.inl 1), z4, z5, z6, z7, z8], [.inr (sm_R M a0 62), .inl (x1 / 10), .inr (some a0)], M)) sm_a191_119 rfl rfl (st_getR h_3 rfl rfl) ?_
              refine ru_go (t := (123, [some (.inr (some a0)), some (.inl x1), some (.inl (x1 / 10)), some (.inl 1), z4, z5, z6, z7, z8], [.inl x1, .inr (sm_R M a0 62), .inl (x1 / 10), .inr (some a0)], M)) sm_a191_122 rfl rfl rfl ?_
              obtain ⟨b_26, hb_27, h⟩ := h
              rw [hb_27]
              obtain ⟨h_28, h⟩ := h
              obtain ⟨h_29, h⟩ := h
              refine ru_go (t := (124, [some (.inr (some a0)), some (.inl x1), some (.inl (x1 / 10)), some (.inl 1), z4, z5, z6, z7, z8], [.inl (sm_I M b_26 (x1).toNatClampNeg), .inl (x1 / 10), .inr (some a0)], M)) sm_a191_123 rfl rfl (st_iald h_28 h_29) ?_
              exact ru_call (p := 127) sm_a191_124 rfl (sc_virt (Or.inl rfl) rfl rfl h_3 (Nat.le_of_ble_eq_true rfl)) rfl h
theorem bb_191_110 {d : Nat} {M : sm_M} {Q : Option sm_V → sm_M → Prop} {a0 : Nat} {x1 : Int32} {x2 : Int32} {z3 : Option sm_V} {z4 : Option sm_V} {z5 : Option sm_V} {z6 : Option sm_V} {z7 : Option sm_V} {z8 : Option sm_V}
    (h : sm_Run (d + 1) 191 42 [some (.inr (some a0)), some (.inl (x1 + 1)), some (.inl x2), some (.inl 0), some (.inl (-1)), z5, z6, z7, z8] [] M Q) :
    sm_Run (d + 1) 191 110 [some (.inr (some a0)), some (.inl x1), some (.inl x2), z3, z4, z5, z6, z7, z8] [] M Q := by
  refine ru_go (t := (111, [some (.inr (some a0)), some (.inl x1), some (.inl x2), z3, z4, z5, z6, z7, z8], [.inl 0], M)) sm_a191_110 rfl rfl (st_iconst (by decide)) ?_
  refine ru_go (t := (112, [some (.inr (some a0)), some (.inl x1), some (.inl x2), some (.inl 0), z4, z5, z6, z7, z8], [], M)) sm_a191_111 rfl rfl rfl ?_
  refine ru_go (t := (113, [some (.inr (some a0)), some (.inl x1), some (.inl x2), some (.inl 0), z4, z5, z6, z7, z8], [.inl 0], M)) sm_a191_112 rfl rfl rfl ?_
  refine ru_if (pc := 113) (p := 130) (p2 := 116) sm_a191_113 (by decide) rfl ⟨fun _ => ?_, fun hc => absurd (show sm_cP .eq 0 0 from (by show (0 : Int32) = 0; decide)) hc⟩
  refine ru_go (t := (131, [some (.inr (some a0)), some (.inl x1), some (.inl x2), some (.inl 0), z4, z5, z6, z7, z8], [.inl (-1)], M)) sm_a191_130 rfl rfl (st_iconst (by decide)) ?_
  refine ru_go (t := (133, [some (.inr (some a0)), some (.inl x1), some (.inl x2), some (.inl 0), some (.inl (-1)), z5, z6, z7, z8], [], M)) sm_a191_131 rfl rfl rfl ?_
  refine ru_go (t := (135, [some (.inr (some a0)), some (.inl x1), some (.inl x2), some (.inl 0), some (.inl (-1)), z5, z6, z7, z8], [.inl (-1)], M)) sm_a191_133 rfl rfl rfl ?_
  refine ru_go (t := (136, [some (.inr (some a0)), some (.inl x1), some (.inl x2), some (.inl 0), some (.inl (-1)), z5, z6, z7, z8], [.inl (-1), .inl (-1)], M)) sm_a191_135 rfl rfl (st_iconst (by decide)) ?_
  refine ru_icmp (pc := 136) (p := 158) (p2 := 139) sm_a191_136 (by decide) rfl ⟨fun _ => ?_, fun hc => absurd (show sm_cP .eq (-1) (-1) from (by show ((-1) : Int32) = (-1); decide)) hc⟩
  refine ru_go (t := (161, [some (.inr (some a0)), some (.inl (x1 + 1)), some (.inl x2), some (.inl 0), some (.inl (-1)), z5, z6, z7, z8], [], M)) sm_a191_158 rfl rfl (st_iinc rfl (by decide)) ?_
  refine ru_go (t := (42, [some (.inr (some a0)), some (.inl (x1 + 1)), some (.inl x2), some (.inl 0), some (.inl (-1)), z5, z6, z7, z8], [], M)) sm_a191_161 rfl rfl (st_goto (pc := 161) (by decide)) ?_
  exact h
theorem bb_191_127 {d : Nat} {M : sm_M} {Q : Option sm_V → sm_M → Prop} {a0 : Nat} {x1 : Int32} {x2 : Int32} {x3 : Int32} {z4 : Option sm_V} {z5 : Option sm_V} {z6 : Option sm_V} {z7 : Option sm_V} {z8 : Option sm_V} {y0 : Int32}
    (h : ((y0 = (-1) → sm_Run (d + 1) 191 42 [some (.inr (some a0)), some (.inl (x1 + 1)), some (.inl x2), some (.inl x3), some (.inl y0), z5, z6, z7, z8] [] M Q) ∧ (¬ (y0 = (-1)) → sm_K M a0 = 39 ∧ sm_Run d 185 0 (sm_ent 185 [.inr (some a0), .inl x1, .inl y0]) [] M (fun v M1 => sm_Run (d + 1) 191 146 [some (.inr (some a0)), some (.inl x1), some (.inl x2), some (.inl x3), some (.inl y0), z5, z6, z7, z8] (v.toList ++ []) M1 Q)))) :
    sm_Run (d + 1) 191 127 [some (.inr (some a0)), some (.inl x1), some (.inl x2), some (.inl x3), z4, z5, z6, z7, z8] [.inl y0] M Q := by
  refine ru_go (t := (131, [some (.inr (some a0)), some (.inl x1), some (.inl x2), some (.inl x3), z4, z5, z6, z7, z8], [.inl y0], M)) sm_a191_127 rfl rfl (st_goto (pc := 127) (by decide)) ?_
  refine ru_go (t := (133, [some (.inr (some a0)), some (.inl x1), some (.inl x2), some (.inl x3), some (.inl y0), z5, z6, z7, z8], [], M)) sm_a191_131 rfl rfl rfl ?_
  refine ru_go (t := (135, [some (.inr (some a0)), some (.inl x1), some (.inl x2), some (.inl x3), some (.inl y0), z5, z6, z7, z8], [.inl y0], M)) sm_a191_133 rfl rfl rfl ?_
  refine ru_go (t := (136, [some (.inr (some a0)), some (.inl x1), some (.inl x2), some (.inl x3), some (.inl y0), z5, z6, z7, z8], [.inl (-1), .inl y0], M)) sm_a191_135 rfl rfl (st_iconst (by decide)) ?_
  refine ru_icmp (pc := 136) (p := 158) (p2 := 139) sm_a191_136 (by decide) rfl ⟨fun hc_1 => ?_, fun hc_1 => ?_⟩
  · have h := h.1 hc_1
    refine ru_go (t := (161, [some (.inr (some a0)), some (.inl (x1 + 1)), some (.inl x2), some (.inl x3), some (.inl y0), z5, z6, z7, z8], [], M)) sm_a191_158 rfl rfl (st_iinc rfl (by decide)) ?_
    refine ru_go (t := (42, [some (.inr (some a0)), some (.inl (x1 + 1)), some (.inl x2), some (.inl x3), some (.inl y0), z5, z6, z7, z8], [], M)) sm_a191_161 rfl rfl (st_goto (pc := 161) (by decide)) ?_
    exact h
  · have h := h.2 hc_1
    refine ru_go (t := (140, [some (.inr (some a0)), some (.inl x1), some (.inl x2), some (.inl x3), some (.inl y0), z5, z6, z7, z8], [.inr (some a0)], M)) sm_a191_139 rfl rfl rfl ?_
    refine ru_go (t := (141, [some (.inr (some a0)), some (.inl x1), some (.inl x2), some (.inl x3), some (.inl y0), z5, z6, z7, z8], [.inl x1, .inr (some a0)], M)) sm_a191_140 rfl rfl rfl ?_
    refine ru_go (t := (143, [some (.inr (some a0)), some (.inl x1), some (.inl x2), some (.inl x3), some (.inl y0), z5, z6, z7, z8], [.inl y0, .inl x1, .inr (some a0)], M)) sm_a191_141 rfl rfl rfl ?_
    obtain ⟨h_2, h⟩ := h
    exact ru_call (p := 146) sm_a191_143 rfl (sc_virt (Or.inl rfl) rfl rfl h_2 (Nat.le_of_ble_eq_true rfl)) rfl h
theorem bb_191_146 {d : Nat} {M : sm_M} {Q : Option sm_V → sm_M → Prop} {a0 : Nat} {x1 : Int32} {x2 : Int32} {x3 : Int32} {x4 : Int32} {z5 : Option sm_V} {z6 : Option sm_V} {z7 : Option sm_V} {z8 : Option sm_V} {y0 : Int32}
    (h : sm_K M a0 = 39 ∧ sm_Run (d + 1) 191 42 [some (.inr (some a0)), some (.inl (x1 + 1)), some (.inl x2), some (.inl x3), some (.inl x4), some (.inl y0), z6, z7, z8] [] (sm_putI M a0 87 ((sm_I M a0 87) - 1)) Q) :
    sm_Run (d + 1) 191 146 [some (.inr (some a0)), some (.inl x1), some (.inl x2), some (.inl x3), some (.inl x4), z5, z6, z7, z8] [.inl y0] M Q := by
  refine ru_go (t := (148, [some (.inr (some a0)), some (.inl x1), some (.inl x2), some (.inl x3), some (.inl x4), some (.inl y0), z6, z7, z8], [], M)) sm_a191_146 rfl rfl rfl ?_
  refine ru_go (t := (149, [some (.inr (some a0)), some (.inl x1), some (.inl x2), some (.inl x3), some (.inl x4), some (.inl y0), z6, z7, z8], [.inr (some a0)], M)) sm_a191_148 rfl rfl rfl ?_
  refine ru_go (t := (150, [some (.inr (some a0)), some (.inl x1), some (.inl x2), some (.inl x3), some (.inl x4), some (.inl y0), z6, z7, z8], [.inr (some a0), .inr (some a0)], M)) sm_a191_149 rfl rfl rfl ?_
  obtain ⟨h_1, h⟩ := h
  refine ru_go (t := (153, [some (.inr (some a0)), some (.inl x1), some (.inl x2), some (.inl x3), some (.inl x4), some (.inl y0), z6, z7, z8], [.inl (sm_I M a0 87), .inr (some a0)], M)) sm_a191_150 rfl rfl (st_getI h_1 rfl) ?_
  refine ru_go (t := (154, [some (.inr (some a0)), some (.inl x1), some (.inl x2), some (.inl x3), some (.inl x4), some (.inl y0), z6, z7, z8], [.inl 1, .inl (sm_I M a0 87), .inr (some a0)], M)) sm_a191_153 rfl rfl (st_iconst (by decide)) ?_
  refine ru_go (t := (155, [some (.inr (some a0)), some (.inl x1), some (.inl x2), some (.inl x3), some (.inl x4), some (.inl y0), z6, z7, z8], [.inl ((sm_I M a0 87) - 1), .inr (some a0)], M)) sm_a191_154 rfl rfl rfl ?_
  refine ru_go (t := (158, [some (.inr (some a0)), some (.inl x1), some (.inl x2), some (.inl x3), some (.inl x4), some (.inl y0), z6, z7, z8], [], sm_putI M a0 87 ((sm_I M a0 87) - 1))) sm_a191_155 rfl rfl (st_putI h_1 rfl) ?_
  refine ru_go (t := (161, [some (.inr (some a0)), some (.inl (x1 + 1)), some (.inl x2), some (.inl x3), some (.inl x4), some (.inl y0), z6, z7, z8], [], sm_putI M a0 87 ((sm_I M a0 87) - 1))) sm_a191_158 rfl rfl (st_iinc rfl (by decide)) ?_
  refine ru_go (t := (42, [some (.inr (some a0)), some (.inl (x1 + 1)), some (.inl x2), some (.inl x3), some (.inl x4), some (.inl y0), z6, z7, z8], [], sm_putI M a0 87 ((sm_I M a0 87) - 1))) sm_a191_161 rfl rfl (st_goto (pc := 161) (by decide)) ?_
  exact h
theorem bb_191_170 {d : Nat} {M : sm_M} {Q : Option sm_V → sm_M → Prop} {a0 : Nat} {x1 : Int32} {z2 : Option sm_V} {z3 : Option sm_V} {z4 : Option sm_V} {z5 : Option sm_V} {z6 : Option sm_V} {z7 : Option sm_V} {z8 : Option sm_V} {y0 : Int32}
    (h : sm_Run (d + 1) 191 171 [some (.inr (some a0)), some (.inl x1), some (.inl y0), z3, z4, z5, z6, z7, z8] [] M Q) :
    sm_Run (d + 1) 191 170 [some (.inr (some a0)), some (.inl x1), z2, z3, z4, z5, z6, z7, z8] [.inl y0] M Q := by
  refine ru_go (t := (171, [some (.inr (some a0)), some (.inl x1), some (.inl y0), z3, z4, z5, z6, z7, z8], [], M)) sm_a191_170 rfl rfl rfl ?_
  exact h
theorem bb_191_171 {d : Nat} {M : sm_M} {Q : Option sm_V → sm_M → Prop} {a0 : Nat} {x1 : Int32} {x2 : Int32} {z3 : Option sm_V} {z4 : Option sm_V} {z5 : Option sm_V} {z6 : Option sm_V} {z7 : Option sm_V} {z8 : Option sm_V}
    (h : ((x2 = (-1) → sm_Run (d + 1) 191 227 [some (.inr (some a0)), some (.inl x1), some (.inl x2), some (.inl 1), z4, z5, z6, z7, z8] [] M Q) ∧ (¬ (x2 = (-1)) → sm_K M a0 = 39 ∧ (((sm_I M a0 87) ≤ 0 → sm_Run (d + 1) 191 227 [some (.inr (some a0)), some (.inl x1), some (.inl x2), some (.inl 1), z4, z5, z6, z7, z8] [] M Q) ∧ (¬ ((sm_I M a0 87) ≤ 0) → ((¬ x1 = 0 → sm_Run (d + 1) 191 227 [some (.inr (some a0)), some (.inl x1), some (.inl x2), some (.inl 1), z4, z5, z6, z7, z8] [] M Q) ∧ (¬ (¬ x1 = 0) → sm_Run d 184 0 (sm_ent 184 [.inr (some a0), .inl x2]) [] M (fun v M1 => sm_Run (d + 1) 191 192 [some (.inr (some a0)), some (.inl x1), some (.inl x2), z3, z4, z5, z6, z7, z8] (v.toList ++ []) M1 Q)))))))) :
    sm_Run (d + 1) 191 171 [some (.inr (some a0)), some (.inl x1), some (.inl x2), z3, z4, z5, z6, z7, z8] [] M Q := by
  refine ru_go (t := (172, [some (.inr (some a0)), some (.inl x1), some (.inl x2), z3, z4, z5, z6, z7, z8], [.inl x2], M)) sm_a191_171 rfl rfl rfl ?_
  refine ru_go (t := (173, [some (.inr (some a0)), some (.inl x1), some (.inl x2), z3, z4, z5, z6, z7, z8], [.inl (-1), .inl x2], M)) sm_a191_172 rfl rfl (st_iconst (by decide)) ?_
  refine ru_icmp (pc := 173) (p := 225) (p2 := 176) sm_a191_173 (by decide) rfl ⟨fun hc_1 => ?_, fun hc_1 => ?_⟩
  · have h := h.1 hc_1
    refine ru_go (t := (226, [some (.inr (some a0)), some (.inl x1), some (.inl x2), z3, z4, z5, z6, z7, z8], [.inl 1], M)) sm_a191_225 rfl rfl (st_iconst (by decide)) ?_
    refine ru_go (t := (227, [some (.inr (some a0)), some (.inl x1), some (.inl x2), some (.inl 1), z4, z5, z6, z7, z8], [], M)) sm_a191_226 rfl rfl rfl ?_
    exact h
  · have h := h.2 hc_1
    refine ru_go (t := (177, [some (.inr (some a0)), some (.inl x1), some (.inl x2), z3, z4, z5, z6, z7, z8], [.inr (some a0)], M)) sm_a191_176 rfl rfl rfl ?_
    obtain ⟨h_2, h⟩ := h
    refine ru_go (t := (180, [some (.inr (some a0)), some (.inl x1), some (.inl x2), z3, z4, z5, z6, z7, z8], [.inl (sm_I M a0 87)], M)) sm_a191_177 rfl rfl (st_getI h_2 rfl) ?_
    refine ru_if (pc := 180) (p := 225) (p2 := 183) sm_a191_180 (by decide) rfl ⟨fun hc_3 => ?_, fun hc_3 => ?_⟩
    · have h := h.1 hc_3
      refine ru_go (t := (226, [some (.inr (some a0)), some (.inl x1), some (.inl x2), z3, z4, z5, z6, z7, z8], [.inl 1], M)) sm_a191_225 rfl rfl (st_iconst (by decide)) ?_
      refine ru_go (t := (227, [some (.inr (some a0)), some (.inl x1), some (.inl x2), some (.inl 1), z4, z5, z6, z7, z8], [], M)) sm_a191_226 rfl rfl rfl ?_
      exact h
    · have h := h.2 hc_3
      refine ru_go (t := (184, [some (.inr (some a0)), some (.inl x1), some (.inl x2), z3, z4, z5, z6, z7, z8], [.inl x1], M)) sm_a191_183 rfl rfl rfl ?_
      refine ru_if (pc := 184) (p := 225) (p2 := 187) sm_a191_184 (by decide) rfl ⟨fun hc_4 => ?_, fun hc_4 => ?_⟩
      · have h := h.1 hc_4
        refine ru_go (t := (226, [some (.inr (some a0)), some (.inl x1), some (.inl x2), z3, z4, z5, z6, z7, z8], [.inl 1], M)) sm_a191_225 rfl rfl (st_iconst (by decide)) ?_
        refine ru_go (t := (227, [some (.inr (some a0)), some (.inl x1), some (.inl x2), some (.inl 1), z4, z5, z6, z7, z8], [], M)) sm_a191_226 rfl rfl rfl ?_
        exact h
      · have h := h.2 hc_4
        refine ru_go (t := (188, [some (.inr (some a0)), some (.inl x1), some (.inl x2), z3, z4, z5, z6, z7, z8], [.inr (some a0)], M)) sm_a191_187 rfl rfl rfl ?_
        refine ru_go (t := (189, [some (.inr (some a0)), some (.inl x1), some (.inl x2), z3, z4, z5, z6, z7, z8], [.inl x2, .inr (some a0)], M)) sm_a191_188 rfl rfl rfl ?_
        exact ru_call (p := 192) sm_a191_189 rfl (sc_virt (Or.inl rfl) rfl rfl h_2 (Nat.le_of_ble_eq_true rfl)) rfl h
theorem bb_191_192 {d : Nat} {M : sm_M} {Q : Option sm_V → sm_M → Prop} {a0 : Nat} {x1 : Int32} {x2 : Int32} {z3 : Option sm_V} {z4 : Option sm_V} {z5 : Option sm_V} {z6 : Option sm_V} {z7 : Option sm_V} {z8 : Option sm_V} {y0 : Int32}
    (h : sm_K M a0 = 39 ∧ ∃ b_2, sm_R (sm_putI M a0 87 ((sm_I M a0 87) - 1)) a0 73 = some b_2 ∧ sm_iA M b_2 ∧ sm_in_ M b_2 x2 ∧ (((sm_I (sm_putI M a0 87 ((sm_I M a0 87) - 1)) b_2 (x2).toNatClampNeg) = 0 → sm_Run d 187 0 (sm_ent 187 [.inr (some a0)]) [] (sm_putI M a0 87 ((sm_I M a0 87) - 1)) (fun v M1 => sm_Run (d + 1) 191 221 [some (.inr (some a0)), some (.inl y0), some (.inl x2), z3, z4, z5, z6, z7, z8] (v.toList ++ []) M1 Q)) ∧ (¬ ((sm_I (sm_putI M a0 87 ((sm_I M a0 87) - 1)) b_2 (x2).toNatClampNeg) = 0) → sm_Run d 189 0 (sm_ent 189 [.inr (some a0), .inl x2]) [] (sm_putI M a0 87 ((sm_I M a0 87) - 1)) (fun v M1 => sm_Run (d + 1) 191 217 [some (.inr (some a0)), some (.inl y0), some (.inl x2), z3, z4, z5, z6, z7, z8] (v.toList ++ []) M1 Q)))) :
    sm_Run (d + 1) 191 192 [some (.inr (some a0)), some (.inl x1), some (.inl x2), z3, z4, z5, z6, z7, z8] [.inl y0] M Q := by
  refine ru_go (t := (193, [some (.inr (some a0)), some (.inl y0), some (.inl x2), z3, z4, z5, z6, z7, z8], [], M)) sm_a191_192 rfl rfl rfl ?_
  refine ru_go (t := (194, [some (.inr (some a0)), some (.inl y0), some (.inl x2), z3, z4, z5, z6, z7, z8], [.inr (some a0)], M)) sm_a191_193 rfl rfl rfl ?_
  refine ru_go (t := (195, [some (.inr (some a0)), some (.inl y0), some (.inl x2), z3, z4, z5, z6, z7, z8], [.inr (some a0), .inr (some a0)], M)) sm_a191_194 rfl rfl rfl ?_
  obtain ⟨h_1, h⟩ := h
  refine ru_go (t := (198, [some (.inr (some a0)), some (.inl y0), some (.inl x2), z3, z4, z5, z6, z7, z8], [.inl (sm_I M a0 87), .inr (some a0)], M)) sm_a191_195 rfl rfl (st_getI h_1 rfl) ?_
  refine ru_go (t := (199, [some (.inr (some a0)), some (.inl y0), some (.inl x2), z3, z4, z5, z6, z7, z8], [.inl 1, .inl (sm_I M a0 87), .inr (some a0)], M)) sm_a191_198 rfl rfl (st_iconst (by decide)) ?_
  refine ru_go (t := (200, [some (.inr (some a0)), some (.inl y0), some (.inl x2), z3, z4, z5, z6, z7, z8], [.inl ((sm_I M a0 87) - 1), .inr (some a0)], M)) sm_a191_199 rfl rfl rfl ?_
  refine ru_go (t := (203, [some (.inr (some a0)), some (.inl y0), some (.inl x2), z3, z4, z5, z6, z7, z8], [], sm_putI M a0 87 ((sm_I M a0 87) - 1))) sm_a191_200 rfl rfl (st_putI h_1 rfl) ?_
  refine ru_go (t := (204, [some (.inr (some a0)), some (.inl y0), some (.inl x2), z3, z4, z5, z6, z7, z8], [.inr (some a0)], sm_putI M a0 87 ((sm_I M a0 87) - 1))) sm_a191_203 rfl rfl rfl ?_
  refine ru_go (t := (207, [some (.inr (some a0)), some (.inl y0), some (.inl x2), z3, z4, z5, z6, z7, z8], [.inr (sm_R (sm_putI M a0 87 ((sm_I M a0 87) - 1)) a0 73)], sm_putI M a0 87 ((sm_I M a0 87) - 1))) sm_a191_204 rfl rfl (st_getR h_1 rfl rfl) ?_
  refine ru_go (t := (208, [some (.inr (some a0)), some (.inl y0), some (.inl x2), z3, z4, z5, z6, z7, z8], [.inl x2, .inr (sm_R (sm_putI M a0 87 ((sm_I M a0 87) - 1)) a0 73)], sm_putI M a0 87 ((sm_I M a0 87) - 1))) sm_a191_207 rfl rfl rfl ?_
  obtain ⟨b_2, hb_3, h⟩ := h
  rw [hb_3]
  obtain ⟨h_4, h⟩ := h
  obtain ⟨h_5, h⟩ := h
  refine ru_go (t := (209, [some (.inr (some a0)), some (.inl y0), some (.inl x2), z3, z4, z5, z6, z7, z8], [.inl (sm_I (sm_putI M a0 87 ((sm_I M a0 87) - 1)) b_2 (x2).toNatClampNeg)], sm_putI M a0 87 ((sm_I M a0 87) - 1))) sm_a191_208 rfl rfl (st_iald h_4 h_5) ?_
  refine ru_if (pc := 209) (p := 217) (p2 := 212) sm_a191_209 (by decide) rfl ⟨fun hc_6 => ?_, fun hc_6 => ?_⟩
  · have h := h.1 hc_6
    refine ru_go (t := (218, [some (.inr (some a0)), some (.inl y0), some (.inl x2), z3, z4, z5, z6, z7, z8], [.inr (some a0)], sm_putI M a0 87 ((sm_I M a0 87) - 1))) sm_a191_217 rfl rfl rfl ?_
    exact ru_call (p := 221) sm_a191_218 rfl (sc_virt (Or.inl rfl) rfl rfl h_1 (Nat.le_of_ble_eq_true rfl)) rfl h
  · have h := h.2 hc_6
    refine ru_go (t := (213, [some (.inr (some a0)), some (.inl y0), some (.inl x2), z3, z4, z5, z6, z7, z8], [.inr (some a0)], sm_putI M a0 87 ((sm_I M a0 87) - 1))) sm_a191_212 rfl rfl rfl ?_
    refine ru_go (t := (214, [some (.inr (some a0)), some (.inl y0), some (.inl x2), z3, z4, z5, z6, z7, z8], [.inl x2, .inr (some a0)], sm_putI M a0 87 ((sm_I M a0 87) - 1))) sm_a191_213 rfl rfl rfl ?_
    exact ru_call (p := 217) sm_a191_214 rfl (sc_virt (Or.inl rfl) rfl rfl h_1 (Nat.le_of_ble_eq_true rfl)) rfl h
theorem bb_191_217 {d : Nat} {M : sm_M} {Q : Option sm_V → sm_M → Prop} {a0 : Nat} {x1 : Int32} {x2 : Int32} {z3 : Option sm_V} {z4 : Option sm_V} {z5 : Option sm_V} {z6 : Option sm_V} {z7 : Option sm_V} {z8 : Option sm_V}
    (h : sm_K M a0 = 39 ∧ sm_Run d 187 0 (sm_ent 187 [.inr (some a0)]) [] M (fun v M1 => sm_Run (d + 1) 191 221 [some (.inr (some a0)), some (.inl x1), some (.inl x2), z3, z4, z5, z6, z7, z8] (v.toList ++ []) M1 Q)) :
    sm_Run (d + 1) 191 217 [some (.inr (some a0)), some (.inl x1), some (.inl x2), z3, z4, z5, z6, z7, z8] [] M Q := by
  refine ru_go (t := (218, [some (.inr (some a0)), some (.inl x1), some (.inl x2), z3, z4, z5, z6, z7, z8], [.inr (some a0)], M)) sm_a191_217 rfl rfl rfl ?_
  obtain ⟨h_1, h⟩ := h
  exact ru_call (p := 221) sm_a191_218 rfl (sc_virt (Or.inl rfl) rfl rfl h_1 (Nat.le_of_ble_eq_true rfl)) rfl h
theorem bb_191_221 {d : Nat} {M : sm_M} {Q : Option sm_V → sm_M → Prop} {a0 : Nat} {x1 : Int32} {x2 : Int32} {z3 : Option sm_V} {z4 : Option sm_V} {z5 : Option sm_V} {z6 : Option sm_V} {z7 : Option sm_V} {z8 : Option sm_V} {y0 : Int32}
    (h : sm_Run (d + 1) 191 171 [some (.inr (some a0)), some (.inl x1), some (.inl y0), z3, z4, z5, z6, z7, z8] [] M Q) :
    sm_Run (d + 1) 191 221 [some (.inr (some a0)), some (.inl x1), some (.inl x2), z3, z4, z5, z6, z7, z8] [.inl y0] M Q := by
  refine ru_go (t := (222, [some (.inr (some a0)), some (.inl x1), some (.inl y0), z3, z4, z5, z6, z7, z8], [], M)) sm_a191_221 rfl rfl rfl ?_
  refine ru_go (t := (171, [some (.inr (some a0)), some (.inl x1), some (.inl y0), z3, z4, z5, z6, z7, z8], [], M)) sm_a191_222 rfl rfl (st_goto (pc := 222) (by decide)) ?_
  exact h
theorem bb_191_227 {d : Nat} {M : sm_M} {Q : Option sm_V → sm_M → Prop} {a0 : Nat} {x1 : Int32} {x2 : Int32} {x3 : Int32} {z4 : Option sm_V} {z5 : Option sm_V} {z6 : Option sm_V} {z7 : Option sm_V} {z8 : Option sm_V}
    (h : ((x3 = 0 → sm_Run (d + 1) 191 398 [some (.inr (some a0)), some (.inl x1), some (.inl x2), some (.inl x3), z4, z5, z6, z7, z8] [] M Q) ∧ (¬ (x3 = 0) → sm_K M a0 = 39 ∧ (((sm_I M a0 87) ≤ 0 → sm_Run (d + 1) 191 398 [some (.inr (some a0)), some (.inl x1), some (.inl x2), some (.inl x3), z4, z5, z6, z7, z8] [] M Q) ∧ (¬ ((sm_I M a0 87) ≤ 0) → sm_Run (d + 1) 191 243 [some (.inr (some a0)), some (.inl x1), some (.inl x2), some (.inl 0), some (.inl 1), z5, z6, z7, z8] [] M Q))))) :
    sm_Run (d + 1) 191 227 [some (.inr (some a0)), some (.inl x1), some (.inl x2), some (.inl x3), z4, z5, z6, z7, z8] [] M Q := by
  refine ru_go (t := (228, [some (.inr (some a0)), some (.inl x1), some (.inl x2), some (.inl x3), z4, z5, z6, z7, z8], [.inl x3], M)) sm_a191_227 rfl rfl rfl ?_
  refine ru_if (pc := 228) (p := 398) (p2 := 231) sm_a191_228 (by decide) rfl ⟨fun hc_1 => ?_, fun hc_1 => ?_⟩
  · have h := h.1 hc_1
    exact h
  · have h := h.2 hc_1
    refine ru_go (t := (232, [some (.inr (some a0)), some (.inl x1), some (.inl x2), some (.inl x3), z4, z5, z6, z7, z8], [.inr (some a0)], M)) sm_a191_231 rfl rfl rfl ?_
    obtain ⟨h_2, h⟩ := h
    refine ru_go (t := (235, [some (.inr (some a0)), some (.inl x1), some (.inl x2), some (.inl x3), z4, z5, z6, z7, z8], [.inl (sm_I M a0 87)], M)) sm_a191_232 rfl rfl (st_getI h_2 rfl) ?_
    refine ru_if (pc := 235) (p := 398) (p2 := 238) sm_a191_235 (by decide) rfl ⟨fun hc_3 => ?_, fun hc_3 => ?_⟩
    · have h := h.1 hc_3
      exact h
    · have h := h.2 hc_3
      refine ru_go (t := (239, [some (.inr (some a0)), some (.inl x1), some (.inl x2), some (.inl x3), z4, z5, z6, z7, z8], [.inl 0], M)) sm_a191_238 rfl rfl (st_iconst (by decide)) ?_
      refine ru_go (t := (240, [some (.inr (some a0)), some (.inl x1), some (.inl x2), some (.inl 0), z4, z5, z6, z7, z8], [], M)) sm_a191_239 rfl rfl rfl ?_
      refine ru_go (t := (241, [some (.inr (some a0)), some (.inl x1), some (.inl x2), some (.inl 0), z4, z5, z6, z7, z8], [.inl 1], M)) sm_a191_240 rfl rfl (st_iconst (by decide)) ?_
      refine ru_go (t := (243, [some (.inr (some a0)), some (.inl x1), some (.inl x2), some (.inl 0), some (.inl 1), z5, z6, z7, z8], [], M)) sm_a191_241 rfl rfl rfl ?_
      exact h
theorem bb_191_243 {d : Nat} {M : sm_M} {Q : Option sm_V → sm_M → Prop} {a0 : Nat} {x1 : Int32} {x2 : Int32} {x3 : Int32} {x4 : Int32} {z5 : Option sm_V} {z6 : Option sm_V} {z7 : Option sm_V} {z8 : Option sm_V}
    (h : ((60 < x4 → sm_Run (d + 1) 191 227 [some (.inr (some a0)), some (.inl x1), some (.inl x2), some (.inl x3), some (.inl x4), z5, z6, z7, z8] [] M Q) ∧ (¬ (60 < x4) → ((¬ x3 = 0 → sm_Run (d + 1) 191 227 [some (.inr (some a0)), some (.inl x1), some (.inl x2), some (.inl x3), some (.inl x4), z5, z6, z7, z8] [] M Q) ∧ (¬ (¬ x3 = 0) → sm_K M a0 = 39 ∧ ∃ b_4, sm_R M a0 61 = some b_4 ∧ sm_iA M b_4 ∧ sm_in_ M b_4 ((((sm_I M a0 69) + x4) - ((sm_I M a0 69) + x4) / 60 * 60) / 10) ∧ (((sm_I M b_4 ((((sm_I M a0 69) + x4) - ((sm_I M a0 69) + x4) / 60 * 60) / 10).toNatClampNeg) ≤ ((((sm_I M a0 69) + x4) - ((sm_I M a0 69) + x4) / 60 * 60) - (((sm_I M a0 69) + x4) - ((sm_I M a0 69) + x4) / 60 * 60) / 10 * 10) → sm_Run (d + 1) 191 323 [some (.inr (some a0)), some (.inl x1), some (.inl x2), some (.inl x3), some (.inl x4), some (.inl (((sm_I M a0 69) + x4) - ((sm_I M a0 69) + x4) / 60 * 60)), some (.inl ((((sm_I M a0 69) + x4) - ((sm_I M a0 69) + x4) / 60 * 60) / 10)), z7, z8] [] M Q) ∧ (¬ ((sm_I M b_4 ((((sm_I M a0 69) + x4) - ((sm_I M a0 69) + x4) / 60 * 60) / 10).toNatClampNeg) ≤ ((((sm_I M a0 69) + x4) - ((sm_I M a0 69) + x4) / 60 * 60) - (((sm_I M a0 69) + x4) - ((sm_I M a0 69) + x4) / 60 * 60) / 10 * 10)) → ∃ b_9, sm_R M a0 67 = some b_9 ∧ sm_wZ 1 M b_9 ∧ sm_in_ M b_9 (((sm_I M a0 69) + x4) - ((sm_I M a0 69) + x4) / 60 * 60) ∧ (((sm_I M b_9 (((sm_I M a0 69) + x4) - ((sm_I M a0 69) + x4) / 60 * 60).toNatClampNeg) = 0 → sm_Run (d + 1) 191 323 [some (.inr (some a0)), some (.inl x1), some (.inl x2), some (.inl x3), some (.inl x4), some (.inl (((sm_I M a0 69) + x4) - ((sm_I M a0 69) + x4) / 60 * 60)), some (.inl ((((sm_I M a0 69) + x4) - ((sm_I M a0 69) + x4) / 60 * 60) / 10)), z7, z8] [] M Q) ∧ (¬ ((sm_I M b_9 (((sm_I M a0 69) + x4) - ((sm_I M a0 69) + x4) / 60 * 60).toNatClampNeg) = 0) → ∃ b_14, sm_R M a0 63 = some b_14 ∧ sm_iA M b_14 ∧ sm_in_ M b_14 (((sm_I M a0 69) + x4) - ((sm_I M a0 69) + x4) / 60 * 60) ∧ ((¬ (sm_I M b_14 (((sm_I M a0 69) + x4) - ((sm_I M a0 69) + x4) / 60 * 60).toNatClampNeg) = 2 → sm_Run (d + 1) 191 323 [some (.inr (some a0)), some (.inl x1), some (.inl x2), some (.inl x3), some (.inl x4), some (.inl (((sm_I M a0 69) + x4) - ((sm_I M a0 69) + x4) / 60 * 60)), some (.inl ((((sm_I M a0 69) + x4) - ((sm_I M a0 69) + x4) / 60 * 60) / 10)), z7, z8] [] M Q) ∧ (¬ (¬ (sm_I M b_14 (((sm_I M a0 69) + x4) - ((sm_I M a0 69) + x4) / 60 * 60).toNatClampNeg) = 2) → ∃ b_19, sm_R M a0 68 = some b_19 ∧ sm_wZ 1 M b_19 ∧ sm_in_ M b_19 (((sm_I M a0 69) + x4) - ((sm_I M a0 69) + x4) / 60 * 60) ∧ ((¬ (sm_I M b_19 (((sm_I M a0 69) + x4) - ((sm_I M a0 69) + x4) / 60 * 60).toNatClampNeg) = 0 → sm_Run (d + 1) 191 323 [some (.inr (some a0)), some (.inl x1), some (.inl x2), some (.inl x3), some (.inl x4), some (.inl (((sm_I M a0 69) + x4) - ((sm_I M a0 69) + x4) / 60 * 60)), some (.inl ((((sm_I M a0 69) + x4) - ((sm_I M a0 69) + x4) / 60 * 60) / 10)), z7, z8] [] M Q) ∧ (¬ (¬ (sm_I M b_19 (((sm_I M a0 69) + x4) - ((sm_I M a0 69) + x4) / 60 * 60).toNatClampNeg) = 0) → ∃ b_24, sm_R M a0 62 = some b_24 ∧ sm_iA M b_24 ∧ sm_in_ M b_24 (((sm_I M a0 69) + x4) - ((sm_I M a0 69) + x4) / 60 * 60) ∧ sm_Run d 186 0 (sm_ent 186 [.inr (some a0), .inl ((((sm_I M a0 69) + x4) - ((sm_I M a0 69) + x4) / 60 * 60) / 10), .inl (sm_I M b_24 (((sm_I M a0 69) + x4) - ((sm_I M a0 69) + x4) / 60 * 60).toNatClampNeg)]) [] M (fun v M1 => sm_Run (d + 1) 191 344 [some (.inr (some a0)), some (.inl x1), some (.inl x2), some (.inl x3), some (.inl x4), some (.inl (((sm_I M a0 69) + x4) - ((sm_I M a0 69) + x4) / 60 * 60)), some (.inl ((((sm_I M a0 69) + x4) - ((sm_I M a0 69) + x4) / 60 * 60) / 10)), some (.inl 1), z8] (v.toList ++ []) M1 Q)))))))))))))) :
    sm_Run (d + 1) 191 243 [some (.inr (some a0)), some (.inl x1), some (.inl x2), some (.inl x3), some (.inl x4), z5, z6, z7, z8] [] M Q := by
  refine ru_go (t := (245, [some (.inr (some a0)), some (.inl x1), some (.inl x2), some (.inl x3), some (.inl x4), z5, z6, z7, z8], [.inl x4], M)) sm_a191_243 rfl rfl rfl ?_
  refine ru_go (t := (247, [some (.inr (some a0)), some (.inl x1), some (.inl x2), some (.inl x3), some (.inl x4), z5, z6, z7, z8], [.inl 60, .inl x4], M)) sm_a191_245 rfl rfl (st_bipush (by decide)) ?_
  refine ru_icmp (pc := 247) (p := 395) (p2 := 250) sm_a191_247 (by decide) rfl ⟨fun hc_1 => ?_, fun hc_1 => ?_⟩
  · have h := h.1 hc_1
    refine ru_go (t := (227, [some (.inr (some a0)), some (.inl x1), some (.inl x2), some (.inl x3), some (.inl x4), z5, z6, z7, z8], [], M)) sm_a191_395 rfl rfl (st_goto (pc := 395) (by decide)) ?_
    exact h
  · have h := h.2 hc_1
    refine ru_go (t := (251, [some (.inr (some a0)), some (.inl x1), some (.inl x2), some (.inl x3), some (.inl x4), z5, z6, z7, z8], [.inl x3], M)) sm_a191_250 rfl rfl rfl ?_
    refine ru_if (pc := 251) (p := 395) (p2 := 254) sm_a191_251 (by decide) rfl ⟨fun hc_2 => ?_, fun hc_2 => ?_⟩
    · have h := h.1 hc_2
      refine ru_go (t := (227, [some (.inr (some a0)), some (.inl x1), some (.inl x2), some (.inl x3), some (.inl x4), z5, z6, z7, z8], [], M)) sm_a191_395 rfl rfl (st_goto (pc := 395) (by decide)) ?_
      exact h
    · have h := h.2 hc_2
      refine ru_go (t := (255, [some (.inr (some a0)), some (.inl x1), some (.inl x2), some (.inl x3), some (.inl x4), z5, z6, z7, z8], [.inr (some a0)], M)) sm_a191_254 rfl rfl rfl ?_
      obtain ⟨h_3, h⟩ := h
      refine ru_go (t := (258, [some (.inr (some a0)), some (.inl x1), some (.inl x2), some (.inl x3), some (.inl x4), z5, z6, z7, z8], [.inl (sm_I M a0 69)], M)) sm_a191_255 rfl rfl (st_getI h_3 rfl) ?_
      refine ru_go (t := (260, [some (.inr (some a0)), some (.inl x1), some (.inl x2), some (.inl x3), some (.inl x4), z5, z6, z7, z8], [.inl x4, .inl (sm_I M a0 69)], M)) sm_a191_258 rfl rfl rfl ?_
      refine ru_go (t := (261, [some (.inr (some a0)), some (.inl x1), some (.inl x2), some (.inl x3), some (.inl x4), z5, z6, z7, z8], [.inl ((sm_I M a0 69) + x4)], M)) sm_a191_260 rfl rfl rfl ?_
      refine ru_go (t := (263, [some (.inr (some a0)), some (.inl x1), some (.inl x2), some (.inl x3), some (.inl x4), z5, z6, z7, z8], [.inl 60, .inl ((sm_I M a0 69) + x4)], M)) sm_a191_261 rfl rfl (st_bipush (by decide)) ?_
      refine ru_go (t := (264, [some (.inr (some a0)), some (.inl x1), some (.inl x2), some (.inl x3), some (.inl x4), z5, z6, z7, z8], [.inl (((sm_I M a0 69) + x4) - ((sm_I M a0 69) + x4) / 60 * 60)], M)) sm_a191_263 rfl rfl (st_rem (by decide)) ?_
      refine ru_go (t := (266, [some (.inr (some a0)), some (.inl x1), some (.inl x2), some (.inl x3), some (.inl x4), some (.inl (((sm_I M a0 69) + x4) - ((sm_I M a0 69) + x4) / 60 * 60)), z6, z7, z8], [], M)) sm_a191_264 rfl rfl rfl ?_
      refine ru_go (t := (268, [some (.inr (some a0)), some (.inl x1), some (.inl x2), some (.inl x3), some (.inl x4), some (.inl (((sm_I M a0 69) + x4) - ((sm_I M a0 69) + x4) / 60 * 60)), z6, z7, z8], [.inl (((sm_I M a0 69) + x4) - ((sm_I M a0 69) + x4) / 60 * 60)], M)) sm_a191_266 rfl rfl rfl ?_
      refine ru_go (t := (270, [some (.inr (some a0)), some (.inl x1), some (.inl x2), some (.inl x3), some (.inl x4), some (.inl (((sm_I M a0 69) + x4) - ((sm_I M a0 69) + x4) / 60 * 60)), z6, z7, z8], [.inl 10, .inl (((sm_I M a0 69) + x4) - ((sm_I M a0 69) + x4) / 60 * 60)], M)) sm_a191_268 rfl rfl (st_bipush (by decide)) ?_
      refine ru_go (t := (271, [some (.inr (some a0)), some (.inl x1), some (.inl x2), some (.inl x3), some (.inl x4), some (.inl (((sm_I M a0 69) + x4) - ((sm_I M a0 69) + x4) / 60 * 60)), z6, z7, z8], [.inl ((((sm_I M a0 69) + x4) - ((sm_I M a0 69) + x4) / 60 * 60) / 10)], M)) sm_a191_270 rfl rfl (st_div (by decide)) ?_
      refine ru_go (t := (273, [some (.inr (some a0)), some (.inl x1), some (.inl x2), some (.inl x3), some (.inl x4), some (.inl (((sm_I M a0 69) + x4) - ((sm_I M a0 69) + x4) / 60 * 60)), some (.inl ((((sm_I M a0 69) + x4) - ((sm_I M a0 69) + x4) / 60 * 60) / 10)), z7, z8], [], M)) sm_a191_271 rfl rfl rfl ?_
      refine ru_go (t := (275, [some (.inr (some a0)), some (.inl x1), some (.inl x2), some (.inl x3), some (.inl x4), some (.inl (((sm_I M a0 69) + x4) - ((sm_I M a0 69) + x4) / 60 * 60)), some (.inl ((((sm_I M a0 69) + x4) - ((sm_I M a0 69) + x4) / 60 * 60) / 10)), z7, z8], [.inl (((sm_I M a0 69) + x4) - ((sm_I M a0 69) + x4) / 60 * 60)], M)) sm_a191_273 rfl rfl rfl ?_
      refine ru_go (t := (277, [some (.inr (some a0)), some (.inl x1), some (.inl x2), some (.inl x3), some (.inl x4), some (.inl (((sm_I M a0 69) + x4) - ((sm_I M a0 69) + x4) / 60 * 60)), some (.inl ((((sm_I M a0 69) + x4) - ((sm_I M a0 69) + x4) / 60 * 60) / 10)), z7, z8], [.inl 10, .inl (((sm_I M a0 69) + x4) - ((sm_I M a0 69) + x4) / 60 * 60)], M)) sm_a191_275 rfl rfl (st_bipush (by decide)) ?_
      refine ru_go (t := (278, [some (.inr (some a0)), some (.inl x1), some (.inl x2), some (.inl x3), some (.inl x4), some (.inl (((sm_I M a0 69) + x4) - ((sm_I M a0 69) + x4) / 60 * 60)), some (.inl ((((sm_I M a0 69) + x4) - ((sm_I M a0 69) + x4) / 60 * 60) / 10)), z7, z8], [.inl ((((sm_I M a0 69) + x4) - ((sm_I M a0 69) + x4) / 60 * 60) - (((sm_I M a0 69) + x4) - ((sm_I M a0 69) + x4) / 60 * 60) / 10 * 10)], M)) sm_a191_277 rfl rfl (st_rem (by decide)) ?_
      refine ru_go (t := (279, [some (.inr (some a0)), some (.inl x1), some (.inl x2), some (.inl x3), some (.inl x4), some (.inl (((sm_I M a0 69) + x4) - ((sm_I M a0 69) + x4) / 60 * 60)), some (.inl ((((sm_I M a0 69) + x4) - ((sm_I M a0 69) + x4) / 60 * 60) / 10)), z7, z8], [.inr (some a0), .inl ((((sm_I M a0 69) + x4) - ((sm_I M a0 69) + x4) / 60 * 60) - (((sm_I M a0 69) + x4) - ((sm_I M a0 69) + x4) / 60 * 60) / 10 * 10)], M)) sm_a191_278 rfl rfl rfl ?_
      refine ru_go (t := (282, [some (.inr (some a0)), some (.inl x1), some (.inl x2), some (.inl x3), some (.inl x4), some (.inl (((sm_I M a0 69) + x4) - ((sm_I M a0 69) + x4) / 60 * 60)), some (.inl ((((sm_I M a0 69) + x4) - ((sm_I M a0 69) + x4) / 60 * 60) / 10)), z7, z8], [.inr (sm_R M a0 61), .inl ((((sm_I M a0 69) + x4) - ((sm_I M a0 69) + x4) / 60 * 60) - (((sm_I M a0 69) + x4) - ((sm_I M a0 69) + x4) / 60 * 60) / 10 * 10)], M)) sm_a191_279 rfl rfl (st_getR h_3 rfl rfl) ?_
      refine ru_go (t := (284, [some (.inr (some a0)), some (.inl x1), some (.inl x2), some (.inl x3), some (.inl x4), some (.inl (((sm_I M a0 69) + x4) - ((sm_I M a0 69) + x4) / 60 * 60)), some (.inl ((((sm_I M a0 69) + x4) - ((sm_I M a0 69) + x4) / 60 * 60) / 10)), z7, z8], [.inl ((((sm_I M a0 69) + x4) - ((sm_I M a0 69) + x4) / 60 * 60) / 10), .inr (sm_R M a0 61), .inl ((((sm_I M a0 69) + x4) - ((sm_I M a0 69) + x4) / 60 * 60) - (((sm_I M a0 69) + x4) - ((sm_I M a0 69) + x4) / 60 * 60) / 10 * 10)], M)) sm_a191_282 rfl rfl rfl ?_
      obtain ⟨b_4, hb_5, h⟩ := h
      rw [hb_5]
      obtain ⟨h_6, h⟩ := h
      obtain ⟨h_7, h⟩ := h
      refine ru_go (t := (285, [some (.inr (some a0)), some (.inl x1), some (.inl x2), some (.inl x3), some (.inl x4), some (.inl (((sm_I M a0 69) + x4) - ((sm_I M a0 69) + x4) / 60 * 60)), some (.inl ((((sm_I M a0 69) + x4) - ((sm_I M a0 69) + x4) / 60 * 60) / 10)), z7, z8], [.inl (sm_I M b_4 ((((sm_I M a0 69) + x4) - ((sm_I M a0 69) + x4) / 60 * 60) / 10).toNatClampNeg), .inl ((((sm_I M a0 69) + x4) - ((sm_I M a0 69) + x4) / 60 * 60) - (((sm_I M a0 69) + x4) - ((sm_I M a0 69) + x4) / 60 * 60) / 10 * 10)], M)) sm_a191_284 rfl rfl (st_iald h_6 h_7) ?_
      refine ru_icmp (pc := 285) (p := 323) (p2 := 288) sm_a191_285 (by decide) rfl ⟨fun hc_8 => ?_, fun hc_8 => ?_⟩
      · have h := h.1 hc_8
        exact h
      · have h := h.2 hc_8
        refine ru_go (t := (289, [some (.inr (some a0)), some (.inl x1), some (.inl x2), some (.inl x3), some (.inl x4), some (.inl (((sm_I M a0 69) + x4) - ((sm_I M a0 69) + x4) / 60 * 60)), some (.inl ((((sm_I M a0 69) + x4) - ((sm_I M a0 69) + x4) / 60 * 60) / 10)), z7, z8], [.inr (some a0)], M)) sm_a191_288 rfl rfl rfl ?_
        refine ru_go (t := (292, [some (.inr (some a0)), some (.inl x1), some (.inl x2), some (.inl x3), some (.inl x4), some (.inl (((sm_I M a0 69) + x4) - ((sm_I M a0 69) + x4) / 60 * 60)), some (.inl ((((sm_I M a0 69) + x4) - ((sm_I M a0 69) + x4) / 60 * 60) / 10)), z7, z8], [.inr (sm_R M a0 67)], M)) sm_a191_289 rfl rfl (st_getR h_3 rfl rfl) ?_
        refine ru_go (t := (294, [some (.inr (some a0)), some (.inl x1), some (.inl x2), some (.inl x3), some (.inl x4), some (.inl (((sm_I M a0 69) + x4) - ((sm_I M a0 69) + x4) / 60 * 60)), some (.inl ((((sm_I M a0 69) + x4) - ((sm_I M a0 69) + x4) / 60 * 60) / 10)), z7, z8], [.inl (((sm_I M a0 69) + x4) - ((sm_I M a0 69) + x4) / 60 * 60), .inr (sm_R M a0 67)], M)) sm_a191_292 rfl rfl rfl ?_
        obtain ⟨b_9, hb_10, h⟩ := h
        rw [hb_10]
        obtain ⟨h_11, h⟩ := h
        obtain ⟨h_12, h⟩ := h
        refine ru_go (t := (295, [some (.inr (some a0)), some (.inl x1), some (.inl x2), some (.inl x3), some (.inl x4), some (.inl (((sm_I M a0 69) + x4) - ((sm_I M a0 69) + x4) / 60 * 60)), some (.inl ((((sm_I M a0 69) + x4) - ((sm_I M a0 69) + x4) / 60 * 60) / 10)), z7, z8], [.inl (sm_I M b_9 (((sm_I M a0 69) + x4) - ((sm_I M a0 69) + x4) / 60 * 60).toNatClampNeg)], M)) sm_a191_294 rfl rfl (st_zald h_11 h_12) ?_
        refine ru_if (pc := 295) (p := 323) (p2 := 298) sm_a191_295 (by decide) rfl ⟨fun hc_13 => ?_, fun hc_13 => ?_⟩
        · have h := h.1 hc_13
          exact h
        · have h := h.2 hc_13
          refine ru_go (t := (299, [some (.inr (some a0)), some (.inl x1), some (.inl x2), some (.inl x3), some (.inl x4), some (.inl (((sm_I M a0 69) + x4) - ((sm_I M a0 69) + x4) / 60 * 60)), some (.inl ((((sm_I M a0 69) + x4) - ((sm_I M a0 69) + x4) / 60 * 60) / 10)), z7, z8], [.inr (some a0)], M)) sm_a191_298 rfl rfl rfl ?_
          refine ru_go (t := (302, [some (.inr (some a0)), some (.inl x1), some (.inl x2), some (.inl x3), some (.inl x4), some (.inl (((sm_I M a0 69) + x4) - ((sm_I M a0 69) + x4) / 60 * 60)), some (.inl ((((sm_I M a0 69) + x4) - ((sm_I M a0 69) + x4) / 60 * 60) / 10)), z7, z8], [.inr (sm_R M a0 63)], M)) sm_a191_299 rfl rfl (st_getR h_3 rfl rfl) ?_
          refine ru_go (t := (304, [some (.inr (some a0)), some (.inl x1), some (.inl x2), some (.inl x3), some (.inl x4), some (.inl (((sm_I M a0 69) + x4) - ((sm_I M a0 69) + x4) / 60 * 60)), some (.inl ((((sm_I M a0 69) + x4) - ((sm_I M a0 69) + x4) / 60 * 60) / 10)), z7, z8], [.inl (((sm_I M a0 69) + x4) - ((sm_I M a0 69) + x4) / 60 * 60), .inr (sm_R M a0 63)], M)) sm_a191_302 rfl rfl rfl ?_
          obtain ⟨b_14, hb_15, h⟩ := h
          rw [hb_15]
          obtain ⟨h_16, h⟩ := h
          obtain ⟨h_17, h⟩ := h
          refine ru_go (t := (305, [some (.inr (some a0)), some (.inl x1), some (.inl x2), some (.inl x3), some (.inl x4), some (.inl (((sm_I M a0 69) + x4) - ((sm_I M a0 69) + x4) / 60 * 60)), some (.inl ((((sm_I M a0 69) + x4) - ((sm_I M a0 69) + x4) / 60 * 60) / 10)), z7, z8], [.inl (sm_I M b_14 (((sm_I M a0 69) + x4) - ((sm_I M a0 69) + x4) / 60 * 60).toNatClampNeg)], M)) sm_a191_304 rfl rfl (st_iald h_16 h_17) ?_
          refine ru_go (t := (306, [some (.inr (some a0)), some (.inl x1), some (.inl x2), some (.inl x3), some (.inl x4), some (.inl (((sm_I M a0 69) + x4) - ((sm_I M a0 69) + x4) / 60 * 60)), some (.inl ((((sm_I M a0 69) + x4) - ((sm_I M a0 69) + x4) / 60 * 60) / 10)), z7, z8], [.inl 2, .inl (sm_I M b_14 (((sm_I M a0 69) + x4) - ((sm_I M a0 69) + x4) / 60 * 60).toNatClampNeg)], M)) sm_a191_305 rfl rfl (st_iconst (by decide)) ?_
          refine ru_icmp (pc := 306) (p := 323) (p2 := 309) sm_a191_306 (by decide) rfl ⟨fun hc_18 => ?_, fun hc_18 => ?_⟩
          · have h := h.1 hc_18
            exact h
          · have h := h.2 hc_18
            refine ru_go (t := (310, [some (.inr (some a0)), some (.inl x1), some (.inl x2), some (.inl x3), some (.inl x4), some (.inl (((sm_I M a0 69) + x4) - ((sm_I M a0 69) + x4) / 60 * 60)), some (.inl ((((sm_I M a0 69) + x4) - ((sm_I M a0 69) + x4) / 60 * 60) / 10)), z7, z8], [.inr (some a0)], M)) sm_a191_309 rfl rfl rfl ?_
            refine ru_go (t := (313, [some (.inr (some a0)), some (.inl x1), some (.inl x2), some (.inl x3), some (.inl x4), some (.inl (((sm_I M a0 69) + x4) - ((sm_I M a0 69) + x4) / 60 * 60)), some (.inl ((((sm_I M a0 69) + x4) - ((sm_I M a0 69) + x4) / 60 * 60) / 10)), z7, z8], [.inr (sm_R M a0 68)], M)) sm_a191_310 rfl rfl (st_getR h_3 rfl rfl) ?_
            refine ru_go (t := (315, [some (.inr (some a0)), some (.inl x1), some (.inl x2), some (.inl x3), some (.inl x4), some (.inl (((sm_I M a0 69) + x4) - ((sm_I M a0 69) + x4) / 60 * 60)), some (.inl ((((sm_I M a0 69) + x4) - ((sm_I M a0 69) + x4) / 60 * 60) / 10)), z7, z8], [.inl (((sm_I M a0 69) + x4) - ((sm_I M a0 69) + x4) / 60 * 60), .inr (sm_R M a0 68)], M)) sm_a191_313 rfl rfl rfl ?_
            obtain ⟨b_19, hb_20, h⟩ := h
            rw [hb_20]
            obtain ⟨h_21, h⟩ := h
            obtain ⟨h_22, h⟩ := h
            refine ru_go (t := (316, [some (.inr (some a0)), some (.inl x1), some (.inl x2), some (.inl x3), some (.inl x4), some (.inl (((sm_I M a0 69) + x4) - ((sm_I M a0 69) + x4) / 60 * 60)), some (.inl ((((sm_I M a0 69) + x4) - ((sm_I M a0 69) + x4) / 60 * 60) / 10)), z7, z8], [.inl (sm_I M b_19 (((sm_I M a0 69) + x4) - ((sm_I M a0 69) + x4) / 60 * 60).toNatClampNeg)], M)) sm_a191_315 rfl rfl (st_zald h_21 h_22) ?_
            refine ru_if (pc := 316) (p := 323) (p2 := 319) sm_a191_316 (by decide) rfl ⟨fun hc_23 => ?_, fun hc_23 => ?_⟩
            · have h := h.1 hc_23
              exact h
            · have h := h.2 hc_23
              refine ru_go (t := (320, [some (.inr (some a0)), some (.inl x1), some (.inl x2), some (.inl x3), some (.inl x4), some (.inl (((sm_I M a0 69) + x4) - ((sm_I M a0 69) + x4) / 60 * 60)), some (.inl ((((sm_I M a0 69) + x4) - ((sm_I M a0 69) + x4) / 60 * 60) / 10)), z7, z8], [.inl 1], M)) sm_a191_319 rfl rfl (st_iconst (by decide)) ?_
              refine ru_go (t := (324, [some (.inr (some a0)), some (.inl x1), some (.inl x2), some (.inl x3), some (.inl x4), some (.inl (((sm_I M a0 69) + x4) - ((sm_I M a0 69) + x4) / 60 * 60)), some (.inl ((((sm_I M a0 69) + x4) - ((sm_I M a0 69) + x4) / 60 * 60) / 10)), z7, z8], [.inl 1], M)) sm_a191_320 rfl rfl (st_goto (pc := 320) (by decide)) ?_
              refine ru_go (t := (326, [some (.inr (some a0)), some (.inl x1), some (.inl x2), some (.inl x3), some (.inl x4), some (.inl (((sm_I M a0 69) + x4) - ((sm_I M a0 69) + x4) / 60 * 60)), some (.inl ((((sm_I M a0 69) + x4) - ((sm_I M a0 69) + x4) / 60 * 60) / 10)), some (.inl 1), z8], [], M)) sm_a191_324 rfl rfl rfl ?_
              refine ru_go (t := (328, [some (.inr (some a0)), some (.inl x1), some (.inl x2), some (.inl x3), some (.inl x4), some (.inl (((sm_I M a0 69) + x4) - ((sm_I M a0 69) + x4) / 60 * 60)), some (.inl ((((sm_I M a0 69) + x4) - ((sm_I M a0 69) + x4) / 60 * 60) / 10)), some (.inl 1), z8], [.inl 1], M)) sm_a191_326 rfl rfl rfl ?_
              refine ru_if (pc := 328) (p := 347) (p2 := 331) sm_a191_328 (by decide) rfl ⟨fun hc => absurd (show (1 : Int32) = 0 from hc) (by decide), fun _ => ?_⟩
              refine ru_go (t := (332, [some (.inr (some a0)), some (.inl x1), some (.inl x2), some (.inl x3), some (.inl x4), some (.inl (((sm_I M a0 69) + x4) - ((sm_I M a0 69) + x4) / 60 * 60)), some (.inl ((((sm_I M a0 69) + x4) - ((sm_I M a0 69) + x4) / 60 * 60) / 10)), some (.inl 1), z8], [.inr (some a0)], M)) sm_a191_331 rfl rfl rfl ?_
              refine ru_go (t := (334, [some (.inr (some a0)), some (.inl x1), some (.inl x2), some (.inl x3), some (.inl x4), some (.inl (((sm_I M a0 69) + x4) - ((sm_I M a0 69) + x4) / 60 * 60)), some (.inl ((((sm_I M a0 69) + x4) - ((sm_I M a0 69) + x4) / 60 * 60) / 10)), some (.inl 1), z8], [.inl ((((sm_I M a0 69) + x4) - ((sm_I M a0 69) + x4) / 60 * 60) / 10), .inr (some a0)], M)) sm_a191_332 rfl rfl rfl ?_
              refine ru_go (t := (335, [some (.inr (some a0)), some (.inl x1), some (.inl x2), some (.inl x3), some (.inl x4), some (.inl (((sm_I M a0 69) + x4) - ((sm_I M a0 69) + x4) / 60 * 60)), some (.inl ((((sm_I M a0 69) + x4) - ((sm_I M a0 69) + x4) / 60 * 60) / 10)), some (.inl 1), z8], [.inr (some a0), .inl ((((sm_I M a0 69) + x4) - ((sm_I M a0 69) + x4) / 60 * 60) / 10), .inr (some a0)], M)) sm_a191_334 rfl rfl rfl ?_
              refine ru_go (t := (338, [some (.inr (some a0)), some (.inl x1), some (.inl x2), some (.inl x3), some (.inl x4), some (.inl (((sm_I M a0 69) + x4) - ((sm_I M a0 69) + x4) / 60 * 60)), some (.inl ((((sm_I M a0 69) + x4) - ((sm_I M a0 69) + x4) / 60 * 60) / 10)), some (.inl 1), z8], [.inr (sm_R M a0 62), .inl ((((sm_I M a0 69) + x4) - ((sm_I M a0 69) + x4) / 60 * 60) / 10), .inr (some a0)], M)) sm_a191_335 rfl rfl (st_getR h_3 rfl rfl) ?_
              refine ru_go (t := (340, [some (.inr (some a0)), some (.inl x1), some (.inl x2), some (.inl x3), some (.inl x4), some (.inl (((sm_I M a0 69) + x4) - ((sm_I M a0 69) + x4) / 60 * 60)), some (.inl ((((sm_I M a0 69) + x4) - ((sm_I M a0 69) + x4) / 60 * 60) / 10)), some (.inl 1), z8], [.inl (((sm_I M a0 69) + x4) - ((sm_I M a0 69) + x4) / 60 * 60), .inr (sm_R M a0 62), .inl ((((sm_I M a0 69) + x4) - ((sm_I M a0 69) + x4) / 60 * 60) / 10), .inr (some a0)], M)) sm_a191_338 rfl rfl rfl ?_
              obtain ⟨b_24, hb_25, h⟩ := h
              rw [hb_25]
              obtain ⟨h_26, h⟩ := h
              obtain ⟨h_27, h⟩ := h
              refine ru_go (t := (341, [some (.inr (some a0)), some (.inl x1), some (.inl x2), some (.inl x3), some (.inl x4), some (.inl (((sm_I M a0 69) + x4) - ((sm_I M a0 69) + x4) / 60 * 60)), some (.inl ((((sm_I M a0 69) + x4) - ((sm_I M a0 69) + x4) / 60 * 60) / 10)), some (.inl 1), z8], [.inl (sm_I M b_24 (((sm_I M a0 69) + x4) - ((sm_I M a0 69) + x4) / 60 * 60).toNatClampNeg), .inl ((((sm_I M a0 69) + x4) - ((sm_I M a0 69) + x4) / 60 * 60) / 10), .inr (some a0)], M)) sm_a191_340 rfl rfl (st_iald h_26 h_27) ?_
              exact ru_call (p := 344) sm_a191_341 rfl (sc_virt (Or.inl rfl) rfl rfl h_3 (Nat.le_of_ble_eq_true rfl)) rfl h
theorem bb_191_323 {d : Nat} {M : sm_M} {Q : Option sm_V → sm_M → Prop} {a0 : Nat} {x1 : Int32} {x2 : Int32} {x3 : Int32} {x4 : Int32} {x5 : Int32} {x6 : Int32} {z7 : Option sm_V} {z8 : Option sm_V}
    (h : sm_Run (d + 1) 191 243 [some (.inr (some a0)), some (.inl x1), some (.inl x2), some (.inl x3), some (.inl (x4 + 1)), some (.inl x5), some (.inl x6), some (.inl 0), some (.inl (-1))] [] M Q) :
    sm_Run (d + 1) 191 323 [some (.inr (some a0)), some (.inl x1), some (.inl x2), some (.inl x3), some (.inl x4), some (.inl x5), some (.inl x6), z7, z8] [] M Q := by
  refine ru_go (t := (324, [some (.inr (some a0)), some (.inl x1), some (.inl x2), some (.inl x3), some (.inl x4), some (.inl x5), some (.inl x6), z7, z8], [.inl 0], M)) sm_a191_323 rfl rfl (st_iconst (by decide)) ?_
  refine ru_go (t := (326, [some (.inr (some a0)), some (.inl x1), some (.inl x2), some (.inl x3), some (.inl x4), some (.inl x5), some (.inl x6), some (.inl 0), z8], [], M)) sm_a191_324 rfl rfl rfl ?_
  refine ru_go (t := (328, [some (.inr (some a0)), some (.inl x1), some (.inl x2), some (.inl x3), some (.inl x4), some (.inl x5), some (.inl x6), some (.inl 0), z8], [.inl 0], M)) sm_a191_326 rfl rfl rfl ?_
  refine ru_if (pc := 328) (p := 347) (p2 := 331) sm_a191_328 (by decide) rfl ⟨fun _ => ?_, fun hc => absurd (show sm_cP .eq 0 0 from (by show (0 : Int32) = 0; decide)) hc⟩
  refine ru_go (t := (348, [some (.inr (some a0)), some (.inl x1), some (.inl x2), some (.inl x3), some (.inl x4), some (.inl x5), some (.inl x6), some (.inl 0), z8], [.inl (-1)], M)) sm_a191_347 rfl rfl (st_iconst (by decide)) ?_
  refine ru_go (t := (350, [some (.inr (some a0)), some (.inl x1), some (.inl x2), some (.inl x3), some (.inl x4), some (.inl x5), some (.inl x6), some (.inl 0), some (.inl (-1))], [], M)) sm_a191_348 rfl rfl rfl ?_
  refine ru_go (t := (352, [some (.inr (some a0)), some (.inl x1), some (.inl x2), some (.inl x3), some (.inl x4), some (.inl x5), some (.inl x6), some (.inl 0), some (.inl (-1))], [.inl (-1)], M)) sm_a191_350 rfl rfl rfl ?_
  refine ru_go (t := (353, [some (.inr (some a0)), some (.inl x1), some (.inl x2), some (.inl x3), some (.inl x4), some (.inl x5), some (.inl x6), some (.inl 0), some (.inl (-1))], [.inl (-1), .inl (-1)], M)) sm_a191_352 rfl rfl (st_iconst (by decide)) ?_
  refine ru_icmp (pc := 353) (p := 389) (p2 := 356) sm_a191_353 (by decide) rfl ⟨fun _ => ?_, fun hc => absurd (show sm_cP .eq (-1) (-1) from (by show ((-1) : Int32) = (-1); decide)) hc⟩
  refine ru_go (t := (392, [some (.inr (some a0)), some (.inl x1), some (.inl x2), some (.inl x3), some (.inl (x4 + 1)), some (.inl x5), some (.inl x6), some (.inl 0), some (.inl (-1))], [], M)) sm_a191_389 rfl rfl (st_iinc rfl (by decide)) ?_
  refine ru_go (t := (243, [some (.inr (some a0)), some (.inl x1), some (.inl x2), some (.inl x3), some (.inl (x4 + 1)), some (.inl x5), some (.inl x6), some (.inl 0), some (.inl (-1))], [], M)) sm_a191_392 rfl rfl (st_goto (pc := 392) (by decide)) ?_
  exact h
theorem bb_191_344 {d : Nat} {M : sm_M} {Q : Option sm_V → sm_M → Prop} {a0 : Nat} {x1 : Int32} {x2 : Int32} {x3 : Int32} {x4 : Int32} {x5 : Int32} {x6 : Int32} {x7 : Int32} {z8 : Option sm_V} {y0 : Int32}
    (h : ((y0 = (-1) → sm_Run (d + 1) 191 243 [some (.inr (some a0)), some (.inl x1), some (.inl x2), some (.inl x3), some (.inl (x4 + 1)), some (.inl x5), some (.inl x6), some (.inl x7), some (.inl y0)] [] M Q) ∧ (¬ (y0 = (-1)) → sm_K M a0 = 39 ∧ sm_Run d 185 0 (sm_ent 185 [.inr (some a0), .inl x5, .inl y0]) [] M (fun v M1 => sm_Run (d + 1) 191 370 [some (.inr (some a0)), some (.inl x1), some (.inl x2), some (.inl x3), some (.inl x4), some (.inl x5), some (.inl x6), some (.inl x7), some (.inl y0)] (v.toList ++ [.inl x5, .inr (sm_R M a0 68)]) M1 Q)))) :
    sm_Run (d + 1) 191 344 [some (.inr (some a0)), some (.inl x1), some (.inl x2), some (.inl x3), some (.inl x4), some (.inl x5), some (.inl x6), some (.inl x7), z8] [.inl y0] M Q := by
  refine ru_go (t := (348, [some (.inr (some a0)), some (.inl x1), some (.inl x2), some (.inl x3), some (.inl x4), some (.inl x5), some (.inl x6), some (.inl x7), z8], [.inl y0], M)) sm_a191_344 rfl rfl (st_goto (pc := 344) (by decide)) ?_
  refine ru_go (t := (350, [some (.inr (some a0)), some (.inl x1), some (.inl x2), some (.inl x3), some (.inl x4), some (.inl x5), some (.inl x6), some (.inl x7), some (.inl y0)], [], M)) sm_a191_348 rfl rfl rfl ?_
  refine ru_go (t := (352, [some (.inr (some a0)), some (.inl x1), some (.inl x2), some (.inl x3), some (.inl x4), some (.inl x5), some (.inl x6), some (.inl x7), some (.inl y0)], [.inl y0], M)) sm_a191_350 rfl rfl rfl ?_
  refine ru_go (t := (353, [some (.inr (some a0)), some (.inl x1), some (.inl x2), some (.inl x3), some (.inl x4), some (.inl x5), some (.inl x6), some (.inl x7), some (.inl y0)], [.inl (-1), .inl y0], M)) sm_a191_352 rfl rfl (st_iconst (by decide)) ?_
  refine ru_icmp (pc := 353) (p := 389) (p2 := 356) sm_a191_353 (by decide) rfl ⟨fun hc_1 => ?_, fun hc_1 => ?_⟩
  · have h := h.1 hc_1
    refine ru_go (t := (392, [some (.inr (some a0)), some (.inl x1), some (.inl x2), some (.inl x3), some (.inl (x4 + 1)), some (.inl x5), some (.inl x6), some (.inl x7), some (.inl y0)], [], M)) sm_a191_389 rfl rfl (st_iinc rfl (by decide)) ?_
    refine ru_go (t := (243, [some (.inr (some a0)), some (.inl x1), some (.inl x2), some (.inl x3), some (.inl (x4 + 1)), some (.inl x5), some (.inl x6), some (.inl x7), some (.inl y0)], [], M)) sm_a191_392 rfl rfl (st_goto (pc := 392) (by decide)) ?_
    exact h
  · have h := h.2 hc_1
    refine ru_go (t := (357, [some (.inr (some a0)), some (.inl x1), some (.inl x2), some (.inl x3), some (.inl x4), some (.inl x5), some (.inl x6), some (.inl x7), some (.inl y0)], [.inr (some a0)], M)) sm_a191_356 rfl rfl rfl ?_
    obtain ⟨h_2, h⟩ := h
    refine ru_go (t := (360, [some (.inr (some a0)), some (.inl x1), some (.inl x2), some (.inl x3), some (.inl x4), some (.inl x5), some (.inl x6), some (.inl x7), some (.inl y0)], [.inr (sm_R M a0 68)], M)) sm_a191_357 rfl rfl (st_getR h_2 rfl rfl) ?_
    refine ru_go (t := (362, [some (.inr (some a0)), some (.inl x1), some (.inl x2), some (.inl x3), some (.inl x4), some (.inl x5), some (.inl x6), some (.inl x7), some (.inl y0)], [.inl x5, .inr (sm_R M a0 68)], M)) sm_a191_360 rfl rfl rfl ?_
    refine ru_go (t := (363, [some (.inr (some a0)), some (.inl x1), some (.inl x2), some (.inl x3), some (.inl x4), some (.inl x5), some (.inl x6), some (.inl x7), some (.inl y0)], [.inr (some a0), .inl x5, .inr (sm_R M a0 68)], M)) sm_a191_362 rfl rfl rfl ?_
    refine ru_go (t := (365, [some (.inr (some a0)), some (.inl x1), some (.inl x2), some (.inl x3), some (.inl x4), some (.inl x5), some (.inl x6), some (.inl x7), some (.inl y0)], [.inl x5, .inr (some a0), .inl x5, .inr (sm_R M a0 68)], M)) sm_a191_363 rfl rfl rfl ?_
    refine ru_go (t := (367, [some (.inr (some a0)), some (.inl x1), some (.inl x2), some (.inl x3), some (.inl x4), some (.inl x5), some (.inl x6), some (.inl x7), some (.inl y0)], [.inl y0, .inl x5, .inr (some a0), .inl x5, .inr (sm_R M a0 68)], M)) sm_a191_365 rfl rfl rfl ?_
    exact ru_call (p := 370) sm_a191_367 rfl (sc_virt (Or.inl rfl) rfl rfl h_2 (Nat.le_of_ble_eq_true rfl)) rfl h
theorem bb_191_370 {d : Nat} {M : sm_M} {Q : Option sm_V → sm_M → Prop} {a0 : Nat} {x1 : Int32} {x2 : Int32} {x3 : Int32} {x4 : Int32} {x5 : Int32} {x6 : Int32} {x7 : Int32} {x8 : Int32} {y0 : Int32} {y1 : Int32} {t2 : Option Nat}
    (h : ∃ b_1, t2 = some b_1 ∧ sm_wZ 1 M b_1 ∧ sm_in_ M b_1 y1 ∧ sm_fit .boolean y0 = true ∧ sm_K M a0 = 39 ∧ sm_Run (d + 1) 191 243 [some (.inr (some a0)), some (.inl x1), some (.inl x2), some (.inl 1), some (.inl (x4 + 1)), some (.inl x5), some (.inl x6), some (.inl x7), some (.inl x8)] [] (sm_putI (sm_putI (sm_putI M b_1 (y1).toNatClampNeg y0) a0 69 x5) a0 87 ((sm_I (sm_putI (sm_putI M b_1 (y1).toNatClampNeg y0) a0 69 x5) a0 87) - 1)) Q) :
    sm_Run (d + 1) 191 370 [some (.inr (some a0)), some (.inl x1), some (.inl x2), some (.inl x3), some (.inl x4), some (.inl x5), some (.inl x6), some (.inl x7), some (.inl x8)] [.inl y0, .inl y1, .inr t2] M Q := by
  obtain ⟨b_1, hb_2, h⟩ := h
  rw [hb_2]
  obtain ⟨h_3, h⟩ := h
  obtain ⟨h_4, h⟩ := h
  obtain ⟨h_5, h⟩ := h
  refine ru_go (t := (371, [some (.inr (some a0)), some (.inl x1), some (.inl x2), some (.inl x3), some (.inl x4), some (.inl x5), some (.inl x6), some (.inl x7), some (.inl x8)], [], sm_putI M b_1 (y1).toNatClampNeg y0)) sm_a191_370 rfl rfl (st_zast h_3 h_4 h_5) ?_
  refine ru_go (t := (372, [some (.inr (some a0)), some (.inl x1), some (.inl x2), some (.inl x3), some (.inl x4), some (.inl x5), some (.inl x6), some (.inl x7), some (.inl x8)], [.inr (some a0)], sm_putI M b_1 (y1).toNatClampNeg y0)) sm_a191_371 rfl rfl rfl ?_
  refine ru_go (t := (374, [some (.inr (some a0)), some (.inl x1), some (.inl x2), some (.inl x3), some (.inl x4), some (.inl x5), some (.inl x6), some (.inl x7), some (.inl x8)], [.inl x5, .inr (some a0)], sm_putI M b_1 (y1).toNatClampNeg y0)) sm_a191_372 rfl rfl rfl ?_
  obtain ⟨h_6, h⟩ := h
  refine ru_go (t := (377, [some (.inr (some a0)), some (.inl x1), some (.inl x2), some (.inl x3), some (.inl x4), some (.inl x5), some (.inl x6), some (.inl x7), some (.inl x8)], [], sm_putI (sm_putI M b_1 (y1).toNatClampNeg y0) a0 69 x5)) sm_a191_374 rfl rfl (st_putI h_6 rfl) ?_
  refine ru_go (t := (378, [some (.inr (some a0)), some (.inl x1), some (.inl x2), some (.inl x3), some (.inl x4), some (.inl x5), some (.inl x6), some (.inl x7), some (.inl x8)], [.inr (some a0)], sm_putI (sm_putI M b_1 (y1).toNatClampNeg y0) a0 69 x5)) sm_a191_377 rfl rfl rfl ?_
  refine ru_go (t := (379, [some (.inr (some a0)), some (.inl x1), some (.inl x2), some (.inl x3), some (.inl x4), some (.inl x5), some (.inl x6), some (.inl x7), some (.inl x8)], [.inr (some a0), .inr (some a0)], sm_putI (sm_putI M b_1 (y1).toNatClampNeg y0) a0 69 x5)) sm_a191_378 rfl rfl rfl ?_
  refine ru_go (t := (382, [some (.inr (some a0)), some (.inl x1), some (.inl x2), some (.inl x3), some (.inl x4), some (.inl x5), some (.inl x6), some (.inl x7), some (.inl x8)], [.inl (sm_I (sm_putI (sm_putI M b_1 (y1).toNatClampNeg y0) a0 69 x5) a0 87), .inr (some a0)], sm_putI (sm_putI M b_1 (y1).toNatClampNeg y0) a0 69 x5)) sm_a191_379 rfl rfl (st_getI h_6 rfl) ?_
  refine ru_go (t := (383, [some (.inr (some a0)), some (.inl x1), some (.inl x2), some (.inl x3), some (.inl x4), some (.inl x5), some (.inl x6), some (.inl x7), some (.inl x8)], [.inl 1, .inl (sm_I (sm_putI (sm_putI M b_1 (y1).toNatClampNeg y0) a0 69 x5) a0 87), .inr (some a0)], sm_putI (sm_putI M b_1 (y1).toNatClampNeg y0) a0 69 x5)) sm_a191_382 rfl rfl (st_iconst (by decide)) ?_
  refine ru_go (t := (384, [some (.inr (some a0)), some (.inl x1), some (.inl x2), some (.inl x3), some (.inl x4), some (.inl x5), some (.inl x6), some (.inl x7), some (.inl x8)], [.inl ((sm_I (sm_putI (sm_putI M b_1 (y1).toNatClampNeg y0) a0 69 x5) a0 87) - 1), .inr (some a0)], sm_putI (sm_putI M b_1 (y1).toNatClampNeg y0) a0 69 x5)) sm_a191_383 rfl rfl rfl ?_
  refine ru_go (t := (387, [some (.inr (some a0)), some (.inl x1), some (.inl x2), some (.inl x3), some (.inl x4), some (.inl x5), some (.inl x6), some (.inl x7), some (.inl x8)], [], sm_putI (sm_putI (sm_putI M b_1 (y1).toNatClampNeg y0) a0 69 x5) a0 87 ((sm_I (sm_putI (sm_putI M b_1 (y1).toNatClampNeg y0) a0 69 x5) a0 87) - 1))) sm_a191_384 rfl rfl (st_putI h_6 rfl) ?_
  refine ru_go (t := (388, [some (.inr (some a0)), some (.inl x1), some (.inl x2), some (.inl x3), some (.inl x4), some (.inl x5), some (.inl x6), some (.inl x7), some (.inl x8)], [.inl 1], sm_putI (sm_putI (sm_putI M b_1 (y1).toNatClampNeg y0) a0 69 x5) a0 87 ((sm_I (sm_putI (sm_putI M b_1 (y1).toNatClampNeg y0) a0 69 x5) a0 87) - 1))) sm_a191_387 rfl rfl (st_iconst (by decide)) ?_
  refine ru_go (t := (389, [some (.inr (some a0)), some (.inl x1), some (.inl x2), some (.inl 1), some (.inl x4), some (.inl x5), some (.inl x6), some (.inl x7), some (.inl x8)], [], sm_putI (sm_putI (sm_putI M b_1 (y1).toNatClampNeg y0) a0 69 x5) a0 87 ((sm_I (sm_putI (sm_putI M b_1 (y1).toNatClampNeg y0) a0 69 x5) a0 87) - 1))) sm_a191_388 rfl rfl rfl ?_
  refine ru_go (t := (392, [some (.inr (some a0)), some (.inl x1), some (.inl x2), some (.inl 1), some (.inl (x4 + 1)), some (.inl x5), some (.inl x6), some (.inl x7), some (.inl x8)], [], sm_putI (sm_putI (sm_putI M b_1 (y1).toNatClampNeg y0) a0 69 x5) a0 87 ((sm_I (sm_putI (sm_putI M b_1 (y1).toNatClampNeg y0) a0 69 x5) a0 87) - 1))) sm_a191_389 rfl rfl (st_iinc rfl (by decide)) ?_
  refine ru_go (t := (243, [some (.inr (some a0)), some (.inl x1), some (.inl x2), some (.inl 1), some (.inl (x4 + 1)), some (.inl x5), some (.inl x6), some (.inl x7), some (.inl x8)], [], sm_putI (sm_putI (sm_putI M b_1 (y1).toNatClampNeg y0) a0 69 x5) a0 87 ((sm_I (sm_putI (sm_putI M b_1 (y1).toNatClampNeg y0) a0 69 x5) a0 87) - 1))) sm_a191_392 rfl rfl (st_goto (pc := 392) (by decide)) ?_
  exact h
theorem bb_191_398 {d : Nat} {M : sm_M} {Q : Option sm_V → sm_M → Prop} {a0 : Nat} {x1 : Int32} {x2 : Int32} {x3 : Int32} {z4 : Option sm_V} {z5 : Option sm_V} {z6 : Option sm_V} {z7 : Option sm_V} {z8 : Option sm_V}
    (h : sm_K M a0 = 39 ∧ Q none (sm_putI M a0 56 (((sm_I M a0 56) + 1) - ((sm_I M a0 56) + 1) / 2048 * 2048))) :
    sm_Run (d + 1) 191 398 [some (.inr (some a0)), some (.inl x1), some (.inl x2), some (.inl x3), z4, z5, z6, z7, z8] [] M Q := by
  refine ru_go (t := (399, [some (.inr (some a0)), some (.inl x1), some (.inl x2), some (.inl x3), z4, z5, z6, z7, z8], [.inr (some a0)], M)) sm_a191_398 rfl rfl rfl ?_
  refine ru_go (t := (400, [some (.inr (some a0)), some (.inl x1), some (.inl x2), some (.inl x3), z4, z5, z6, z7, z8], [.inr (some a0), .inr (some a0)], M)) sm_a191_399 rfl rfl rfl ?_
  obtain ⟨h_1, h⟩ := h
  refine ru_go (t := (403, [some (.inr (some a0)), some (.inl x1), some (.inl x2), some (.inl x3), z4, z5, z6, z7, z8], [.inl (sm_I M a0 56), .inr (some a0)], M)) sm_a191_400 rfl rfl (st_getI h_1 rfl) ?_
  refine ru_go (t := (404, [some (.inr (some a0)), some (.inl x1), some (.inl x2), some (.inl x3), z4, z5, z6, z7, z8], [.inl 1, .inl (sm_I M a0 56), .inr (some a0)], M)) sm_a191_403 rfl rfl (st_iconst (by decide)) ?_
  refine ru_go (t := (405, [some (.inr (some a0)), some (.inl x1), some (.inl x2), some (.inl x3), z4, z5, z6, z7, z8], [.inl ((sm_I M a0 56) + 1), .inr (some a0)], M)) sm_a191_404 rfl rfl rfl ?_
  refine ru_go (t := (408, [some (.inr (some a0)), some (.inl x1), some (.inl x2), some (.inl x3), z4, z5, z6, z7, z8], [.inl 2048, .inl ((sm_I M a0 56) + 1), .inr (some a0)], M)) sm_a191_405 rfl rfl (st_sipush (by decide)) ?_
  refine ru_go (t := (409, [some (.inr (some a0)), some (.inl x1), some (.inl x2), some (.inl x3), z4, z5, z6, z7, z8], [.inl (((sm_I M a0 56) + 1) - ((sm_I M a0 56) + 1) / 2048 * 2048), .inr (some a0)], M)) sm_a191_408 rfl rfl (st_rem (by decide)) ?_
  refine ru_go (t := (412, [some (.inr (some a0)), some (.inl x1), some (.inl x2), some (.inl x3), z4, z5, z6, z7, z8], [], sm_putI M a0 56 (((sm_I M a0 56) + 1) - ((sm_I M a0 56) + 1) / 2048 * 2048))) sm_a191_409 rfl rfl (st_putI h_1 rfl) ?_
  exact ru_ret sm_a191_412 (sm_rvv rfl) h

/-! WireBusModel.device:(IIII)Z -/
theorem sm_a192_0 : sm_at 192 0 = some (.iload_n 2, 1, (0, 0, 0, 0)) := by decide +kernel
theorem sm_a192_1 : sm_at 192 1 = some (.bipush 8, 2, (0, 0, 0, 0)) := by decide +kernel
theorem sm_a192_3 : sm_at 192 3 = some (.if_icmp .eq 21, 3, (0, 0, 0, 0)) := by decide +kernel
theorem sm_a192_6 : sm_at 192 6 = some (.iload_n 2, 1, (0, 0, 0, 0)) := by decide +kernel
theorem sm_a192_7 : sm_at 192 7 = some (.bipush 16, 2, (0, 0, 0, 0)) := by decide +kernel
theorem sm_a192_9 : sm_at 192 9 = some (.if_icmp .eq 15, 3, (0, 0, 0, 0)) := by decide +kernel
theorem sm_a192_12 : sm_at 192 12 = some (.iload_n 2, 1, (0, 0, 0, 0)) := by decide +kernel
theorem sm_a192_13 : sm_at 192 13 = some (.bipush 32, 2, (0, 0, 0, 0)) := by decide +kernel
theorem sm_a192_15 : sm_at 192 15 = some (.if_icmp .eq 9, 3, (0, 0, 0, 0)) := by decide +kernel
theorem sm_a192_18 : sm_at 192 18 = some (.iload_n 2, 1, (0, 0, 0, 0)) := by decide +kernel
theorem sm_a192_19 : sm_at 192 19 = some (.bipush 64, 2, (0, 0, 0, 0)) := by decide +kernel
theorem sm_a192_21 : sm_at 192 21 = some (.if_icmp .ne 7, 3, (0, 0, 0, 0)) := by decide +kernel
theorem sm_a192_24 : sm_at 192 24 = some (.iconst 1, 1, (0, 0, 0, 0)) := by decide +kernel
theorem sm_a192_25 : sm_at 192 25 = some (.goto 4, 3, (0, 0, 0, 0)) := by decide +kernel
theorem sm_a192_28 : sm_at 192 28 = some (.iconst 0, 1, (0, 0, 0, 0)) := by decide +kernel
theorem sm_a192_29 : sm_at 192 29 = some (.istore 5, 2, (0, 0, 0, 0)) := by decide +kernel
theorem sm_a192_31 : sm_at 192 31 = some (.iload_n 1, 1, (0, 0, 0, 0)) := by decide +kernel
theorem sm_a192_32 : sm_at 192 32 = some (.ifCond .lt 13, 3, (0, 0, 0, 0)) := by decide +kernel
theorem sm_a192_35 : sm_at 192 35 = some (.iload_n 1, 1, (0, 0, 0, 0)) := by decide +kernel
theorem sm_a192_36 : sm_at 192 36 = some (.iconst 5, 1, (0, 0, 0, 0)) := by decide +kernel
theorem sm_a192_37 : sm_at 192 37 = some (.if_icmp .gt 8, 3, (0, 0, 0, 0)) := by decide +kernel
theorem sm_a192_40 : sm_at 192 40 = some (.iload 5, 2, (0, 0, 0, 0)) := by decide +kernel
theorem sm_a192_42 : sm_at 192 42 = some (.ifCond .ne 5, 3, (0, 0, 0, 0)) := by decide +kernel
theorem sm_a192_45 : sm_at 192 45 = some (.iconst 0, 1, (0, 0, 0, 0)) := by decide +kernel
theorem sm_a192_46 : sm_at 192 46 = some (.ireturn, 1, (0, 0, 0, 0)) := by decide +kernel
theorem sm_a192_47 : sm_at 192 47 = some (.aload_n 0, 1, (0, 0, 0, 0)) := by decide +kernel
theorem sm_a192_48 : sm_at 192 48 = some (.getfield 16, 3, (12, 4, 0, 1187)) := by decide +kernel
theorem sm_a192_51 : sm_at 192 51 = some (.iload_n 1, 1, (0, 0, 0, 0)) := by decide +kernel
theorem sm_a192_52 : sm_at 192 52 = some (.iaload, 1, (0, 0, 0, 0)) := by decide +kernel
theorem sm_a192_53 : sm_at 192 53 = some (.ifCond .eq 5, 3, (0, 0, 0, 0)) := by decide +kernel
theorem sm_a192_56 : sm_at 192 56 = some (.iconst 0, 1, (0, 0, 0, 0)) := by decide +kernel
theorem sm_a192_57 : sm_at 192 57 = some (.ireturn, 1, (0, 0, 0, 0)) := by decide +kernel
theorem sm_a192_58 : sm_at 192 58 = some (.aload_n 0, 1, (0, 0, 0, 0)) := by decide +kernel
theorem sm_a192_59 : sm_at 192 59 = some (.getfield 22, 3, (12, 6, 0, 1189)) := by decide +kernel
theorem sm_a192_62 : sm_at 192 62 = some (.iload_n 1, 1, (0, 0, 0, 0)) := by decide +kernel
theorem sm_a192_63 : sm_at 192 63 = some (.iload_n 2, 1, (0, 0, 0, 0)) := by decide +kernel
theorem sm_a192_64 : sm_at 192 64 = some (.iastore, 1, (1, 0, 0, 0)) := by decide +kernel
theorem sm_a192_65 : sm_at 192 65 = some (.aload_n 0, 1, (0, 0, 0, 0)) := by decide +kernel
theorem sm_a192_66 : sm_at 192 66 = some (.getfield 25, 3, (12, 7, 0, 1190)) := by decide +kernel
theorem sm_a192_69 : sm_at 192 69 = some (.iload_n 1, 1, (0, 0, 0, 0)) := by decide +kernel
theorem sm_a192_70 : sm_at 192 70 = some (.iload_n 3, 1, (0, 0, 0, 0)) := by decide +kernel
theorem sm_a192_71 : sm_at 192 71 = some (.ldc_w 415, 3, (65535, 0, 0, 1465)) := by decide +kernel
theorem sm_a192_74 : sm_at 192 74 = some (.iand, 1, (0, 0, 0, 0)) := by decide +kernel
theorem sm_a192_75 : sm_at 192 75 = some (.iastore, 1, (1, 0, 0, 0)) := by decide +kernel
theorem sm_a192_76 : sm_at 192 76 = some (.aload_n 0, 1, (0, 0, 0, 0)) := by decide +kernel
theorem sm_a192_77 : sm_at 192 77 = some (.getfield 28, 3, (12, 8, 0, 1191)) := by decide +kernel
theorem sm_a192_80 : sm_at 192 80 = some (.iload_n 1, 1, (0, 0, 0, 0)) := by decide +kernel
theorem sm_a192_81 : sm_at 192 81 = some (.iload 4, 2, (0, 0, 0, 0)) := by decide +kernel
theorem sm_a192_83 : sm_at 192 83 = some (.ldc_w 415, 3, (65535, 0, 0, 1465)) := by decide +kernel
theorem sm_a192_86 : sm_at 192 86 = some (.iand, 1, (0, 0, 0, 0)) := by decide +kernel
theorem sm_a192_87 : sm_at 192 87 = some (.iastore, 1, (1, 0, 0, 0)) := by decide +kernel
theorem sm_a192_88 : sm_at 192 88 = some (.aload_n 0, 1, (0, 0, 0, 0)) := by decide +kernel
theorem sm_a192_89 : sm_at 192 89 = some (.getfield 31, 3, (12, 9, 0, 1192)) := by decide +kernel
theorem sm_a192_92 : sm_at 192 92 = some (.iload_n 1, 1, (0, 0, 0, 0)) := by decide +kernel
theorem sm_a192_93 : sm_at 192 93 = some (.iconst 0, 1, (0, 0, 0, 0)) := by decide +kernel
theorem sm_a192_94 : sm_at 192 94 = some (.iastore, 1, (1, 0, 0, 0)) := by decide +kernel
theorem sm_a192_95 : sm_at 192 95 = some (.iconst 0, 1, (0, 0, 0, 0)) := by decide +kernel
theorem sm_a192_96 : sm_at 192 96 = some (.istore 6, 2, (0, 0, 0, 0)) := by decide +kernel
theorem sm_a192_98 : sm_at 192 98 = some (.iload 6, 2, (0, 0, 0, 0)) := by decide +kernel
theorem sm_a192_100 : sm_at 192 100 = some (.bipush 64, 2, (0, 0, 0, 0)) := by decide +kernel
theorem sm_a192_102 : sm_at 192 102 = some (.if_icmp .ge 22, 3, (0, 0, 0, 0)) := by decide +kernel
theorem sm_a192_105 : sm_at 192 105 = some (.aload_n 0, 1, (0, 0, 0, 0)) := by decide +kernel
theorem sm_a192_106 : sm_at 192 106 = some (.getfield 59, 3, (12, 18, 0, 1201)) := by decide +kernel
theorem sm_a192_109 : sm_at 192 109 = some (.bipush 64, 2, (0, 0, 0, 0)) := by decide +kernel
theorem sm_a192_111 : sm_at 192 111 = some (.iload_n 1, 1, (0, 0, 0, 0)) := by decide +kernel
theorem sm_a192_112 : sm_at 192 112 = some (.imul, 1, (0, 0, 0, 0)) := by decide +kernel
theorem sm_a192_113 : sm_at 192 113 = some (.iload 6, 2, (0, 0, 0, 0)) := by decide +kernel
theorem sm_a192_115 : sm_at 192 115 = some (.iadd, 1, (0, 0, 0, 0)) := by decide +kernel
theorem sm_a192_116 : sm_at 192 116 = some (.iconst 0, 1, (0, 0, 0, 0)) := by decide +kernel
theorem sm_a192_117 : sm_at 192 117 = some (.iastore, 1, (1, 0, 0, 0)) := by decide +kernel
theorem sm_a192_118 : sm_at 192 118 = some (.iinc 6 1, 3, (0, 0, 0, 0)) := by decide +kernel
theorem sm_a192_121 : sm_at 192 121 = some (.goto (-23), 3, (0, 0, 0, 0)) := by decide +kernel
theorem sm_a192_124 : sm_at 192 124 = some (.iconst 1, 1, (0, 0, 0, 0)) := by decide +kernel
theorem sm_a192_125 : sm_at 192 125 = some (.ireturn, 1, (0, 0, 0, 0)) := by decide +kernel
theorem bb_192_0 {d : Nat} {M : sm_M} {Q : Option sm_V → sm_M → Prop} {a0 : Nat} {x1 : Int32} {x2 : Int32} {x3 : Int32} {x4 : Int32} {z5 : Option sm_V} {z6 : Option sm_V}
    (h : ((x2 = 8 → sm_Run d 192 24 [some (.inr (some a0)), some (.inl x1), some (.inl x2), some (.inl x3), some (.inl x4), z5, z6] [] M Q) ∧ (¬ (x2 = 8) → ((x2 = 16 → sm_Run d 192 24 [some (.inr (some a0)), some (.inl x1), some (.inl x2), some (.inl x3), some (.inl x4), z5, z6] [] M Q) ∧ (¬ (x2 = 16) → ((x2 = 32 → sm_Run d 192 24 [some (.inr (some a0)), some (.inl x1), some (.inl x2), some (.inl x3), some (.inl x4), z5, z6] [] M Q) ∧ (¬ (x2 = 32) → ((¬ x2 = 64 → ((x1 < 0 → Q (some (.inl 0)) M) ∧ (¬ (x1 < 0) → ((5 < x1 → Q (some (.inl 0)) M) ∧ (¬ (5 < x1) → Q (some (.inl 0)) M))))) ∧ (¬ (¬ x2 = 64) → sm_Run d 192 24 [some (.inr (some a0)), some (.inl x1), some (.inl x2), some (.inl x3), some (.inl x4), z5, z6] [] M Q))))))))) :
    sm_Run d 192 0 [some (.inr (some a0)), some (.inl x1), some (.inl x2), some (.inl x3), some (.inl x4), z5, z6] [] M Q := by
  refine ru_go (t := (1, [some (.inr (some a0)), some (.inl x1), some (.inl x2), some (.inl x3), some (.inl x4), z5, z6], [.inl x2], M)) sm_a192_0 rfl rfl rfl ?_
  refine ru_go (t := (3, [some (.inr (some a0)), some (.inl x1), some (.inl x2), some (.inl x3), some (.inl x4), z5, z6], [.inl 8, .inl x2], M)) sm_a192_1 rfl rfl (st_bipush (by decide)) ?_
  refine ru_icmp (pc := 3) (p := 24) (p2 := 6) sm_a192_3 (by decide) rfl ⟨fun hc_1 => ?_, fun hc_1 => ?_⟩
  · have h := h.1 hc_1
    exact h
  · have h := h.2 hc_1
    refine ru_go (t := (7, [some (.inr (some a0)), some (.inl x1), some (.inl x2), some (.inl x3), some (.inl x4), z5, z6], [.inl x2], M)) sm_a192_6 rfl rfl rfl ?_
    refine ru_go (t := (9, [some (.inr (some a0)), some (.inl x1), some (.inl x2), some (.inl x3), some (.inl x4), z5, z6], [.inl 16, .inl x2], M)) sm_a192_7 rfl rfl (st_bipush (by decide)) ?_
    refine ru_icmp (pc := 9) (p := 24) (p2 := 12) sm_a192_9 (by decide) rfl ⟨fun hc_2 => ?_, fun hc_2 => ?_⟩
    · have h := h.1 hc_2
      exact h
    · have h := h.2 hc_2
      refine ru_go (t := (13, [some (.inr (some a0)), some (.inl x1), some (.inl x2), some (.inl x3), some (.inl x4), z5, z6], [.inl x2], M)) sm_a192_12 rfl rfl rfl ?_
      refine ru_go (t := (15, [some (.inr (some a0)), some (.inl x1), some (.inl x2), some (.inl x3), some (.inl x4), z5, z6], [.inl 32, .inl x2], M)) sm_a192_13 rfl rfl (st_bipush (by decide)) ?_
      refine ru_icmp (pc := 15) (p := 24) (p2 := 18) sm_a192_15 (by decide) rfl ⟨fun hc_3 => ?_, fun hc_3 => ?_⟩
      · have h := h.1 hc_3
        exact h
      · have h := h.2 hc_3
        refine ru_go (t := (19, [some (.inr (some a0)), some (.inl x1), some (.inl x2), some (.inl x3), some (.inl x4), z5, z6], [.inl x2], M)) sm_a192_18 rfl rfl rfl ?_
        refine ru_go (t := (21, [some (.inr (some a0)), some (.inl x1), some (.inl x2), some (.inl x3), some (.inl x4), z5, z6], [.inl 64, .inl x2], M)) sm_a192_19 rfl rfl (st_bipush (by decide)) ?_
        refine ru_icmp (pc := 21) (p := 28) (p2 := 24) sm_a192_21 (by decide) rfl ⟨fun hc_4 => ?_, fun hc_4 => ?_⟩
        · have h := h.1 hc_4
          refine ru_go (t := (29, [some (.inr (some a0)), some (.inl x1), some (.inl x2), some (.inl x3), some (.inl x4), z5, z6], [.inl 0], M)) sm_a192_28 rfl rfl (st_iconst (by decide)) ?_
          refine ru_go (t := (31, [some (.inr (some a0)), some (.inl x1), some (.inl x2), some (.inl x3), some (.inl x4), some (.inl 0), z6], [], M)) sm_a192_29 rfl rfl rfl ?_
          refine ru_go (t := (32, [some (.inr (some a0)), some (.inl x1), some (.inl x2), some (.inl x3), some (.inl x4), some (.inl 0), z6], [.inl x1], M)) sm_a192_31 rfl rfl rfl ?_
          refine ru_if (pc := 32) (p := 45) (p2 := 35) sm_a192_32 (by decide) rfl ⟨fun hc_5 => ?_, fun hc_5 => ?_⟩
          · have h := h.1 hc_5
            refine ru_go (t := (46, [some (.inr (some a0)), some (.inl x1), some (.inl x2), some (.inl x3), some (.inl x4), some (.inl 0), z6], [.inl 0], M)) sm_a192_45 rfl rfl (st_iconst (by decide)) ?_
            exact ru_ret sm_a192_46 (sm_rvz rfl (by decide)) h
          · have h := h.2 hc_5
            refine ru_go (t := (36, [some (.inr (some a0)), some (.inl x1), some (.inl x2), some (.inl x3), some (.inl x4), some (.inl 0), z6], [.inl x1], M)) sm_a192_35 rfl rfl rfl ?_
            refine ru_go (t := (37, [some (.inr (some a0)), some (.inl x1), some (.inl x2), some (.inl x3), some (.inl x4), some (.inl 0), z6], [.inl 5, .inl x1], M)) sm_a192_36 rfl rfl (st_iconst (by decide)) ?_
            refine ru_icmp (pc := 37) (p := 45) (p2 := 40) sm_a192_37 (by decide) rfl ⟨fun hc_6 => ?_, fun hc_6 => ?_⟩
            · have h := h.1 hc_6
              refine ru_go (t := (46, [some (.inr (some a0)), some (.inl x1), some (.inl x2), some (.inl x3), some (.inl x4), some (.inl 0), z6], [.inl 0], M)) sm_a192_45 rfl rfl (st_iconst (by decide)) ?_
              exact ru_ret sm_a192_46 (sm_rvz rfl (by decide)) h
            · have h := h.2 hc_6
              refine ru_go (t := (42, [some (.inr (some a0)), some (.inl x1), some (.inl x2), some (.inl x3), some (.inl x4), some (.inl 0), z6], [.inl 0], M)) sm_a192_40 rfl rfl rfl ?_
              refine ru_if (pc := 42) (p := 47) (p2 := 45) sm_a192_42 (by decide) rfl ⟨fun hc => absurd (show ¬ (0 : Int32) = 0 from hc) (by decide), fun _ => ?_⟩
              refine ru_go (t := (46, [some (.inr (some a0)), some (.inl x1), some (.inl x2), some (.inl x3), some (.inl x4), some (.inl 0), z6], [.inl 0], M)) sm_a192_45 rfl rfl (st_iconst (by decide)) ?_
              exact ru_ret sm_a192_46 (sm_rvz rfl (by decide)) h
        · have h := h.2 hc_4
          exact h
theorem bb_192_24 {d : Nat} {M : sm_M} {Q : Option sm_V → sm_M → Prop} {a0 : Nat} {x1 : Int32} {x2 : Int32} {x3 : Int32} {x4 : Int32} {z5 : Option sm_V} {z6 : Option sm_V}
    (h : ((x1 < 0 → Q (some (.inl 0)) M) ∧ (¬ (x1 < 0) → ((5 < x1 → Q (some (.inl 0)) M) ∧ (¬ (5 < x1) → sm_K M a0 = 39 ∧ ∃ b_4, sm_R M a0 4 = some b_4 ∧ sm_iA M b_4 ∧ sm_in_ M b_4 x1 ∧ (((sm_I M b_4 (x1).toNatClampNeg) = 0 → ∃ b_9, sm_R M a0 6 = some b_9 ∧ sm_wA 1 M b_9 ∧ sm_in_ M b_9 x1 ∧ ∃ b_13, sm_R (sm_putI M b_9 (x1).toNatClampNeg x2) a0 7 = some b_13 ∧ sm_wA 1 M b_13 ∧ sm_in_ M b_13 x1 ∧ ∃ b_17, sm_R (sm_putI (sm_putI M b_9 (x1).toNatClampNeg x2) b_13 (x1).toNatClampNeg (x3 &&& 65535)) a0 8 = some b_17 ∧ sm_wA 1 M b_17 ∧ sm_in_ M b_17 x1 ∧ ∃ b_21, sm_R (sm_putI (sm_putI (sm_putI M b_9 (x1).toNatClampNeg x2) b_13 (x1).toNatClampNeg (x3 &&& 65535)) b_17 (x1).toNatClampNeg (x4 &&& 65535)) a0 9 = some b_21 ∧ sm_wA 1 M b_21 ∧ sm_in_ M b_21 x1 ∧ sm_Run d 192 98 [some (.inr (some a0)), some (.inl x1), some (.inl x2), some (.inl x3), some (.inl x4), some (.inl 1), some (.inl 0)] [] (sm_putI (sm_putI (sm_putI (sm_putI M b_9 (x1).toNatClampNeg x2) b_13 (x1).toNatClampNeg (x3 &&& 65535)) b_17 (x1).toNatClampNeg (x4 &&& 65535)) b_21 (x1).toNatClampNeg 0) Q) ∧ (¬ ((sm_I M b_4 (x1).toNatClampNeg) = 0) → Q (some (.inl 0)) M))))))) :
    sm_Run d 192 24 [some (.inr (some a0)), some (.inl x1), some (.inl x2), some (.inl x3), some (.inl x4), z5, z6] [] M Q := by
  refine ru_go (t := (25, [some (.inr (some a0)), some (.inl x1), some (.inl x2), some (.inl x3), some (.inl x4), z5, z6], [.inl 1], M)) sm_a192_24 rfl rfl (st_iconst (by decide)) ?_
  refine ru_go (t := (29, [some (.inr (some a0)), some (.inl x1), some (.inl x2), some (.inl x3), some (.inl x4), z5, z6], [.inl 1], M)) sm_a192_25 rfl rfl (st_goto (pc := 25) (by decide)) ?_
  refine ru_go (t := (31, [some (.inr (some a0)), some (.inl x1), some (.inl x2), some (.inl x3), some (.inl x4), some (.inl 1), z6], [], M)) sm_a192_29 rfl rfl rfl ?_
  refine ru_go (t := (32, [some (.inr (some a0)), some (.inl x1), some (.inl x2), some (.inl x3), some (.inl x4), some (.inl 1), z6], [.inl x1], M)) sm_a192_31 rfl rfl rfl ?_
  refine ru_if (pc := 32) (p := 45) (p2 := 35) sm_a192_32 (by decide) rfl ⟨fun hc_1 => ?_, fun hc_1 => ?_⟩
  · have h := h.1 hc_1
    refine ru_go (t := (46, [some (.inr (some a0)), some (.inl x1), some (.inl x2), some (.inl x3), some (.inl x4), some (.inl 1), z6], [.inl 0], M)) sm_a192_45 rfl rfl (st_iconst (by decide)) ?_
    exact ru_ret sm_a192_46 (sm_rvz rfl (by decide)) h
  · have h := h.2 hc_1
    refine ru_go (t := (36, [some (.inr (some a0)), some (.inl x1), some (.inl x2), some (.inl x3), some (.inl x4), some (.inl 1), z6], [.inl x1], M)) sm_a192_35 rfl rfl rfl ?_
    refine ru_go (t := (37, [some (.inr (some a0)), some (.inl x1), some (.inl x2), some (.inl x3), some (.inl x4), some (.inl 1), z6], [.inl 5, .inl x1], M)) sm_a192_36 rfl rfl (st_iconst (by decide)) ?_
    refine ru_icmp (pc := 37) (p := 45) (p2 := 40) sm_a192_37 (by decide) rfl ⟨fun hc_2 => ?_, fun hc_2 => ?_⟩
    · have h := h.1 hc_2
      refine ru_go (t := (46, [some (.inr (some a0)), some (.inl x1), some (.inl x2), some (.inl x3), some (.inl x4), some (.inl 1), z6], [.inl 0], M)) sm_a192_45 rfl rfl (st_iconst (by decide)) ?_
      exact ru_ret sm_a192_46 (sm_rvz rfl (by decide)) h
    · have h := h.2 hc_2
      refine ru_go (t := (42, [some (.inr (some a0)), some (.inl x1), some (.inl x2), some (.inl x3), some (.inl x4), some (.inl 1), z6], [.inl 1], M)) sm_a192_40 rfl rfl rfl ?_
      refine ru_if (pc := 42) (p := 47) (p2 := 45) sm_a192_42 (by decide) rfl ⟨fun _ => ?_, fun hc => absurd (show sm_cP .ne 1 0 from (by show ¬ (1 : Int32) = 0; decide)) hc⟩
      refine ru_go (t := (48, [some (.inr (some a0)), some (.inl x1), some (.inl x2), some (.inl x3), some (.inl x4), some (.inl 1), z6], [.inr (some a0)], M)) sm_a192_47 rfl rfl rfl ?_
      obtain ⟨h_3, h⟩ := h
      refine ru_go (t := (51, [some (.inr (some a0)), some (.inl x1), some (.inl x2), some (.inl x3), some (.inl x4), some (.inl 1), z6], [.inr (sm_R M a0 4)], M)) sm_a192_48 rfl rfl (st_getR h_3 rfl rfl) ?_
      refine ru_go (t := (52, [some (.inr (some a0)), some (.inl x1), some (.inl x2), some (.inl x3), some (.inl x4), some (.inl 1), z6], [.inl x1, .inr (sm_R M a0 4)], M)) sm_a192_51 rfl rfl rfl ?_
      obtain ⟨b_4, hb_5, h⟩ := h
      rw [hb_5]
      obtain ⟨h_6, h⟩ := h
      obtain ⟨h_7, h⟩ := h
      refine ru_go (t := (53, [some (.inr (some a0)), some (.inl x1), some (.inl x2), some (.inl x3), some (.inl x4), some (.inl 1), z6], [.inl (sm_I M b_4 (x1).toNatClampNeg)], M)) sm_a192_52 rfl rfl (st_iald h_6 h_7) ?_
      refine ru_if (pc := 53) (p := 58) (p2 := 56) sm_a192_53 (by decide) rfl ⟨fun hc_8 => ?_, fun hc_8 => ?_⟩
      · have h := h.1 hc_8
        refine ru_go (t := (59, [some (.inr (some a0)), some (.inl x1), some (.inl x2), some (.inl x3), some (.inl x4), some (.inl 1), z6], [.inr (some a0)], M)) sm_a192_58 rfl rfl rfl ?_
        refine ru_go (t := (62, [some (.inr (some a0)), some (.inl x1), some (.inl x2), some (.inl x3), some (.inl x4), some (.inl 1), z6], [.inr (sm_R M a0 6)], M)) sm_a192_59 rfl rfl (st_getR h_3 rfl rfl) ?_
        refine ru_go (t := (63, [some (.inr (some a0)), some (.inl x1), some (.inl x2), some (.inl x3), some (.inl x4), some (.inl 1), z6], [.inl x1, .inr (sm_R M a0 6)], M)) sm_a192_62 rfl rfl rfl ?_
        refine ru_go (t := (64, [some (.inr (some a0)), some (.inl x1), some (.inl x2), some (.inl x3), some (.inl x4), some (.inl 1), z6], [.inl x2, .inl x1, .inr (sm_R M a0 6)], M)) sm_a192_63 rfl rfl rfl ?_
        obtain ⟨b_9, hb_10, h⟩ := h
        rw [hb_10]
        obtain ⟨h_11, h⟩ := h
        obtain ⟨h_12, h⟩ := h
        refine ru_go (t := (65, [some (.inr (some a0)), some (.inl x1), some (.inl x2), some (.inl x3), some (.inl x4), some (.inl 1), z6], [], sm_putI M b_9 (x1).toNatClampNeg x2)) sm_a192_64 rfl rfl (st_iast h_11 h_12) ?_
        refine ru_go (t := (66, [some (.inr (some a0)), some (.inl x1), some (.inl x2), some (.inl x3), some (.inl x4), some (.inl 1), z6], [.inr (some a0)], sm_putI M b_9 (x1).toNatClampNeg x2)) sm_a192_65 rfl rfl rfl ?_
        refine ru_go (t := (69, [some (.inr (some a0)), some (.inl x1), some (.inl x2), some (.inl x3), some (.inl x4), some (.inl 1), z6], [.inr (sm_R (sm_putI M b_9 (x1).toNatClampNeg x2) a0 7)], sm_putI M b_9 (x1).toNatClampNeg x2)) sm_a192_66 rfl rfl (st_getR h_3 rfl rfl) ?_
        refine ru_go (t := (70, [some (.inr (some a0)), some (.inl x1), some (.inl x2), some (.inl x3), some (.inl x4), some (.inl 1), z6], [.inl x1, .inr (sm_R (sm_putI M b_9 (x1).toNatClampNeg x2) a0 7)], sm_putI M b_9 (x1).toNatClampNeg x2)) sm_a192_69 rfl rfl rfl ?_
        refine ru_go (t := (71, [some (.inr (some a0)), some (.inl x1), some (.inl x2), some (.inl x3), some (.inl x4), some (.inl 1), z6], [.inl x3, .inl x1, .inr (sm_R (sm_putI M b_9 (x1).toNatClampNeg x2) a0 7)], sm_putI M b_9 (x1).toNatClampNeg x2)) sm_a192_70 rfl rfl rfl ?_
        refine ru_go (t := (74, [some (.inr (some a0)), some (.inl x1), some (.inl x2), some (.inl x3), some (.inl x4), some (.inl 1), z6], [.inl 65535, .inl x3, .inl x1, .inr (sm_R (sm_putI M b_9 (x1).toNatClampNeg x2) a0 7)], sm_putI M b_9 (x1).toNatClampNeg x2)) sm_a192_71 rfl rfl (st_ldc_w (by decide)) ?_
        refine ru_go (t := (75, [some (.inr (some a0)), some (.inl x1), some (.inl x2), some (.inl x3), some (.inl x4), some (.inl 1), z6], [.inl (x3 &&& 65535), .inl x1, .inr (sm_R (sm_putI M b_9 (x1).toNatClampNeg x2) a0 7)], sm_putI M b_9 (x1).toNatClampNeg x2)) sm_a192_74 rfl rfl rfl ?_
        obtain ⟨b_13, hb_14, h⟩ := h
        rw [hb_14]
        obtain ⟨h_15, h⟩ := h
        obtain ⟨h_16, h⟩ := h
        refine ru_go (t := (76, [some (.inr (some a0)), some (.inl x1), some (.inl x2), some (.inl x3), some (.inl x4), some (.inl 1), z6], [], sm_putI (sm_putI M b_9 (x1).toNatClampNeg x2) b_13 (x1).toNatClampNeg (x3 &&& 65535))) sm_a192_75 rfl rfl (st_iast h_15 h_16) ?_
        refine ru_go (t := (77, [some (.inr (some a0)), some (.inl x1), some (.inl x2), some (.inl x3), some (.inl x4), some (.inl 1), z6], [.inr (some a0)], sm_putI (sm_putI M b_9 (x1).toNatClampNeg x2) b_13 (x1).toNatClampNeg (x3 &&& 65535))) sm_a192_76 rfl rfl rfl ?_
        refine ru_go (t := (80, [some (.inr (some a0)), some (.inl x1), some (.inl x2), some (.inl x3), some (.inl x4), some (.inl 1), z6], [.inr (sm_R (sm_putI (sm_putI M b_9 (x1).toNatClampNeg x2) b_13 (x1).toNatClampNeg (x3 &&& 65535)) a0 8)], sm_putI (sm_putI M b_9 (x1).toNatClampNeg x2) b_13 (x1).toNatClampNeg (x3 &&& 65535))) sm_a192_77 rfl rfl (st_getR h_3 rfl rfl) ?_
        refine ru_go (t := (81, [some (.inr (some a0)), some (.inl x1), some (.inl x2), some (.inl x3), some (.inl x4), some (.inl 1), z6], [.inl x1, .inr (sm_R (sm_putI (sm_putI M b_9 (x1).toNatClampNeg x2) b_13 (x1).toNatClampNeg (x3 &&& 65535)) a0 8)], sm_putI (sm_putI M b_9 (x1).toNatClampNeg x2) b_13 (x1).toNatClampNeg (x3 &&& 65535))) sm_a192_80 rfl rfl rfl ?_
        refine ru_go (t := (83, [some (.inr (some a0)), some (.inl x1), some (.inl x2), some (.inl x3), some (.inl x4), some (.inl 1), z6], [.inl x4, .inl x1, .inr (sm_R (sm_putI (sm_putI M b_9 (x1).toNatClampNeg x2) b_13 (x1).toNatClampNeg (x3 &&& 65535)) a0 8)], sm_putI (sm_putI M b_9 (x1).toNatClampNeg x2) b_13 (x1).toNatClampNeg (x3 &&& 65535))) sm_a192_81 rfl rfl rfl ?_
        refine ru_go (t := (86, [some (.inr (some a0)), some (.inl x1), some (.inl x2), some (.inl x3), some (.inl x4), some (.inl 1), z6], [.inl 65535, .inl x4, .inl x1, .inr (sm_R (sm_putI (sm_putI M b_9 (x1).toNatClampNeg x2) b_13 (x1).toNatClampNeg (x3 &&& 65535)) a0 8)], sm_putI (sm_putI M b_9 (x1).toNatClampNeg x2) b_13 (x1).toNatClampNeg (x3 &&& 65535))) sm_a192_83 rfl rfl (st_ldc_w (by decide)) ?_
        refine ru_go (t := (87, [some (.inr (some a0)), some (.inl x1), some (.inl x2), some (.inl x3), some (.inl x4), some (.inl 1), z6], [.inl (x4 &&& 65535), .inl x1, .inr (sm_R (sm_putI (sm_putI M b_9 (x1).toNatClampNeg x2) b_13 (x1).toNatClampNeg (x3 &&& 65535)) a0 8)], sm_putI (sm_putI M b_9 (x1).toNatClampNeg x2) b_13 (x1).toNatClampNeg (x3 &&& 65535))) sm_a192_86 rfl rfl rfl ?_
        obtain ⟨b_17, hb_18, h⟩ := h
        rw [hb_18]
        obtain ⟨h_19, h⟩ := h
        obtain ⟨h_20, h⟩ := h
        refine ru_go (t := (88, [some (.inr (some a0)), some (.inl x1), some (.inl x2), some (.inl x3), some (.inl x4), some (.inl 1), z6], [], sm_putI (sm_putI (sm_putI M b_9 (x1).toNatClampNeg x2) b_13 (x1).toNatClampNeg (x3 &&& 65535)) b_17 (x1).toNatClampNeg (x4 &&& 65535))) sm_a192_87 rfl rfl (st_iast h_19 h_20) ?_
        refine ru_go (t := (89, [some (.inr (some a0)), some (.inl x1), some (.inl x2), some (.inl x3), some (.inl x4), some (.inl 1), z6], [.inr (some a0)], sm_putI (sm_putI (sm_putI M b_9 (x1).toNatClampNeg x2) b_13 (x1).toNatClampNeg (x3 &&& 65535)) b_17 (x1).toNatClampNeg (x4 &&& 65535))) sm_a192_88 rfl rfl rfl ?_
        refine ru_go (t := (92, [some (.inr (some a0)), some (.inl x1), some (.inl x2), some (.inl x3), some (.inl x4), some (.inl 1), z6], [.inr (sm_R (sm_putI (sm_putI (sm_putI M b_9 (x1).toNatClampNeg x2) b_13 (x1).toNatClampNeg (x3 &&& 65535)) b_17 (x1).toNatClampNeg (x4 &&& 65535)) a0 9)], sm_putI (sm_putI (sm_putI M b_9 (x1).toNatClampNeg x2) b_13 (x1).toNatClampNeg (x3 &&& 65535)) b_17 (x1).toNatClampNeg (x4 &&& 65535))) sm_a192_89 rfl rfl (st_getR h_3 rfl rfl) ?_
        refine ru_go (t := (93, [some (.inr (some a0)), some (.inl x1), some (.inl x2), some (.inl x3), some (.inl x4), some (.inl 1), z6], [.inl x1, .inr (sm_R (sm_putI (sm_putI (sm_putI M b_9 (x1).toNatClampNeg x2) b_13 (x1).toNatClampNeg (x3 &&& 65535)) b_17 (x1).toNatClampNeg (x4 &&& 65535)) a0 9)], sm_putI (sm_putI (sm_putI M b_9 (x1).toNatClampNeg x2) b_13 (x1).toNatClampNeg (x3 &&& 65535)) b_17 (x1).toNatClampNeg (x4 &&& 65535))) sm_a192_92 rfl rfl rfl ?_
        refine ru_go (t := (94, [some (.inr (some a0)), some (.inl x1), some (.inl x2), some (.inl x3), some (.inl x4), some (.inl 1), z6], [.inl 0, .inl x1, .inr (sm_R (sm_putI (sm_putI (sm_putI M b_9 (x1).toNatClampNeg x2) b_13 (x1).toNatClampNeg (x3 &&& 65535)) b_17 (x1).toNatClampNeg (x4 &&& 65535)) a0 9)], sm_putI (sm_putI (sm_putI M b_9 (x1).toNatClampNeg x2) b_13 (x1).toNatClampNeg (x3 &&& 65535)) b_17 (x1).toNatClampNeg (x4 &&& 65535))) sm_a192_93 rfl rfl (st_iconst (by decide)) ?_
        obtain ⟨b_21, hb_22, h⟩ := h
        rw [hb_22]
        obtain ⟨h_23, h⟩ := h
        obtain ⟨h_24, h⟩ := h
        refine ru_go (t := (95, [some (.inr (some a0)), some (.inl x1), some (.inl x2), some (.inl x3), some (.inl x4), some (.inl 1), z6], [], sm_putI (sm_putI (sm_putI (sm_putI M b_9 (x1).toNatClampNeg x2) b_13 (x1).toNatClampNeg (x3 &&& 65535)) b_17 (x1).toNatClampNeg (x4 &&& 65535)) b_21 (x1).toNatClampNeg 0)) sm_a192_94 rfl rfl (st_iast h_23 h_24) ?_
        refine ru_go (t := (96, [some (.inr (some a0)), some (.inl x1), some (.inl x2), some (.inl x3), some (.inl x4), some (.inl 1), z6], [.inl 0], sm_putI (sm_putI (sm_putI (sm_putI M b_9 (x1).toNatClampNeg x2) b_13 (x1).toNatClampNeg (x3 &&& 65535)) b_17 (x1).toNatClampNeg (x4 &&& 65535)) b_21 (x1).toNatClampNeg 0)) sm_a192_95 rfl rfl (st_iconst (by decide)) ?_
        refine ru_go (t := (98, [some (.inr (some a0)), some (.inl x1), some (.inl x2), some (.inl x3), some (.inl x4), some (.inl 1), some (.inl 0)], [], sm_putI (sm_putI (sm_putI (sm_putI M b_9 (x1).toNatClampNeg x2) b_13 (x1).toNatClampNeg (x3 &&& 65535)) b_17 (x1).toNatClampNeg (x4 &&& 65535)) b_21 (x1).toNatClampNeg 0)) sm_a192_96 rfl rfl rfl ?_
        exact h
      · have h := h.2 hc_8
        refine ru_go (t := (57, [some (.inr (some a0)), some (.inl x1), some (.inl x2), some (.inl x3), some (.inl x4), some (.inl 1), z6], [.inl 0], M)) sm_a192_56 rfl rfl (st_iconst (by decide)) ?_
        exact ru_ret sm_a192_57 (sm_rvz rfl (by decide)) h
theorem bb_192_98 {d : Nat} {M : sm_M} {Q : Option sm_V → sm_M → Prop} {a0 : Nat} {x1 : Int32} {x2 : Int32} {x3 : Int32} {x4 : Int32} {x5 : Int32} {x6 : Int32}
    (h : ((64 ≤ x6 → Q (some (.inl 1)) M) ∧ (¬ (64 ≤ x6) → sm_K M a0 = 39 ∧ ∃ b_3, sm_R M a0 18 = some b_3 ∧ sm_wA 1 M b_3 ∧ sm_in_ M b_3 ((64 * x1) + x6) ∧ sm_Run d 192 98 [some (.inr (some a0)), some (.inl x1), some (.inl x2), some (.inl x3), some (.inl x4), some (.inl x5), some (.inl (x6 + 1))] [] (sm_putI M b_3 ((64 * x1) + x6).toNatClampNeg 0) Q))) :
    sm_Run d 192 98 [some (.inr (some a0)), some (.inl x1), some (.inl x2), some (.inl x3), some (.inl x4), some (.inl x5), some (.inl x6)] [] M Q := by
  refine ru_go (t := (100, [some (.inr (some a0)), some (.inl x1), some (.inl x2), some (.inl x3), some (.inl x4), some (.inl x5), some (.inl x6)], [.inl x6], M)) sm_a192_98 rfl rfl rfl ?_
  refine ru_go (t := (102, [some (.inr (some a0)), some (.inl x1), some (.inl x2), some (.inl x3), some (.inl x4), some (.inl x5), some (.inl x6)], [.inl 64, .inl x6], M)) sm_a192_100 rfl rfl (st_bipush (by decide)) ?_
  refine ru_icmp (pc := 102) (p := 124) (p2 := 105) sm_a192_102 (by decide) rfl ⟨fun hc_1 => ?_, fun hc_1 => ?_⟩
  · have h := h.1 hc_1
    refine ru_go (t := (125, [some (.inr (some a0)), some (.inl x1), some (.inl x2), some (.inl x3), some (.inl x4), some (.inl x5), some (.inl x6)], [.inl 1], M)) sm_a192_124 rfl rfl (st_iconst (by decide)) ?_
    exact ru_ret sm_a192_125 (sm_rvz rfl (by decide)) h
  · have h := h.2 hc_1
    refine ru_go (t := (106, [some (.inr (some a0)), some (.inl x1), some (.inl x2), some (.inl x3), some (.inl x4), some (.inl x5), some (.inl x6)], [.inr (some a0)], M)) sm_a192_105 rfl rfl rfl ?_
    obtain ⟨h_2, h⟩ := h
    refine ru_go (t := (109, [some (.inr (some a0)), some (.inl x1), some (.inl x2), some (.inl x3), some (.inl x4), some (.inl x5), some (.inl x6)], [.inr (sm_R M a0 18)], M)) sm_a192_106 rfl rfl (st_getR h_2 rfl rfl) ?_
    refine ru_go (t := (111, [some (.inr (some a0)), some (.inl x1), some (.inl x2), some (.inl x3), some (.inl x4), some (.inl x5), some (.inl x6)], [.inl 64, .inr (sm_R M a0 18)], M)) sm_a192_109 rfl rfl (st_bipush (by decide)) ?_
    refine ru_go (t := (112, [some (.inr (some a0)), some (.inl x1), some (.inl x2), some (.inl x3), some (.inl x4), some (.inl x5), some (.inl x6)], [.inl x1, .inl 64, .inr (sm_R M a0 18)], M)) sm_a192_111 rfl rfl rfl ?_
    refine ru_go (t := (113, [some (.inr (some a0)), some (.inl x1), some (.inl x2), some (.inl x3), some (.inl x4), some (.inl x5), some (.inl x6)], [.inl (64 * x1), .inr (sm_R M a0 18)], M)) sm_a192_112 rfl rfl rfl ?_
    refine ru_go (t := (115, [some (.inr (some a0)), some (.inl x1), some (.inl x2), some (.inl x3), some (.inl x4), some (.inl x5), some (.inl x6)], [.inl x6, .inl (64 * x1), .inr (sm_R M a0 18)], M)) sm_a192_113 rfl rfl rfl ?_
    refine ru_go (t := (116, [some (.inr (some a0)), some (.inl x1), some (.inl x2), some (.inl x3), some (.inl x4), some (.inl x5), some (.inl x6)], [.inl ((64 * x1) + x6), .inr (sm_R M a0 18)], M)) sm_a192_115 rfl rfl rfl ?_
    refine ru_go (t := (117, [some (.inr (some a0)), some (.inl x1), some (.inl x2), some (.inl x3), some (.inl x4), some (.inl x5), some (.inl x6)], [.inl 0, .inl ((64 * x1) + x6), .inr (sm_R M a0 18)], M)) sm_a192_116 rfl rfl (st_iconst (by decide)) ?_
    obtain ⟨b_3, hb_4, h⟩ := h
    rw [hb_4]
    obtain ⟨h_5, h⟩ := h
    obtain ⟨h_6, h⟩ := h
    refine ru_go (t := (118, [some (.inr (some a0)), some (.inl x1), some (.inl x2), some (.inl x3), some (.inl x4), some (.inl x5), some (.inl x6)], [], sm_putI M b_3 ((64 * x1) + x6).toNatClampNeg 0)) sm_a192_117 rfl rfl (st_iast h_5 h_6) ?_
    refine ru_go (t := (121, [some (.inr (some a0)), some (.inl x1), some (.inl x2), some (.inl x3), some (.inl x4), some (.inl x5), some (.inl (x6 + 1))], [], sm_putI M b_3 ((64 * x1) + x6).toNatClampNeg 0)) sm_a192_118 rfl rfl (st_iinc rfl (by decide)) ?_
    refine ru_go (t := (98, [some (.inr (some a0)), some (.inl x1), some (.inl x2), some (.inl x3), some (.inl x4), some (.inl x5), some (.inl (x6 + 1))], [], sm_putI M b_3 ((64 * x1) + x6).toNatClampNeg 0)) sm_a192_121 rfl rfl (st_goto (pc := 121) (by decide)) ?_
    exact h

/-! WireBusModel.endpoint:(IIII)Z -/
theorem sm_a193_0 : sm_at 193 0 = some (.iload_n 2, 1, (0, 0, 0, 0)) := by decide +kernel
theorem sm_a193_1 : sm_at 193 1 = some (.sipush 129, 3, (0, 0, 0, 0)) := by decide +kernel
theorem sm_a193_4 : sm_at 193 4 = some (.if_icmp .lt 14, 3, (0, 0, 0, 0)) := by decide +kernel
theorem sm_a193_7 : sm_at 193 7 = some (.iload_n 2, 1, (0, 0, 0, 0)) := by decide +kernel
theorem sm_a193_8 : sm_at 193 8 = some (.sipush 135, 3, (0, 0, 0, 0)) := by decide +kernel
theorem sm_a193_11 : sm_at 193 11 = some (.if_icmp .gt 7, 3, (0, 0, 0, 0)) := by decide +kernel
theorem sm_a193_14 : sm_at 193 14 = some (.iconst 1, 1, (0, 0, 0, 0)) := by decide +kernel
theorem sm_a193_15 : sm_at 193 15 = some (.goto 4, 3, (0, 0, 0, 0)) := by decide +kernel
theorem sm_a193_18 : sm_at 193 18 = some (.iconst 0, 1, (0, 0, 0, 0)) := by decide +kernel
theorem sm_a193_19 : sm_at 193 19 = some (.istore 5, 2, (0, 0, 0, 0)) := by decide +kernel
theorem sm_a193_21 : sm_at 193 21 = some (.iload 4, 2, (0, 0, 0, 0)) := by decide +kernel
theorem sm_a193_23 : sm_at 193 23 = some (.ifCond .ne 35, 3, (0, 0, 0, 0)) := by decide +kernel
theorem sm_a193_26 : sm_at 193 26 = some (.iload_n 3, 1, (0, 0, 0, 0)) := by decide +kernel
theorem sm_a193_27 : sm_at 193 27 = some (.bipush 8, 2, (0, 0, 0, 0)) := by decide +kernel
theorem sm_a193_29 : sm_at 193 29 = some (.if_icmp .eq 21, 3, (0, 0, 0, 0)) := by decide +kernel
theorem sm_a193_32 : sm_at 193 32 = some (.iload_n 3, 1, (0, 0, 0, 0)) := by decide +kernel
theorem sm_a193_33 : sm_at 193 33 = some (.bipush 16, 2, (0, 0, 0, 0)) := by decide +kernel
theorem sm_a193_35 : sm_at 193 35 = some (.if_icmp .eq 15, 3, (0, 0, 0, 0)) := by decide +kernel
theorem sm_a193_38 : sm_at 193 38 = some (.iload_n 3, 1, (0, 0, 0, 0)) := by decide +kernel
theorem sm_a193_39 : sm_at 193 39 = some (.bipush 32, 2, (0, 0, 0, 0)) := by decide +kernel
theorem sm_a193_41 : sm_at 193 41 = some (.if_icmp .eq 9, 3, (0, 0, 0, 0)) := by decide +kernel
theorem sm_a193_44 : sm_at 193 44 = some (.iload_n 3, 1, (0, 0, 0, 0)) := by decide +kernel
theorem sm_a193_45 : sm_at 193 45 = some (.bipush 64, 2, (0, 0, 0, 0)) := by decide +kernel
theorem sm_a193_47 : sm_at 193 47 = some (.if_icmp .ne 7, 3, (0, 0, 0, 0)) := by decide +kernel
theorem sm_a193_50 : sm_at 193 50 = some (.iconst 1, 1, (0, 0, 0, 0)) := by decide +kernel
theorem sm_a193_51 : sm_at 193 51 = some (.goto 40, 3, (0, 0, 0, 0)) := by decide +kernel
theorem sm_a193_54 : sm_at 193 54 = some (.iconst 0, 1, (0, 0, 0, 0)) := by decide +kernel
theorem sm_a193_55 : sm_at 193 55 = some (.goto 36, 3, (0, 0, 0, 0)) := by decide +kernel
theorem sm_a193_58 : sm_at 193 58 = some (.iload 4, 2, (0, 0, 0, 0)) := by decide +kernel
theorem sm_a193_60 : sm_at 193 60 = some (.ifCond .le 30, 3, (0, 0, 0, 0)) := by decide +kernel
theorem sm_a193_63 : sm_at 193 63 = some (.iload 4, 2, (0, 0, 0, 0)) := by decide +kernel
theorem sm_a193_65 : sm_at 193 65 = some (.sipush 256, 3, (0, 0, 0, 0)) := by decide +kernel
theorem sm_a193_68 : sm_at 193 68 = some (.if_icmp .ge 22, 3, (0, 0, 0, 0)) := by decide +kernel
theorem sm_a193_71 : sm_at 193 71 = some (.iload 5, 2, (0, 0, 0, 0)) := by decide +kernel
theorem sm_a193_73 : sm_at 193 73 = some (.ifCond .eq 17, 3, (0, 0, 0, 0)) := by decide +kernel
theorem sm_a193_76 : sm_at 193 76 = some (.iload_n 3, 1, (0, 0, 0, 0)) := by decide +kernel
theorem sm_a193_77 : sm_at 193 77 = some (.ifCond .le 13, 3, (0, 0, 0, 0)) := by decide +kernel
theorem sm_a193_80 : sm_at 193 80 = some (.iload_n 3, 1, (0, 0, 0, 0)) := by decide +kernel
theorem sm_a193_81 : sm_at 193 81 = some (.bipush 65, 2, (0, 0, 0, 0)) := by decide +kernel
theorem sm_a193_83 : sm_at 193 83 = some (.if_icmp .ge 7, 3, (0, 0, 0, 0)) := by decide +kernel
theorem sm_a193_86 : sm_at 193 86 = some (.iconst 1, 1, (0, 0, 0, 0)) := by decide +kernel
theorem sm_a193_87 : sm_at 193 87 = some (.goto 4, 3, (0, 0, 0, 0)) := by decide +kernel
theorem sm_a193_90 : sm_at 193 90 = some (.iconst 0, 1, (0, 0, 0, 0)) := by decide +kernel
theorem sm_a193_91 : sm_at 193 91 = some (.istore 6, 2, (0, 0, 0, 0)) := by decide +kernel
theorem sm_a193_93 : sm_at 193 93 = some (.iload_n 1, 1, (0, 0, 0, 0)) := by decide +kernel
theorem sm_a193_94 : sm_at 193 94 = some (.ifCond .lt 29, 3, (0, 0, 0, 0)) := by decide +kernel
theorem sm_a193_97 : sm_at 193 97 = some (.iload_n 1, 1, (0, 0, 0, 0)) := by decide +kernel
theorem sm_a193_98 : sm_at 193 98 = some (.iconst 5, 1, (0, 0, 0, 0)) := by decide +kernel
theorem sm_a193_99 : sm_at 193 99 = some (.if_icmp .gt 24, 3, (0, 0, 0, 0)) := by decide +kernel
theorem sm_a193_102 : sm_at 193 102 = some (.iload 5, 2, (0, 0, 0, 0)) := by decide +kernel
theorem sm_a193_104 : sm_at 193 104 = some (.ifCond .ne 14, 3, (0, 0, 0, 0)) := by decide +kernel
theorem sm_a193_107 : sm_at 193 107 = some (.iload_n 2, 1, (0, 0, 0, 0)) := by decide +kernel
theorem sm_a193_108 : sm_at 193 108 = some (.iconst 1, 1, (0, 0, 0, 0)) := by decide +kernel
theorem sm_a193_109 : sm_at 193 109 = some (.if_icmp .lt 14, 3, (0, 0, 0, 0)) := by decide +kernel
theorem sm_a193_112 : sm_at 193 112 = some (.iload_n 2, 1, (0, 0, 0, 0)) := by decide +kernel
theorem sm_a193_113 : sm_at 193 113 = some (.bipush 7, 2, (0, 0, 0, 0)) := by decide +kernel
theorem sm_a193_115 : sm_at 193 115 = some (.if_icmp .gt 8, 3, (0, 0, 0, 0)) := by decide +kernel
theorem sm_a193_118 : sm_at 193 118 = some (.iload 6, 2, (0, 0, 0, 0)) := by decide +kernel
theorem sm_a193_120 : sm_at 193 120 = some (.ifCond .ne 5, 3, (0, 0, 0, 0)) := by decide +kernel
theorem sm_a193_123 : sm_at 193 123 = some (.iconst 0, 1, (0, 0, 0, 0)) := by decide +kernel
theorem sm_a193_124 : sm_at 193 124 = some (.ireturn, 1, (0, 0, 0, 0)) := by decide +kernel
theorem sm_a193_125 : sm_at 193 125 = some (.aload_n 0, 1, (0, 0, 0, 0)) := by decide +kernel
theorem sm_a193_126 : sm_at 193 126 = some (.getfield 16, 3, (12, 4, 0, 1187)) := by decide +kernel
theorem sm_a193_129 : sm_at 193 129 = some (.iload_n 1, 1, (0, 0, 0, 0)) := by decide +kernel
theorem sm_a193_130 : sm_at 193 130 = some (.iaload, 1, (0, 0, 0, 0)) := by decide +kernel
theorem sm_a193_131 : sm_at 193 131 = some (.ifCond .ne 24, 3, (0, 0, 0, 0)) := by decide +kernel
theorem sm_a193_134 : sm_at 193 134 = some (.aload_n 0, 1, (0, 0, 0, 0)) := by decide +kernel
theorem sm_a193_135 : sm_at 193 135 = some (.getfield 31, 3, (12, 9, 0, 1192)) := by decide +kernel
theorem sm_a193_138 : sm_at 193 138 = some (.iload_n 1, 1, (0, 0, 0, 0)) := by decide +kernel
theorem sm_a193_139 : sm_at 193 139 = some (.iaload, 1, (0, 0, 0, 0)) := by decide +kernel
theorem sm_a193_140 : sm_at 193 140 = some (.bipush 6, 2, (0, 0, 0, 0)) := by decide +kernel
theorem sm_a193_142 : sm_at 193 142 = some (.if_icmp .eq 13, 3, (0, 0, 0, 0)) := by decide +kernel
theorem sm_a193_145 : sm_at 193 145 = some (.aload_n 0, 1, (0, 0, 0, 0)) := by decide +kernel
theorem sm_a193_146 : sm_at 193 146 = some (.iload_n 1, 1, (0, 0, 0, 0)) := by decide +kernel
theorem sm_a193_147 : sm_at 193 147 = some (.iload_n 2, 1, (0, 0, 0, 0)) := by decide +kernel
theorem sm_a193_148 : sm_at 193 148 = some (.invokevirtual 296, 3, (10, 155, 12, 1470)) := by decide +kernel
theorem sm_a193_151 : sm_at 193 151 = some (.iconst (-1), 1, (0, 0, 0, 0)) := by decide +kernel
theorem sm_a193_152 : sm_at 193 152 = some (.if_icmp .eq 5, 3, (0, 0, 0, 0)) := by decide +kernel
theorem sm_a193_155 : sm_at 193 155 = some (.iconst 0, 1, (0, 0, 0, 0)) := by decide +kernel
theorem sm_a193_156 : sm_at 193 156 = some (.ireturn, 1, (0, 0, 0, 0)) := by decide +kernel
theorem sm_a193_157 : sm_at 193 157 = some (.bipush 6, 2, (0, 0, 0, 0)) := by decide +kernel
theorem sm_a193_159 : sm_at 193 159 = some (.iload_n 1, 1, (0, 0, 0, 0)) := by decide +kernel
theorem sm_a193_160 : sm_at 193 160 = some (.imul, 1, (0, 0, 0, 0)) := by decide +kernel
theorem sm_a193_161 : sm_at 193 161 = some (.aload_n 0, 1, (0, 0, 0, 0)) := by decide +kernel
theorem sm_a193_162 : sm_at 193 162 = some (.getfield 31, 3, (12, 9, 0, 1192)) := by decide +kernel
theorem sm_a193_165 : sm_at 193 165 = some (.iload_n 1, 1, (0, 0, 0, 0)) := by decide +kernel
theorem sm_a193_166 : sm_at 193 166 = some (.iaload, 1, (0, 0, 0, 0)) := by decide +kernel
theorem sm_a193_167 : sm_at 193 167 = some (.iadd, 1, (0, 0, 0, 0)) := by decide +kernel
theorem sm_a193_168 : sm_at 193 168 = some (.istore 7, 2, (0, 0, 0, 0)) := by decide +kernel
theorem sm_a193_170 : sm_at 193 170 = some (.aload_n 0, 1, (0, 0, 0, 0)) := by decide +kernel
theorem sm_a193_171 : sm_at 193 171 = some (.getfield 31, 3, (12, 9, 0, 1192)) := by decide +kernel
theorem sm_a193_174 : sm_at 193 174 = some (.iload_n 1, 1, (0, 0, 0, 0)) := by decide +kernel
theorem sm_a193_175 : sm_at 193 175 = some (.dup2, 1, (0, 0, 0, 0)) := by decide +kernel
theorem sm_a193_176 : sm_at 193 176 = some (.iaload, 1, (0, 0, 0, 0)) := by decide +kernel
theorem sm_a193_177 : sm_at 193 177 = some (.iconst 1, 1, (0, 0, 0, 0)) := by decide +kernel
theorem sm_a193_178 : sm_at 193 178 = some (.iadd, 1, (0, 0, 0, 0)) := by decide +kernel
theorem sm_a193_179 : sm_at 193 179 = some (.iastore, 1, (1, 0, 0, 0)) := by decide +kernel
theorem sm_a193_180 : sm_at 193 180 = some (.aload_n 0, 1, (0, 0, 0, 0)) := by decide +kernel
theorem sm_a193_181 : sm_at 193 181 = some (.getfield 34, 3, (12, 10, 0, 1193)) := by decide +kernel
theorem sm_a193_184 : sm_at 193 184 = some (.iload 7, 2, (0, 0, 0, 0)) := by decide +kernel
theorem sm_a193_186 : sm_at 193 186 = some (.iload_n 2, 1, (0, 0, 0, 0)) := by decide +kernel
theorem sm_a193_187 : sm_at 193 187 = some (.iastore, 1, (1, 0, 0, 0)) := by decide +kernel
theorem sm_a193_188 : sm_at 193 188 = some (.aload_n 0, 1, (0, 0, 0, 0)) := by decide +kernel
theorem sm_a193_189 : sm_at 193 189 = some (.getfield 37, 3, (12, 11, 0, 1194)) := by decide +kernel
theorem sm_a193_192 : sm_at 193 192 = some (.iload 7, 2, (0, 0, 0, 0)) := by decide +kernel
theorem sm_a193_194 : sm_at 193 194 = some (.iload_n 3, 1, (0, 0, 0, 0)) := by decide +kernel
theorem sm_a193_195 : sm_at 193 195 = some (.iastore, 1, (1, 0, 0, 0)) := by decide +kernel
theorem sm_a193_196 : sm_at 193 196 = some (.aload_n 0, 1, (0, 0, 0, 0)) := by decide +kernel
theorem sm_a193_197 : sm_at 193 197 = some (.getfield 40, 3, (12, 12, 0, 1195)) := by decide +kernel
theorem sm_a193_200 : sm_at 193 200 = some (.iload 7, 2, (0, 0, 0, 0)) := by decide +kernel
theorem sm_a193_202 : sm_at 193 202 = some (.iload 4, 2, (0, 0, 0, 0)) := by decide +kernel
theorem sm_a193_204 : sm_at 193 204 = some (.iastore, 1, (1, 0, 0, 0)) := by decide +kernel
theorem sm_a193_205 : sm_at 193 205 = some (.aload_n 0, 1, (0, 0, 0, 0)) := by decide +kernel
theorem sm_a193_206 : sm_at 193 206 = some (.getfield 43, 3, (12, 13, 0, 1196)) := by decide +kernel
theorem sm_a193_209 : sm_at 193 209 = some (.iload 7, 2, (0, 0, 0, 0)) := by decide +kernel
theorem sm_a193_211 : sm_at 193 211 = some (.iconst 0, 1, (0, 0, 0, 0)) := by decide +kernel
theorem sm_a193_212 : sm_at 193 212 = some (.iastore, 1, (1, 0, 0, 0)) := by decide +kernel
theorem sm_a193_213 : sm_at 193 213 = some (.aload_n 0, 1, (0, 0, 0, 0)) := by decide +kernel
theorem sm_a193_214 : sm_at 193 214 = some (.getfield 46, 3, (12, 14, 0, 1197)) := by decide +kernel
theorem sm_a193_217 : sm_at 193 217 = some (.iload 7, 2, (0, 0, 0, 0)) := by decide +kernel
theorem sm_a193_219 : sm_at 193 219 = some (.iconst 0, 1, (0, 0, 0, 0)) := by decide +kernel
theorem sm_a193_220 : sm_at 193 220 = some (.bastore, 1, (1, 0, 0, 0)) := by decide +kernel
theorem sm_a193_221 : sm_at 193 221 = some (.aload_n 0, 1, (0, 0, 0, 0)) := by decide +kernel
theorem sm_a193_222 : sm_at 193 222 = some (.getfield 50, 3, (12, 15, 0, 1198)) := by decide +kernel
theorem sm_a193_225 : sm_at 193 225 = some (.iload 7, 2, (0, 0, 0, 0)) := by decide +kernel
theorem sm_a193_227 : sm_at 193 227 = some (.iconst 0, 1, (0, 0, 0, 0)) := by decide +kernel
theorem sm_a193_228 : sm_at 193 228 = some (.iastore, 1, (1, 0, 0, 0)) := by decide +kernel
theorem sm_a193_229 : sm_at 193 229 = some (.aload_n 0, 1, (0, 0, 0, 0)) := by decide +kernel
theorem sm_a193_230 : sm_at 193 230 = some (.getfield 53, 3, (12, 16, 0, 1199)) := by decide +kernel
theorem sm_a193_233 : sm_at 193 233 = some (.iload 7, 2, (0, 0, 0, 0)) := by decide +kernel
theorem sm_a193_235 : sm_at 193 235 = some (.iconst (-1), 1, (0, 0, 0, 0)) := by decide +kernel
theorem sm_a193_236 : sm_at 193 236 = some (.iastore, 1, (1, 0, 0, 0)) := by decide +kernel
theorem sm_a193_237 : sm_at 193 237 = some (.iconst 1, 1, (0, 0, 0, 0)) := by decide +kernel
theorem sm_a193_238 : sm_at 193 238 = some (.ireturn, 1, (0, 0, 0, 0)) := by decide +kernel
theorem bb_193_0 {d : Nat} {M : sm_M} {Q : Option sm_V → sm_M → Prop} {a0 : Nat} {x1 : Int32} {x2 : Int32} {x3 : Int32} {x4 : Int32} {z5 : Option sm_V} {z6 : Option sm_V} {z7 : Option sm_V}
    (h : ((x2 < 129 → sm_Run (d + 1) 193 18 [some (.inr (some a0)), some (.inl x1), some (.inl x2), some (.inl x3), some (.inl x4), z5, z6, z7] [] M Q) ∧ (¬ (x2 < 129) → ((135 < x2 → sm_Run (d + 1) 193 18 [some (.inr (some a0)), some (.inl x1), some (.inl x2), some (.inl x3), some (.inl x4), z5, z6, z7] [] M Q) ∧ (¬ (135 < x2) → ((¬ x4 = 0 → ((x4 ≤ 0 → sm_Run (d + 1) 193 90 [some (.inr (some a0)), some (.inl x1), some (.inl x2), some (.inl x3), some (.inl x4), some (.inl 1), z6, z7] [] M Q) ∧ (¬ (x4 ≤ 0) → ((256 ≤ x4 → sm_Run (d + 1) 193 90 [some (.inr (some a0)), some (.inl x1), some (.inl x2), some (.inl x3), some (.inl x4), some (.inl 1), z6, z7] [] M Q) ∧ (¬ (256 ≤ x4) → ((x3 ≤ 0 → sm_Run (d + 1) 193 90 [some (.inr (some a0)), some (.inl x1), some (.inl x2), some (.inl x3), some (.inl x4), some (.inl 1), z6, z7] [] M Q) ∧ (¬ (x3 ≤ 0) → ((65 ≤ x3 → sm_Run (d + 1) 193 90 [some (.inr (some a0)), some (.inl x1), some (.inl x2), some (.inl x3), some (.inl x4), some (.inl 1), z6, z7] [] M Q) ∧ (¬ (65 ≤ x3) → ((x1 < 0 → Q (some (.inl 0)) M) ∧ (¬ (x1 < 0) → ((5 < x1 → Q (some (.inl 0)) M) ∧ (¬ (5 < x1) → sm_Run (d + 1) 193 118 [some (.inr (some a0)), some (.inl x1), some (.inl x2), some (.inl x3), some (.inl x4), some (.inl 1), some (.inl 1), z7] [] M Q))))))))))))) ∧ (¬ (¬ x4 = 0) → ((x3 = 8 → sm_Run (d + 1) 193 50 [some (.inr (some a0)), some (.inl x1), some (.inl x2), some (.inl x3), some (.inl x4), some (.inl 1), z6, z7] [] M Q) ∧ (¬ (x3 = 8) → ((x3 = 16 → sm_Run (d + 1) 193 50 [some (.inr (some a0)), some (.inl x1), some (.inl x2), some (.inl x3), some (.inl x4), some (.inl 1), z6, z7] [] M Q) ∧ (¬ (x3 = 16) → ((x3 = 32 → sm_Run (d + 1) 193 50 [some (.inr (some a0)), some (.inl x1), some (.inl x2), some (.inl x3), some (.inl x4), some (.inl 1), z6, z7] [] M Q) ∧ (¬ (x3 = 32) → ((¬ x3 = 64 → ((x1 < 0 → Q (some (.inl 0)) M) ∧ (¬ (x1 < 0) → ((5 < x1 → Q (some (.inl 0)) M) ∧ (¬ (5 < x1) → sm_Run (d + 1) 193 118 [some (.inr (some a0)), some (.inl x1), some (.inl x2), some (.inl x3), some (.inl x4), some (.inl 1), some (.inl 0), z7] [] M Q))))) ∧ (¬ (¬ x3 = 64) → sm_Run (d + 1) 193 50 [some (.inr (some a0)), some (.inl x1), some (.inl x2), some (.inl x3), some (.inl x4), some (.inl 1), z6, z7] [] M Q))))))))))))))) :
    sm_Run (d + 1) 193 0 [some (.inr (some a0)), some (.inl x1), some (.inl x2), some (.inl x3), some (.inl x4), z5, z6, z7] [] M Q := by
  refine ru_go (t := (1, [some (.inr (some a0)), some (.inl x1), some (.inl x2), some (.inl x3), some (.inl x4), z5, z6, z7], [.inl x2], M)) sm_a193_0 rfl rfl rfl ?_
  refine ru_go (t := (4, [some (.inr (some a0)), some (.inl x1), some (.inl x2), some (.inl x3), some (.inl x4), z5, z6, z7], [.inl 129, .inl x2], M)) sm_a193_1 rfl rfl (st_sipush (by decide)) ?_
  refine ru_icmp (pc := 4) (p := 18) (p2 := 7) sm_a193_4 (by decide) rfl ⟨fun hc_1 => ?_, fun hc_1 => ?_⟩
  · have h := h.1 hc_1
    exact h
  · have h := h.2 hc_1
    refine ru_go (t := (8, [some (.inr (some a0)), some (.inl x1), some (.inl x2), some (.inl x3), some (.inl x4), z5, z6, z7], [.inl x2], M)) sm_a193_7 rfl rfl rfl ?_
    refine ru_go (t := (11, [some (.inr (some a0)), some (.inl x1), some (.inl x2), some (.inl x3), some (.inl x4), z5, z6, z7], [.inl 135, .inl x2], M)) sm_a193_8 rfl rfl (st_sipush (by decide)) ?_
    refine ru_icmp (pc := 11) (p := 18) (p2 := 14) sm_a193_11 (by decide) rfl ⟨fun hc_2 => ?_, fun hc_2 => ?_⟩
    · have h := h.1 hc_2
      exact h
    · have h := h.2 hc_2
      refine ru_go (t := (15, [some (.inr (some a0)), some (.inl x1), some (.inl x2), some (.inl x3), some (.inl x4), z5, z6, z7], [.inl 1], M)) sm_a193_14 rfl rfl (st_iconst (by decide)) ?_
      refine ru_go (t := (19, [some (.inr (some a0)), some (.inl x1), some (.inl x2), some (.inl x3), some (.inl x4), z5, z6, z7], [.inl 1], M)) sm_a193_15 rfl rfl (st_goto (pc := 15) (by decide)) ?_
      refine ru_go (t := (21, [some (.inr (some a0)), some (.inl x1), some (.inl x2), some (.inl x3), some (.inl x4), some (.inl 1), z6, z7], [], M)) sm_a193_19 rfl rfl rfl ?_
      refine ru_go (t := (23, [some (.inr (some a0)), some (.inl x1), some (.inl x2), some (.inl x3), some (.inl x4), some (.inl 1), z6, z7], [.inl x4], M)) sm_a193_21 rfl rfl rfl ?_
      refine ru_if (pc := 23) (p := 58) (p2 := 26) sm_a193_23 (by decide) rfl ⟨fun hc_3 => ?_, fun hc_3 => ?_⟩
      · have h := h.1 hc_3
        refine ru_go (t := (60, [some (.inr (some a0)), some (.inl x1), some (.inl x2), some (.inl x3), some (.inl x4), some (.inl 1), z6, z7], [.inl x4], M)) sm_a193_58 rfl rfl rfl ?_
        refine ru_if (pc := 60) (p := 90) (p2 := 63) sm_a193_60 (by decide) rfl ⟨fun hc_4 => ?_, fun hc_4 => ?_⟩
        · have h := h.1 hc_4
          exact h
        · have h := h.2 hc_4
          refine ru_go (t := (65, [some (.inr (some a0)), some (.inl x1), some (.inl x2), some (.inl x3), some (.inl x4), some (.inl 1), z6, z7], [.inl x4], M)) sm_a193_63 rfl rfl rfl ?_
          refine ru_go (t := (68, [some (.inr (some a0)), some (.inl x1), some (.inl x2), some (.inl x3), some (.inl x4), some (.inl 1), z6, z7], [.inl 256, .inl x4], M)) sm_a193_65 rfl rfl (st_sipush (by decide)) ?_
          refine ru_icmp (pc := 68) (p := 90) (p2 := 71) sm_a193_68 (by decide) rfl ⟨fun hc_5 => ?_, fun hc_5 => ?_⟩
          · have h := h.1 hc_5
            exact h
          · have h := h.2 hc_5
            refine ru_go (t := (73, [some (.inr (some a0)), some (.inl x1), some (.inl x2), some (.inl x3), some (.inl x4), some (.inl 1), z6, z7], [.inl 1], M)) sm_a193_71 rfl rfl rfl ?_
            refine ru_if (pc := 73) (p := 90) (p2 := 76) sm_a193_73 (by decide) rfl ⟨fun hc => absurd (show (1 : Int32) = 0 from hc) (by decide), fun _ => ?_⟩
            refine ru_go (t := (77, [some (.inr (some a0)), some (.inl x1), some (.inl x2), some (.inl x3), some (.inl x4), some (.inl 1), z6, z7], [.inl x3], M)) sm_a193_76 rfl rfl rfl ?_
            refine ru_if (pc := 77) (p := 90) (p2 := 80) sm_a193_77 (by decide) rfl ⟨fun hc_6 => ?_, fun hc_6 => ?_⟩
            · have h := h.1 hc_6
              exact h
            · have h := h.2 hc_6
              refine ru_go (t := (81, [some (.inr (some a0)), some (.inl x1), some (.inl x2), some (.inl x3), some (.inl x4), some (.inl 1), z6, z7], [.inl x3], M)) sm_a193_80 rfl rfl rfl ?_
              refine ru_go (t := (83, [some (.inr (some a0)), some (.inl x1), some (.inl x2), some (.inl x3), some (.inl x4), some (.inl 1), z6, z7], [.inl 65, .inl x3], M)) sm_a193_81 rfl rfl (st_bipush (by decide)) ?_
              refine ru_icmp (pc := 83) (p := 90) (p2 := 86) sm_a193_83 (by decide) rfl ⟨fun hc_7 => ?_, fun hc_7 => ?_⟩
              · have h := h.1 hc_7
                exact h
              · have h := h.2 hc_7
                refine ru_go (t := (87, [some (.inr (some a0)), some (.inl x1), some (.inl x2), some (.inl x3), some (.inl x4), some (.inl 1), z6, z7], [.inl 1], M)) sm_a193_86 rfl rfl (st_iconst (by decide)) ?_
                refine ru_go (t := (91, [some (.inr (some a0)), some (.inl x1), some (.inl x2), some (.inl x3), some (.inl x4), some (.inl 1), z6, z7], [.inl 1], M)) sm_a193_87 rfl rfl (st_goto (pc := 87) (by decide)) ?_
                refine ru_go (t := (93, [some (.inr (some a0)), some (.inl x1), some (.inl x2), some (.inl x3), some (.inl x4), some (.inl 1), some (.inl 1), z7], [], M)) sm_a193_91 rfl rfl rfl ?_
                refine ru_go (t := (94, [some (.inr (some a0)), some (.inl x1), some (.inl x2), some (.inl x3), some (.inl x4), some (.inl 1), some (.inl 1), z7], [.inl x1], M)) sm_a193_93 rfl rfl rfl ?_
                refine ru_if (pc := 94) (p := 123) (p2 := 97) sm_a193_94 (by decide) rfl ⟨fun hc_8 => ?_, fun hc_8 => ?_⟩
                · have h := h.1 hc_8
                  refine ru_go (t := (124, [some (.inr (some a0)), some (.inl x1), some (.inl x2), some (.inl x3), some (.inl x4), some (.inl 1), some (.inl 1), z7], [.inl 0], M)) sm_a193_123 rfl rfl (st_iconst (by decide)) ?_
                  exact ru_ret sm_a193_124 (sm_rvz rfl (by decide)) h
                · have h := h.2 hc_8
                  refine ru_go (t := (98, [some (.inr (some a0)), some (.inl x1), some (.inl x2), some (.inl x3), some (.inl x4), some (.inl 1), some (.inl 1), z7], [.inl x1], M)) sm_a193_97 rfl rfl rfl ?_
                  refine ru_go (t := (99, [some (.inr (some a0)), some (.inl x1), some (.inl x2), some (.inl x3), some (.inl x4), some (.inl 1), some (.inl 1), z7], [.inl 5, .inl x1], M)) sm_a193_98 rfl rfl (st_iconst (by decide)) ?_
                  refine ru_icmp (pc := 99) (p := 123) (p2 := 102) sm_a193_99 (by decide) rfl ⟨fun hc_9 => ?_, fun hc_9 => ?_⟩
                  · have h := h.1 hc_9
                    refine ru_go (t := (124, [some (.inr (some a0)), some (.inl x1), some (.inl x2), some (.inl x3), some (.inl x4), some (.inl 1), some (.inl 1), z7], [.inl 0], M)) sm_a193_123 rfl rfl (st_iconst (by decide)) ?_
                    exact ru_ret sm_a193_124 (sm_rvz rfl (by decide)) h
                  · have h := h.2 hc_9
                    refine ru_go (t := (104, [some (.inr (some a0)), some (.inl x1), some (.inl x2), some (.inl x3), some (.inl x4), some (.inl 1), some (.inl 1), z7], [.inl 1], M)) sm_a193_102 rfl rfl rfl ?_
                    refine ru_if (pc := 104) (p := 118) (p2 := 107) sm_a193_104 (by decide) rfl ⟨fun _ => ?_, fun hc => absurd (show sm_cP .ne 1 0 from (by show ¬ (1 : Int32) = 0; decide)) hc⟩
                    exact h
      · have h := h.2 hc_3
        refine ru_go (t := (27, [some (.inr (some a0)), some (.inl x1), some (.inl x2), some (.inl x3), some (.inl x4), some (.inl 1), z6, z7], [.inl x3], M)) sm_a193_26 rfl rfl rfl ?_
        refine ru_go (t := (29, [some (.inr (some a0)), some (.inl x1), some (.inl x2), some (.inl x3), some (.inl x4), some (.inl 1), z6, z7], [.inl 8, .inl x3], M)) sm_a193_27 rfl rfl (st_bipush (by decide)) ?_
        refine ru_icmp (pc := 29) (p := 50) (p2 := 32) sm_a193_29 (by decide) rfl ⟨fun hc_10 => ?_, fun hc_10 => ?_⟩
        · have h := h.1 hc_10
          exact h
        · have h := h.2 hc_10
          refine ru_go (t := (33, [some (.inr (some a0)), some (.inl x1), some (.inl x2), some (.inl x3), some (.inl x4), some (.inl 1), z6, z7], [.inl x3], M)) sm_a193_32 rfl rfl rfl ?_
          refine ru_go (t := (35, [some (.inr (some a0)), some (.inl x1), some (.inl x2), some (.inl x3), some (.inl x4), some (.inl 1), z6, z7], [.inl 16, .inl x3], M)) sm_a193_33 rfl rfl (st_bipush (by decide)) ?_
          refine ru_icmp (pc := 35) (p := 50) (p2 := 38) sm_a193_35 (by decide) rfl ⟨fun hc_11 => ?_, fun hc_11 => ?_⟩
          · have h := h.1 hc_11
            exact h
          · have h := h.2 hc_11
            refine ru_go (t := (39, [some (.inr (some a0)), some (.inl x1), some (.inl x2), some (.inl x3), some (.inl x4), some (.inl 1), z6, z7], [.inl x3], M)) sm_a193_38 rfl rfl rfl ?_
            refine ru_go (t := (41, [some (.inr (some a0)), some (.inl x1), some (.inl x2), some (.inl x3), some (.inl x4), some (.inl 1), z6, z7], [.inl 32, .inl x3], M)) sm_a193_39 rfl rfl (st_bipush (by decide)) ?_
            refine ru_icmp (pc := 41) (p := 50) (p2 := 44) sm_a193_41 (by decide) rfl ⟨fun hc_12 => ?_, fun hc_12 => ?_⟩
            · have h := h.1 hc_12
              exact h
            · have h := h.2 hc_12
              refine ru_go (t := (45, [some (.inr (some a0)), some (.inl x1), some (.inl x2), some (.inl x3), some (.inl x4), some (.inl 1), z6, z7], [.inl x3], M)) sm_a193_44 rfl rfl rfl ?_
              refine ru_go (t := (47, [some (.inr (some a0)), some (.inl x1), some (.inl x2), some (.inl x3), some (.inl x4), some (.inl 1), z6, z7], [.inl 64, .inl x3], M)) sm_a193_45 rfl rfl (st_bipush (by decide)) ?_
              refine ru_icmp (pc := 47) (p := 54) (p2 := 50) sm_a193_47 (by decide) rfl ⟨fun hc_13 => ?_, fun hc_13 => ?_⟩
              · have h := h.1 hc_13
                refine ru_go (t := (55, [some (.inr (some a0)), some (.inl x1), some (.inl x2), some (.inl x3), some (.inl x4), some (.inl 1), z6, z7], [.inl 0], M)) sm_a193_54 rfl rfl (st_iconst (by decide)) ?_
                refine ru_go (t := (91, [some (.inr (some a0)), some (.inl x1), some (.inl x2), some (.inl x3), some (.inl x4), some (.inl 1), z6, z7], [.inl 0], M)) sm_a193_55 rfl rfl (st_goto (pc := 55) (by decide)) ?_
                refine ru_go (t := (93, [some (.inr (some a0)), some (.inl x1), some (.inl x2), some (.inl x3), some (.inl x4), some (.inl 1), some (.inl 0), z7], [], M)) sm_a193_91 rfl rfl rfl ?_
                refine ru_go (t := (94, [some (.inr (some a0)), some (.inl x1), some (.inl x2), some (.inl x3), some (.inl x4), some (.inl 1), some (.inl 0), z7], [.inl x1], M)) sm_a193_93 rfl rfl rfl ?_
                refine ru_if (pc := 94) (p := 123) (p2 := 97) sm_a193_94 (by decide) rfl ⟨fun hc_14 => ?_, fun hc_14 => ?_⟩
                · have h := h.1 hc_14
                  refine ru_go (t := (124, [some (.inr (some a0)), some (.inl x1), some (.inl x2), some (.inl x3), some (.inl x4), some (.inl 1), some (.inl 0), z7], [.inl 0], M)) sm_a193_123 rfl rfl (st_iconst (by decide)) ?_
                  exact ru_ret sm_a193_124 (sm_rvz rfl (by decide)) h
                · have h := h.2 hc_14
                  refine ru_go (t := (98, [some (.inr (some a0)), some (.inl x1), some (.inl x2), some (.inl x3), some (.inl x4), some (.inl 1), some (.inl 0), z7], [.inl x1], M)) sm_a193_97 rfl rfl rfl ?_
                  refine ru_go (t := (99, [some (.inr (some a0)), some (.inl x1), some (.inl x2), some (.inl x3), some (.inl x4), some (.inl 1), some (.inl 0), z7], [.inl 5, .inl x1], M)) sm_a193_98 rfl rfl (st_iconst (by decide)) ?_
                  refine ru_icmp (pc := 99) (p := 123) (p2 := 102) sm_a193_99 (by decide) rfl ⟨fun hc_15 => ?_, fun hc_15 => ?_⟩
                  · have h := h.1 hc_15
                    refine ru_go (t := (124, [some (.inr (some a0)), some (.inl x1), some (.inl x2), some (.inl x3), some (.inl x4), some (.inl 1), some (.inl 0), z7], [.inl 0], M)) sm_a193_123 rfl rfl (st_iconst (by decide)) ?_
                    exact ru_ret sm_a193_124 (sm_rvz rfl (by decide)) h
                  · have h := h.2 hc_15
                    refine ru_go (t := (104, [some (.inr (some a0)), some (.inl x1), some (.inl x2), some (.inl x3), some (.inl x4), some (.inl 1), some (.inl 0), z7], [.inl 1], M)) sm_a193_102 rfl rfl rfl ?_
                    refine ru_if (pc := 104) (p := 118) (p2 := 107) sm_a193_104 (by decide) rfl ⟨fun _ => ?_, fun hc => absurd (show sm_cP .ne 1 0 from (by show ¬ (1 : Int32) = 0; decide)) hc⟩
                    exact h
              · have h := h.2 hc_13
                exact h
theorem bb_193_18 {d : Nat} {M : sm_M} {Q : Option sm_V → sm_M → Prop} {a0 : Nat} {x1 : Int32} {x2 : Int32} {x3 : Int32} {x4 : Int32} {z5 : Option sm_V} {z6 : Option sm_V} {z7 : Option sm_V}
    (h : ((¬ x4 = 0 → ((x4 ≤ 0 → sm_Run (d + 1) 193 90 [some (.inr (some a0)), some (.inl x1), some (.inl x2), some (.inl x3), some (.inl x4), some (.inl 0), z6, z7] [] M Q) ∧ (¬ (x4 ≤ 0) → ((256 ≤ x4 → sm_Run (d + 1) 193 90 [some (.inr (some a0)), some (.inl x1), some (.inl x2), some (.inl x3), some (.inl x4), some (.inl 0), z6, z7] [] M Q) ∧ (¬ (256 ≤ x4) → sm_Run (d + 1) 193 90 [some (.inr (some a0)), some (.inl x1), some (.inl x2), some (.inl x3), some (.inl x4), some (.inl 0), z6, z7] [] M Q))))) ∧ (¬ (¬ x4 = 0) → ((x3 = 8 → sm_Run (d + 1) 193 50 [some (.inr (some a0)), some (.inl x1), some (.inl x2), some (.inl x3), some (.inl x4), some (.inl 0), z6, z7] [] M Q) ∧ (¬ (x3 = 8) → ((x3 = 16 → sm_Run (d + 1) 193 50 [some (.inr (some a0)), some (.inl x1), some (.inl x2), some (.inl x3), some (.inl x4), some (.inl 0), z6, z7] [] M Q) ∧ (¬ (x3 = 16) → ((x3 = 32 → sm_Run (d + 1) 193 50 [some (.inr (some a0)), some (.inl x1), some (.inl x2), some (.inl x3), some (.inl x4), some (.inl 0), z6, z7] [] M Q) ∧ (¬ (x3 = 32) → ((¬ x3 = 64 → ((x1 < 0 → Q (some (.inl 0)) M) ∧ (¬ (x1 < 0) → ((5 < x1 → Q (some (.inl 0)) M) ∧ (¬ (5 < x1) → ((x2 < 1 → Q (some (.inl 0)) M) ∧ (¬ (x2 < 1) → ((7 < x2 → Q (some (.inl 0)) M) ∧ (¬ (7 < x2) → sm_Run (d + 1) 193 118 [some (.inr (some a0)), some (.inl x1), some (.inl x2), some (.inl x3), some (.inl x4), some (.inl 0), some (.inl 0), z7] [] M Q))))))))) ∧ (¬ (¬ x3 = 64) → sm_Run (d + 1) 193 50 [some (.inr (some a0)), some (.inl x1), some (.inl x2), some (.inl x3), some (.inl x4), some (.inl 0), z6, z7] [] M Q))))))))))) :
    sm_Run (d + 1) 193 18 [some (.inr (some a0)), some (.inl x1), some (.inl x2), some (.inl x3), some (.inl x4), z5, z6, z7] [] M Q := by
  refine ru_go (t := (19, [some (.inr (some a0)), some (.inl x1), some (.inl x2), some (.inl x3), some (.inl x4), z5, z6, z7], [.inl 0], M)) sm_a193_18 rfl rfl (st_iconst (by decide)) ?_
  refine ru_go (t := (21, [some (.inr (some a0)), some (.inl x1), some (.inl x2), some (.inl x3), some (.inl x4), some (.inl 0), z6, z7], [], M)) sm_a193_19 rfl rfl rfl ?_
  refine ru_go (t := (23, [some (.inr (some a0)), some (.inl x1), some (.inl x2), some (.inl x3), some (.inl x4), some (.inl 0), z6, z7], [.inl x4], M)) sm_a193_21 rfl rfl rfl ?_
  refine ru_if (pc := 23) (p := 58) (p2 := 26) sm_a193_23 (by decide) rfl ⟨fun hc_1 => ?_, fun hc_1 => ?_⟩
  · have h := h.1 hc_1
    refine ru_go (t := (60, [some (.inr (some a0)), some (.inl x1), some (.inl x2), some (.inl x3), some (.inl x4), some (.inl 0), z6, z7], [.inl x4], M)) sm_a193_58 rfl rfl rfl ?_
    refine ru_if (pc := 60) (p := 90) (p2 := 63) sm_a193_60 (by decide) rfl ⟨fun hc_2 => ?_, fun hc_2 => ?_⟩
    · have h := h.1 hc_2
      exact h
    · have h := h.2 hc_2
      refine ru_go (t := (65, [some (.inr (some a0)), some (.inl x1), some (.inl x2), some (.inl x3), some (.inl x4), some (.inl 0), z6, z7], [.inl x4], M)) sm_a193_63 rfl rfl rfl ?_
      refine ru_go (t := (68, [some (.inr (some a0)), some (.inl x1), some (.inl x2), some (.inl x3), some (.inl x4), some (.inl 0), z6, z7], [.inl 256, .inl x4], M)) sm_a193_65 rfl rfl (st_sipush (by decide)) ?_
      refine ru_icmp (pc := 68) (p := 90) (p2 := 71) sm_a193_68 (by decide) rfl ⟨fun hc_3 => ?_, fun hc_3 => ?_⟩
      · have h := h.1 hc_3
        exact h
      · have h := h.2 hc_3
        refine ru_go (t := (73, [some (.inr (some a0)), some (.inl x1), some (.inl x2), some (.inl x3), some (.inl x4), some (.inl 0), z6, z7], [.inl 0], M)) sm_a193_71 rfl rfl rfl ?_
        refine ru_if (pc := 73) (p := 90) (p2 := 76) sm_a193_73 (by decide) rfl ⟨fun _ => ?_, fun hc => absurd (show sm_cP .eq 0 0 from (by show (0 : Int32) = 0; decide)) hc⟩
        exact h
  · have h := h.2 hc_1
    refine ru_go (t := (27, [some (.inr (some a0)), some (.inl x1), some (.inl x2), some (.inl x3), some (.inl x4), some (.inl 0), z6, z7], [.inl x3], M)) sm_a193_26 rfl rfl rfl ?_
    refine ru_go (t := (29, [some (.inr (some a0)), some (.inl x1), some (.inl x2), some (.inl x3), some (.inl x4), some (.inl 0), z6, z7], [.inl 8, .inl x3], M)) sm_a193_27 rfl rfl (st_bipush (by decide)) ?_
    refine ru_icmp (pc := 29) (p := 50) (p2 := 32) sm_a193_29 (by decide) rfl ⟨fun hc_4 => ?_, fun hc_4 => ?_⟩
    · have h := h.1 hc_4
      exact h
    · have h := h.2 hc_4
      refine ru_go (t := (33, [some (.inr (some a0)), some (.inl x1), some (.inl x2), some (.inl x3), some (.inl x4), some (.inl 0), z6, z7], [.inl x3], M)) sm_a193_32 rfl rfl rfl ?_
      refine ru_go (t := (35, [some (.inr (some a0)), some (.inl x1), some (.inl x2), some (.inl x3), some (.inl x4), some (.inl 0), z6, z7], [.inl 16, .inl x3], M)) sm_a193_33 rfl rfl (st_bipush (by decide)) ?_
      refine ru_icmp (pc := 35) (p := 50) (p2 := 38) sm_a193_35 (by decide) rfl ⟨fun hc_5 => ?_, fun hc_5 => ?_⟩
      · have h := h.1 hc_5
        exact h
      · have h := h.2 hc_5
        refine ru_go (t := (39, [some (.inr (some a0)), some (.inl x1), some (.inl x2), some (.inl x3), some (.inl x4), some (.inl 0), z6, z7], [.inl x3], M)) sm_a193_38 rfl rfl rfl ?_
        refine ru_go (t := (41, [some (.inr (some a0)), some (.inl x1), some (.inl x2), some (.inl x3), some (.inl x4), some (.inl 0), z6, z7], [.inl 32, .inl x3], M)) sm_a193_39 rfl rfl (st_bipush (by decide)) ?_
        refine ru_icmp (pc := 41) (p := 50) (p2 := 44) sm_a193_41 (by decide) rfl ⟨fun hc_6 => ?_, fun hc_6 => ?_⟩
        · have h := h.1 hc_6
          exact h
        · have h := h.2 hc_6
          refine ru_go (t := (45, [some (.inr (some a0)), some (.inl x1), some (.inl x2), some (.inl x3), some (.inl x4), some (.inl 0), z6, z7], [.inl x3], M)) sm_a193_44 rfl rfl rfl ?_
          refine ru_go (t := (47, [some (.inr (some a0)), some (.inl x1), some (.inl x2), some (.inl x3), some (.inl x4), some (.inl 0), z6, z7], [.inl 64, .inl x3], M)) sm_a193_45 rfl rfl (st_bipush (by decide)) ?_
          refine ru_icmp (pc := 47) (p := 54) (p2 := 50) sm_a193_47 (by decide) rfl ⟨fun hc_7 => ?_, fun hc_7 => ?_⟩
          · have h := h.1 hc_7
            refine ru_go (t := (55, [some (.inr (some a0)), some (.inl x1), some (.inl x2), some (.inl x3), some (.inl x4), some (.inl 0), z6, z7], [.inl 0], M)) sm_a193_54 rfl rfl (st_iconst (by decide)) ?_
            refine ru_go (t := (91, [some (.inr (some a0)), some (.inl x1), some (.inl x2), some (.inl x3), some (.inl x4), some (.inl 0), z6, z7], [.inl 0], M)) sm_a193_55 rfl rfl (st_goto (pc := 55) (by decide)) ?_
            refine ru_go (t := (93, [some (.inr (some a0)), some (.inl x1), some (.inl x2), some (.inl x3), some (.inl x4), some (.inl 0), some (.inl 0), z7], [], M)) sm_a193_91 rfl rfl rfl ?_
            refine ru_go (t := (94, [some (.inr (some a0)), some (.inl x1), some (.inl x2), some (.inl x3), some (.inl x4), some (.inl 0), some (.inl 0), z7], [.inl x1], M)) sm_a193_93 rfl rfl rfl ?_
            refine ru_if (pc := 94) (p := 123) (p2 := 97) sm_a193_94 (by decide) rfl ⟨fun hc_8 => ?_, fun hc_8 => ?_⟩
            · have h := h.1 hc_8
              refine ru_go (t := (124, [some (.inr (some a0)), some (.inl x1), some (.inl x2), some (.inl x3), some (.inl x4), some (.inl 0), some (.inl 0), z7], [.inl 0], M)) sm_a193_123 rfl rfl (st_iconst (by decide)) ?_
              exact ru_ret sm_a193_124 (sm_rvz rfl (by decide)) h
            · have h := h.2 hc_8
              refine ru_go (t := (98, [some (.inr (some a0)), some (.inl x1), some (.inl x2), some (.inl x3), some (.inl x4), some (.inl 0), some (.inl 0), z7], [.inl x1], M)) sm_a193_97 rfl rfl rfl ?_
              refine ru_go (t := (99, [some (.inr (some a0)), some (.inl x1), some (.inl x2), some (.inl x3), some (.inl x4), some (.inl 0), some (.inl 0), z7], [.inl 5, .inl x1], M)) sm_a193_98 rfl rfl (st_iconst (by decide)) ?_
              refine ru_icmp (pc := 99) (p := 123) (p2 := 102) sm_a193_99 (by decide) rfl ⟨fun hc_9 => ?_, fun hc_9 => ?_⟩
              · have h := h.1 hc_9
                refine ru_go (t := (124, [some (.inr (some a0)), some (.inl x1), some (.inl x2), some (.inl x3), some (.inl x4), some (.inl 0), some (.inl 0), z7], [.inl 0], M)) sm_a193_123 rfl rfl (st_iconst (by decide)) ?_
                exact ru_ret sm_a193_124 (sm_rvz rfl (by decide)) h
              · have h := h.2 hc_9
                refine ru_go (t := (104, [some (.inr (some a0)), some (.inl x1), some (.inl x2), some (.inl x3), some (.inl x4), some (.inl 0), some (.inl 0), z7], [.inl 0], M)) sm_a193_102 rfl rfl rfl ?_
                refine ru_if (pc := 104) (p := 118) (p2 := 107) sm_a193_104 (by decide) rfl ⟨fun hc => absurd (show ¬ (0 : Int32) = 0 from hc) (by decide), fun _ => ?_⟩
                refine ru_go (t := (108, [some (.inr (some a0)), some (.inl x1), some (.inl x2), some (.inl x3), some (.inl x4), some (.inl 0), some (.inl 0), z7], [.inl x2], M)) sm_a193_107 rfl rfl rfl ?_
                refine ru_go (t := (109, [some (.inr (some a0)), some (.inl x1), some (.inl x2), some (.inl x3), some (.inl x4), some (.inl 0), some (.inl 0), z7], [.inl 1, .inl x2], M)) sm_a193_108 rfl rfl (st_iconst (by decide)) ?_
                refine ru_icmp (pc := 109) (p := 123) (p2 := 112) sm_a193_109 (by decide) rfl ⟨fun hc_10 => ?_, fun hc_10 => ?_⟩
                · have h := h.1 hc_10
                  refine ru_go (t := (124, [some (.inr (some a0)), some (.inl x1), some (.inl x2), some (.inl x3), some (.inl x4), some (.inl 0), some (.inl 0), z7], [.inl 0], M)) sm_a193_123 rfl rfl (st_iconst (by decide)) ?_
                  exact ru_ret sm_a193_124 (sm_rvz rfl (by decide)) h
                · have h := h.2 hc_10
                  refine ru_go (t := (113, [some (.inr (some a0)), some (.inl x1), some (.inl x2), some (.inl x3), some (.inl x4), some (.inl 0), some (.inl 0), z7], [.inl x2], M)) sm_a193_112 rfl rfl rfl ?_
                  refine ru_go (t := (115, [some (.inr (some a0)), some (.inl x1), some (.inl x2), some (.inl x3), some (.inl x4), some (.inl 0), some (.inl 0), z7], [.inl 7, .inl x2], M)) sm_a193_113 rfl rfl (st_bipush (by decide)) ?_
                  refine ru_icmp (pc := 115) (p := 123) (p2 := 118) sm_a193_115 (by decide) rfl ⟨fun hc_11 => ?_, fun hc_11 => ?_⟩
                  · have h := h.1 hc_11
                    refine ru_go (t := (124, [some (.inr (some a0)), some (.inl x1), some (.inl x2), some (.inl x3), some (.inl x4), some (.inl 0), some (.inl 0), z7], [.inl 0], M)) sm_a193_123 rfl rfl (st_iconst (by decide)) ?_
                    exact ru_ret sm_a193_124 (sm_rvz rfl (by decide)) h
                  · have h := h.2 hc_11
                    exact h
          · have h := h.2 hc_7
            exact h
theorem bb_193_50 {d : Nat} {M : sm_M} {Q : Option sm_V → sm_M → Prop} {a0 : Nat} {x1 : Int32} {x2 : Int32} {x3 : Int32} {x4 : Int32} {x5 : Int32} {z6 : Option sm_V} {z7 : Option sm_V}
    (h : ((x1 < 0 → Q (some (.inl 0)) M) ∧ (¬ (x1 < 0) → ((5 < x1 → Q (some (.inl 0)) M) ∧ (¬ (5 < x1) → ((¬ x5 = 0 → sm_Run (d + 1) 193 118 [some (.inr (some a0)), some (.inl x1), some (.inl x2), some (.inl x3), some (.inl x4), some (.inl x5), some (.inl 1), z7] [] M Q) ∧ (¬ (¬ x5 = 0) → ((x2 < 1 → Q (some (.inl 0)) M) ∧ (¬ (x2 < 1) → ((7 < x2 → Q (some (.inl 0)) M) ∧ (¬ (7 < x2) → sm_Run (d + 1) 193 118 [some (.inr (some a0)), some (.inl x1), some (.inl x2), some (.inl x3), some (.inl x4), some (.inl x5), some (.inl 1), z7] [] M Q))))))))))) :
    sm_Run (d + 1) 193 50 [some (.inr (some a0)), some (.inl x1), some (.inl x2), some (.inl x3), some (.inl x4), some (.inl x5), z6, z7] [] M Q := by
  refine ru_go (t := (51, [some (.inr (some a0)), some (.inl x1), some (.inl x2), some (.inl x3), some (.inl x4), some (.inl x5), z6, z7], [.inl 1], M)) sm_a193_50 rfl rfl (st_iconst (by decide)) ?_
  refine ru_go (t := (91, [some (.inr (some a0)), some (.inl x1), some (.inl x2), some (.inl x3), some (.inl x4), some (.inl x5), z6, z7], [.inl 1], M)) sm_a193_51 rfl rfl (st_goto (pc := 51) (by decide)) ?_
  refine ru_go (t := (93, [some (.inr (some a0)), some (.inl x1), some (.inl x2), some (.inl x3), some (.inl x4), some (.inl x5), some (.inl 1), z7], [], M)) sm_a193_91 rfl rfl rfl ?_
  refine ru_go (t := (94, [some (.inr (some a0)), some (.inl x1), some (.inl x2), some (.inl x3), some (.inl x4), some (.inl x5), some (.inl 1), z7], [.inl x1], M)) sm_a193_93 rfl rfl rfl ?_
  refine ru_if (pc := 94) (p := 123) (p2 := 97) sm_a193_94 (by decide) rfl ⟨fun hc_1 => ?_, fun hc_1 => ?_⟩
  · have h := h.1 hc_1
    refine ru_go (t := (124, [some (.inr (some a0)), some (.inl x1), some (.inl x2), some (.inl x3), some (.inl x4), some (.inl x5), some (.inl 1), z7], [.inl 0], M)) sm_a193_123 rfl rfl (st_iconst (by decide)) ?_
    exact ru_ret sm_a193_124 (sm_rvz rfl (by decide)) h
  · have h := h.2 hc_1
    refine ru_go (t := (98, [some (.inr (some a0)), some (.inl x1), some (.inl x2), some (.inl x3), some (.inl x4), some (.inl x5), some (.inl 1), z7], [.inl x1], M)) sm_a193_97 rfl rfl rfl ?_
    refine ru_go (t := (99, [some (.inr (some a0)), some (.inl x1), some (.inl x2), some (.inl x3), some (.inl x4), some (.inl x5), some (.inl 1), z7], [.inl 5, .inl x1], M)) sm_a193_98 rfl rfl (st_iconst (by decide)) ?_
    refine ru_icmp (pc := 99) (p := 123) (p2 := 102) sm_a193_99 (by decide) rfl ⟨fun hc_2 => ?_, fun hc_2 => ?_⟩
    · have h := h.1 hc_2
      refine ru_go (t := (124, [some (.inr (some a0)), some (.inl x1), some (.inl x2), some (.inl x3), some (.inl x4), some (.inl x5), some (.inl 1), z7], [.inl 0], M)) sm_a193_123 rfl rfl (st_iconst (by decide)) ?_
      exact ru_ret sm_a193_124 (sm_rvz rfl (by decide)) h
    · have h := h.2 hc_2
      refine ru_go (t := (104, [some (.inr (some a0)), some (.inl x1), some (.inl x2), some (.inl x3), some (.inl x4), some (.inl x5), some (.inl 1), z7], [.inl x5], M)) sm_a193_102 rfl rfl rfl ?_
      refine ru_if (pc := 104) (p := 118) (p2 := 107) sm_a193_104 (by decide) rfl ⟨fun hc_3 => ?_, fun hc_3 => ?_⟩
      · have h := h.1 hc_3
        exact h
      · have h := h.2 hc_3
        refine ru_go (t := (108, [some (.inr (some a0)), some (.inl x1), some (.inl x2), some (.inl x3), some (.inl x4), some (.inl x5), some (.inl 1), z7], [.inl x2], M)) sm_a193_107 rfl rfl rfl ?_
        refine ru_go (t := (109, [some (.inr (some a0)), some (.inl x1), some (.inl x2), some (.inl x3), some (.inl x4), some (.inl x5), some (.inl 1), z7], [.inl 1, .inl x2], M)) sm_a193_108 rfl rfl (st_iconst (by decide)) ?_
        refine ru_icmp (pc := 109) (p := 123) (p2 := 112) sm_a193_109 (by decide) rfl ⟨fun hc_4 => ?_, fun hc_4 => ?_⟩
        · have h := h.1 hc_4
          refine ru_go (t := (124, [some (.inr (some a0)), some (.inl x1), some (.inl x2), some (.inl x3), some (.inl x4), some (.inl x5), some (.inl 1), z7], [.inl 0], M)) sm_a193_123 rfl rfl (st_iconst (by decide)) ?_
          exact ru_ret sm_a193_124 (sm_rvz rfl (by decide)) h
        · have h := h.2 hc_4
          refine ru_go (t := (113, [some (.inr (some a0)), some (.inl x1), some (.inl x2), some (.inl x3), some (.inl x4), some (.inl x5), some (.inl 1), z7], [.inl x2], M)) sm_a193_112 rfl rfl rfl ?_
          refine ru_go (t := (115, [some (.inr (some a0)), some (.inl x1), some (.inl x2), some (.inl x3), some (.inl x4), some (.inl x5), some (.inl 1), z7], [.inl 7, .inl x2], M)) sm_a193_113 rfl rfl (st_bipush (by decide)) ?_
          refine ru_icmp (pc := 115) (p := 123) (p2 := 118) sm_a193_115 (by decide) rfl ⟨fun hc_5 => ?_, fun hc_5 => ?_⟩
          · have h := h.1 hc_5
            refine ru_go (t := (124, [some (.inr (some a0)), some (.inl x1), some (.inl x2), some (.inl x3), some (.inl x4), some (.inl x5), some (.inl 1), z7], [.inl 0], M)) sm_a193_123 rfl rfl (st_iconst (by decide)) ?_
            exact ru_ret sm_a193_124 (sm_rvz rfl (by decide)) h
          · have h := h.2 hc_5
            exact h
theorem bb_193_90 {d : Nat} {M : sm_M} {Q : Option sm_V → sm_M → Prop} {a0 : Nat} {x1 : Int32} {x2 : Int32} {x3 : Int32} {x4 : Int32} {x5 : Int32} {z6 : Option sm_V} {z7 : Option sm_V}
    (h : ((x1 < 0 → Q (some (.inl 0)) M) ∧ (¬ (x1 < 0) → ((5 < x1 → Q (some (.inl 0)) M) ∧ (¬ (5 < x1) → ((¬ x5 = 0 → sm_Run (d + 1) 193 118 [some (.inr (some a0)), some (.inl x1), some (.inl x2), some (.inl x3), some (.inl x4), some (.inl x5), some (.inl 0), z7] [] M Q) ∧ (¬ (¬ x5 = 0) → ((x2 < 1 → Q (some (.inl 0)) M) ∧ (¬ (x2 < 1) → ((7 < x2 → Q (some (.inl 0)) M) ∧ (¬ (7 < x2) → sm_Run (d + 1) 193 118 [some (.inr (some a0)), some (.inl x1), some (.inl x2), some (.inl x3), some (.inl x4), some (.inl x5), some (.inl 0), z7] [] M Q))))))))))) :
    sm_Run (d + 1) 193 90 [some (.inr (some a0)), some (.inl x1), some (.inl x2), some (.inl x3), some (.inl x4), some (.inl x5), z6, z7] [] M Q := by
  refine ru_go (t := (91, [some (.inr (some a0)), some (.inl x1), some (.inl x2), some (.inl x3), some (.inl x4), some (.inl x5), z6, z7], [.inl 0], M)) sm_a193_90 rfl rfl (st_iconst (by decide)) ?_
  refine ru_go (t := (93, [some (.inr (some a0)), some (.inl x1), some (.inl x2), some (.inl x3), some (.inl x4), some (.inl x5), some (.inl 0), z7], [], M)) sm_a193_91 rfl rfl rfl ?_
  refine ru_go (t := (94, [some (.inr (some a0)), some (.inl x1), some (.inl x2), some (.inl x3), some (.inl x4), some (.inl x5), some (.inl 0), z7], [.inl x1], M)) sm_a193_93 rfl rfl rfl ?_
  refine ru_if (pc := 94) (p := 123) (p2 := 97) sm_a193_94 (by decide) rfl ⟨fun hc_1 => ?_, fun hc_1 => ?_⟩
  · have h := h.1 hc_1
    refine ru_go (t := (124, [some (.inr (some a0)), some (.inl x1), some (.inl x2), some (.inl x3), some (.inl x4), some (.inl x5), some (.inl 0), z7], [.inl 0], M)) sm_a193_123 rfl rfl (st_iconst (by decide)) ?_
    exact ru_ret sm_a193_124 (sm_rvz rfl (by decide)) h
  · have h := h.2 hc_1
    refine ru_go (t := (98, [some (.inr (some a0)), some (.inl x1), some (.inl x2), some (.inl x3), some (.inl x4), some (.inl x5), some (.inl 0), z7], [.inl x1], M)) sm_a193_97 rfl rfl rfl ?_
    refine ru_go (t := (99, [some (.inr (some a0)), some (.inl x1), some (.inl x2), some (.inl x3), some (.inl x4), some (.inl x5), some (.inl 0), z7], [.inl 5, .inl x1], M)) sm_a193_98 rfl rfl (st_iconst (by decide)) ?_
    refine ru_icmp (pc := 99) (p := 123) (p2 := 102) sm_a193_99 (by decide) rfl ⟨fun hc_2 => ?_, fun hc_2 => ?_⟩
    · have h := h.1 hc_2
      refine ru_go (t := (124, [some (.inr (some a0)), some (.inl x1), some (.inl x2), some (.inl x3), some (.inl x4), some (.inl x5), some (.inl 0), z7], [.inl 0], M)) sm_a193_123 rfl rfl (st_iconst (by decide)) ?_
      exact ru_ret sm_a193_124 (sm_rvz rfl (by decide)) h
    · have h := h.2 hc_2
      refine ru_go (t := (104, [some (.inr (some a0)), some (.inl x1), some (.inl x2), some (.inl x3), some (.inl x4), some (.inl x5), some (.inl 0), z7], [.inl x5], M)) sm_a193_102 rfl rfl rfl ?_
      refine ru_if (pc := 104) (p := 118) (p2 := 107) sm_a193_104 (by decide) rfl ⟨fun hc_3 => ?_, fun hc_3 => ?_⟩
      · have h := h.1 hc_3
        exact h
      · have h := h.2 hc_3
        refine ru_go (t := (108, [some (.inr (some a0)), some (.inl x1), some (.inl x2), some (.inl x3), some (.inl x4), some (.inl x5), some (.inl 0), z7], [.inl x2], M)) sm_a193_107 rfl rfl rfl ?_
        refine ru_go (t := (109, [some (.inr (some a0)), some (.inl x1), some (.inl x2), some (.inl x3), some (.inl x4), some (.inl x5), some (.inl 0), z7], [.inl 1, .inl x2], M)) sm_a193_108 rfl rfl (st_iconst (by decide)) ?_
        refine ru_icmp (pc := 109) (p := 123) (p2 := 112) sm_a193_109 (by decide) rfl ⟨fun hc_4 => ?_, fun hc_4 => ?_⟩
        · have h := h.1 hc_4
          refine ru_go (t := (124, [some (.inr (some a0)), some (.inl x1), some (.inl x2), some (.inl x3), some (.inl x4), some (.inl x5), some (.inl 0), z7], [.inl 0], M)) sm_a193_123 rfl rfl (st_iconst (by decide)) ?_
          exact ru_ret sm_a193_124 (sm_rvz rfl (by decide)) h
        · have h := h.2 hc_4
          refine ru_go (t := (113, [some (.inr (some a0)), some (.inl x1), some (.inl x2), some (.inl x3), some (.inl x4), some (.inl x5), some (.inl 0), z7], [.inl x2], M)) sm_a193_112 rfl rfl rfl ?_
          refine ru_go (t := (115, [some (.inr (some a0)), some (.inl x1), some (.inl x2), some (.inl x3), some (.inl x4), some (.inl x5), some (.inl 0), z7], [.inl 7, .inl x2], M)) sm_a193_113 rfl rfl (st_bipush (by decide)) ?_
          refine ru_icmp (pc := 115) (p := 123) (p2 := 118) sm_a193_115 (by decide) rfl ⟨fun hc_5 => ?_, fun hc_5 => ?_⟩
          · have h := h.1 hc_5
            refine ru_go (t := (124, [some (.inr (some a0)), some (.inl x1), some (.inl x2), some (.inl x3), some (.inl x4), some (.inl x5), some (.inl 0), z7], [.inl 0], M)) sm_a193_123 rfl rfl (st_iconst (by decide)) ?_
            exact ru_ret sm_a193_124 (sm_rvz rfl (by decide)) h
          · have h := h.2 hc_5
            exact h
theorem bb_193_118 {d : Nat} {M : sm_M} {Q : Option sm_V → sm_M → Prop} {a0 : Nat} {x1 : Int32} {x2 : Int32} {x3 : Int32} {x4 : Int32} {x5 : Int32} {x6 : Int32} {z7 : Option sm_V}
    (h : ((¬ x6 = 0 → sm_K M a0 = 39 ∧ ∃ b_3, sm_R M a0 4 = some b_3 ∧ sm_iA M b_3 ∧ sm_in_ M b_3 x1 ∧ ((¬ (sm_I M b_3 (x1).toNatClampNeg) = 0 → Q (some (.inl 0)) M) ∧ (¬ (¬ (sm_I M b_3 (x1).toNatClampNeg) = 0) → ∃ b_8, sm_R M a0 9 = some b_8 ∧ sm_iA M b_8 ∧ sm_in_ M b_8 x1 ∧ (((sm_I M b_8 (x1).toNatClampNeg) = 6 → Q (some (.inl 0)) M) ∧ (¬ ((sm_I M b_8 (x1).toNatClampNeg) = 6) → sm_Run d 155 0 (sm_ent 155 [.inr (some a0), .inl x1, .inl x2]) [] M (fun v M1 => sm_Run (d + 1) 193 151 [some (.inr (some a0)), some (.inl x1), some (.inl x2), some (.inl x3), some (.inl x4), some (.inl x5), some (.inl x6), z7] (v.toList ++ []) M1 Q)))))) ∧ (¬ (¬ x6 = 0) → Q (some (.inl 0)) M))) :
    sm_Run (d + 1) 193 118 [some (.inr (some a0)), some (.inl x1), some (.inl x2), some (.inl x3), some (.inl x4), some (.inl x5), some (.inl x6), z7] [] M Q := by
  refine ru_go (t := (120, [some (.inr (some a0)), some (.inl x1), some (.inl x2), some (.inl x3), some (.inl x4), some (.inl x5), some (.inl x6), z7], [.inl x6], M)) sm_a193_118 rfl rfl rfl ?_
  refine ru_if (pc := 120) (p := 125) (p2 := 123) sm_a193_120 (by decide) rfl ⟨fun hc_1 => ?_, fun hc_1 => ?_⟩
  · have h := h.1 hc_1
    refine ru_go (t := (126, [some (.inr (some a0)), some (.inl x1), some (.inl x2), some (.inl x3), some (.inl x4), some (.inl x5), some (.inl x6), z7], [.inr (some a0)], M)) sm_a193_125 rfl rfl rfl ?_
    obtain ⟨h_2, h⟩ := h
    refine ru_go (t := (129, [some (.inr (some a0)), some (.inl x1), some (.inl x2), some (.inl x3), some (.inl x4), some (.inl x5), some (.inl x6), z7], [.inr (sm_R M a0 4)], M)) sm_a193_126 rfl rfl (st_getR h_2 rfl rfl) ?_
    refine ru_go (t := (130, [some (.inr (some a0)), some (.inl x1), some (.inl x2), some (.inl x3), some (.inl x4), some (.inl x5), some (.inl x6), z7], [.inl x1, .inr (sm_R M a0 4)], M)) sm_a193_129 rfl rfl rfl ?_
    obtain ⟨b_3, hb_4, h⟩ := h
    rw [hb_4]
    obtain ⟨h_5, h⟩ := h
    obtain ⟨h_6, h⟩ := h
    refine ru_go (t := (131, [some (.inr (some a0)), some (.inl x1), some (.inl x2), some (.inl x3), some (.inl x4), some (.inl x5), some (.inl x6), z7], [.inl (sm_I M b_3 (x1).toNatClampNeg)], M)) sm_a193_130 rfl rfl (st_iald h_5 h_6) ?_
    refine ru_if (pc := 131) (p := 155) (p2 := 134) sm_a193_131 (by decide) rfl ⟨fun hc_7 => ?_, fun hc_7 => ?_⟩
    · have h := h.1 hc_7
      refine ru_go (t := (156, [some (.inr (some a0)), some (.inl x1), some (.inl x2), some (.inl x3), some (.inl x4), some (.inl x5), some (.inl x6), z7], [.inl 0], M)) sm_a193_155 rfl rfl (st_iconst (by decide)) ?_
      exact ru_ret sm_a193_156 (sm_rvz rfl (by decide)) h
    · have h := h.2 hc_7
      refine ru_go (t := (135, [some (.inr (some a0)), some (.inl x1), some (.inl x2), some (.inl x3), some (.inl x4), some (.inl x5), some (.inl x6), z7], [.inr (some a0)], M)) sm_a193_134 rfl rfl rfl ?_
      refine ru_go (t := (138, [some (.inr (some a0)), some (.inl x1), some (.inl x2), some (.inl x3), some (.inl x4), some (.inl x5), some (.inl x6), z7], [.inr (sm_R M a0 9)], M)) sm_a193_135 rfl rfl (st_getR h_2 rfl rfl) ?_
      refine ru_go (t := (139, [some (.inr (some a0)), some (.inl x1), some (.inl x2), some (.inl x3), some (.inl x4), some (.inl x5), some (.inl x6), z7], [.inl x1, .inr (sm_R M a0 9)], M)) sm_a193_138 rfl rfl rfl ?_
      obtain ⟨b_8, hb_9, h⟩ := h
      rw [hb_9]
      obtain ⟨h_10, h⟩ := h
      obtain ⟨h_11, h⟩ := h
      refine ru_go (t := (140, [some (.inr (some a0)), some (.inl x1), some (.inl x2), some (.inl x3), some (.inl x4), some (.inl x5), some (.inl x6), z7], [.inl (sm_I M b_8 (x1).toNatClampNeg)], M)) sm_a193_139 rfl rfl (st_iald h_10 h_11) ?_
      refine ru_go (t := (142, [some (.inr (some a0)), some (.inl x1), some (.inl x2), some (.inl x3), some (.inl x4), some (.inl x5), some (.inl x6), z7], [.inl 6, .inl (sm_I M b_8 (x1).toNatClampNeg)], M)) sm_a193_140 rfl rfl (st_bipush (by decide)) ?_
      refine ru_icmp (pc := 142) (p := 155) (p2 := 145) sm_a193_142 (by decide) rfl ⟨fun hc_12 => ?_, fun hc_12 => ?_⟩
      · have h := h.1 hc_12
        refine ru_go (t := (156, [some (.inr (some a0)), some (.inl x1), some (.inl x2), some (.inl x3), some (.inl x4), some (.inl x5), some (.inl x6), z7], [.inl 0], M)) sm_a193_155 rfl rfl (st_iconst (by decide)) ?_
        exact ru_ret sm_a193_156 (sm_rvz rfl (by decide)) h
      · have h := h.2 hc_12
        refine ru_go (t := (146, [some (.inr (some a0)), some (.inl x1), some (.inl x2), some (.inl x3), some (.inl x4), some (.inl x5), some (.inl x6), z7], [.inr (some a0)], M)) sm_a193_145 rfl rfl rfl ?_
        refine ru_go (t := (147, [some (.inr (some a0)), some (.inl x1), some (.inl x2), some (.inl x3), some (.inl x4), some (.inl x5), some (.inl x6), z7], [.inl x1, .inr (some a0)], M)) sm_a193_146 rfl rfl rfl ?_
        refine ru_go (t := (148, [some (.inr (some a0)), some (.inl x1), some (.inl x2), some (.inl x3), some (.inl x4), some (.inl x5), some (.inl x6), z7], [.inl x2, .inl x1, .inr (some a0)], M)) sm_a193_147 rfl rfl rfl ?_
        exact ru_call (p := 151) sm_a193_148 rfl (sc_virt (Or.inl rfl) rfl rfl h_2 (Nat.le_of_ble_eq_true rfl)) rfl h
  · have h := h.2 hc_1
    refine ru_go (t := (124, [some (.inr (some a0)), some (.inl x1), some (.inl x2), some (.inl x3), some (.inl x4), some (.inl x5), some (.inl x6), z7], [.inl 0], M)) sm_a193_123 rfl rfl (st_iconst (by decide)) ?_
    exact ru_ret sm_a193_124 (sm_rvz rfl (by decide)) h
theorem bb_193_151 {d : Nat} {M : sm_M} {Q : Option sm_V → sm_M → Prop} {a0 : Nat} {x1 : Int32} {x2 : Int32} {x3 : Int32} {x4 : Int32} {x5 : Int32} {x6 : Int32} {z7 : Option sm_V} {y0 : Int32}
    (h : ((y0 = (-1) → sm_K M a0 = 39 ∧ ∃ b_3, sm_R M a0 9 = some b_3 ∧ sm_iA M b_3 ∧ sm_in_ M b_3 x1 ∧ ∃ b_7, sm_R M a0 9 = some b_7 ∧ sm_iA M b_7 ∧ sm_in_ M b_7 x1 ∧ sm_wA 1 M b_7 ∧ ∃ b_12, sm_R (sm_putI M b_7 (x1).toNatClampNeg ((sm_I M b_7 (x1).toNatClampNeg) + 1)) a0 10 = some b_12 ∧ sm_wA 1 M b_12 ∧ sm_in_ M b_12 ((6 * x1) + (sm_I M b_3 (x1).toNatClampNeg)) ∧ ∃ b_16, sm_R (sm_putI (sm_putI M b_7 (x1).toNatClampNeg ((sm_I M b_7 (x1).toNatClampNeg) + 1)) b_12 ((6 * x1) + (sm_I M b_3 (x1).toNatClampNeg)).toNatClampNeg x2) a0 11 = some b_16 ∧ sm_wA 1 M b_16 ∧ sm_in_ M b_16 ((6 * x1) + (sm_I M b_3 (x1).toNatClampNeg)) ∧ ∃ b_20, sm_R (sm_putI (sm_putI (sm_putI M b_7 (x1).toNatClampNeg ((sm_I M b_7 (x1).toNatClampNeg) + 1)) b_12 ((6 * x1) + (sm_I M b_3 (x1).toNatClampNeg)).toNatClampNeg x2) b_16 ((6 * x1) + (sm_I M b_3 (x1).toNatClampNeg)).toNatClampNeg x3) a0 12 = some b_20 ∧ sm_wA 1 M b_20 ∧ sm_in_ M b_20 ((6 * x1) + (sm_I M b_3 (x1).toNatClampNeg)) ∧ ∃ b_24, sm_R (sm_putI (sm_putI (sm_putI (sm_putI M b_7 (x1).toNatClampNeg ((sm_I M b_7 (x1).toNatClampNeg) + 1)) b_12 ((6 * x1) + (sm_I M b_3 (x1).toNatClampNeg)).toNatClampNeg x2) b_16 ((6 * x1) + (sm_I M b_3 (x1).toNatClampNeg)).toNatClampNeg x3) b_20 ((6 * x1) + (sm_I M b_3 (x1).toNatClampNeg)).toNatClampNeg x4) a0 13 = some b_24 ∧ sm_wA 1 M b_24 ∧ sm_in_ M b_24 ((6 * x1) + (sm_I M b_3 (x1).toNatClampNeg)) ∧ sm_Run (d + 1) 193 213 [some (.inr (some a0)), some (.inl x1), some (.inl x2), some (.inl x3), some (.inl x4), some (.inl x5), some (.inl x6), some (.inl ((6 * x1) + (sm_I M b_3 (x1).toNatClampNeg)))] [] (sm_putI (sm_putI (sm_putI (sm_putI (sm_putI M b_7 (x1).toNatClampNeg ((sm_I M b_7 (x1).toNatClampNeg) + 1)) b_12 ((6 * x1) + (sm_I M b_3 (x1).toNatClampNeg)).toNatClampNeg x2) b_16 ((6 * x1) + (sm_I M b_3 (x1).toNatClampNeg)).toNatClampNeg x3) b_20 ((6 * x1) + (sm_I M b_3 (x1).toNatClampNeg)).toNatClampNeg x4) b_24 ((6 * x1) + (sm_I M b_3 (x1).toNatClampNeg)).toNatClampNeg 0) Q) ∧ (¬ (y0 = (-1)) → Q (some (.inl 0)) M))) :
    sm_Run (d + 1) 193 151 [some (.inr (some a0)), some (.inl x1), some (.inl x2), some (.inl x3), some (.inl x4), some (.inl x5), some (.inl x6), z7] [.inl y0] M Q := by
  refine ru_go (t := (152, [some (.inr (some a0)), some (.inl x1), some (.inl x2), some (.inl x3), some (.inl x4), some (.inl x5), some (.inl x6), z7], [.inl (-1), .inl y0], M)) sm_a193_151 rfl rfl (st_iconst (by decide)) ?_
  refine ru_icmp (pc := 152) (p := 157) (p2 := 155) sm_a193_152 (by decide) rfl ⟨fun hc_1 => ?_, fun hc_1 => ?_⟩
  · have h := h.1 hc_1
    refine ru_go (t := (159, [some (.inr (some a0)), some (.inl x1), some (.inl x2), some (.inl x3), some (.inl x4), some (.inl x5), some (.inl x6), z7], [.inl 6], M)) sm_a193_157 rfl rfl (st_bipush (by decide)) ?_
    refine ru_go (t := (160, [some (.inr (some a0)), some (.inl x1), some (.inl x2), some (.inl x3), some (.inl x4), some (.inl x5), some (.inl x6), z7], [.inl x1, .inl 6], M)) sm_a193_159 rfl rfl rfl ?_
    refine ru_go (t := (161, [some (.inr (some a0)), some (.inl x1), some (.inl x2), some (.inl x3), some (.inl x4), some (.inl x5), some (.inl x6), z7], [.inl (6 * x1)], M)) sm_a193_160 rfl rfl rfl ?_
    refine ru_go (t := (162, [some (.inr (some a0)), some (.inl x1), some (.inl x2), some (.inl x3), some (.inl x4), some (.inl x5), some (.inl x6), z7], [.inr (some a0), .inl (6 * x1)], M)) sm_a193_161 rfl rfl rfl ?_
    obtain ⟨h_2, h⟩ := h
    refine ru_go (t := (165, [some (.inr (some a0)), some (.inl x1), some (.inl x2), some (.inl x3), some (.inl x4), some (.inl x5), some (.inl x6), z7], [.inr (sm_R M a0 9), .inl (6 * x1)], M)) sm_a193_162 rfl rfl (st_getR h_2 rfl rfl) ?_
    refine ru_go (t := (166, [some (.inr (some a0)), some (.inl x1), some (.inl x2), some (.inl x3), some (.inl x4), some (.inl x5), some (.inl x6), z7], [.inl x1, .inr (sm_R M a0 9), .inl (6 * x1)], M)) sm_a193_165 rfl rfl rfl ?_
    obtain ⟨b_3, hb_4, h⟩ := h
    rw [hb_4]
    obtain ⟨h_5, h⟩ := h
    obtain ⟨h_6, h⟩ := h
    refine ru_go (t := (167, [some (.inr (some a0)), some (.inl x1), some (.inl x2), some (.inl x3), some (.inl x4), some (.inl x5), some (.inl x6), z7], [.inl (sm_I M b_3 (x1).toNatClampNeg), .inl (6 * x1)], M)) sm_a193_166 rfl rfl (st_iald h_5 h_6) ?_
    refine ru_go (t := (168, [some (.inr (some a0)), some (.inl x1), some (.inl x2), some (.inl x3), some (.inl x4), some (.inl x5), some (.inl x6), z7], [.inl ((6 * x1) + (sm_I M b_3 (x1).toNatClampNeg))], M)) sm_a193_167 rfl rfl rfl ?_
    refine ru_go (t := (170, [some (.inr (some a0)), some (.inl x1), some (.inl x2), some (.inl x3), some (.inl x4), some (.inl x5), some (.inl x6), some (.inl ((6 * x1) + (sm_I M b_3 (x1).toNatClampNeg)))], [], M)) sm_a193_168 rfl rfl rfl ?_
    refine ru_go (t := (171, [some (.inr (some a0)), some (.inl x1), some (.inl x2), some (.inl x3), some (.inl x4), some (.inl x5), some (.inl x6), some (.inl ((6 * x1) + (sm_I M b_3 (x1).toNatClampNeg)))], [.inr (some a0)], M)) sm_a193_170 rfl rfl rfl ?_
    refine ru_go (t := (174, [some (.inr (some a0)), some (.inl x1), some (.inl x2), some (.inl x3), some (.inl x4), some (.inl x5), some (.inl x6), some (.inl ((6 * x1) + (sm_I M b_3 (x1).toNatClampNeg)))], [.inr (sm_R M a0 9)], M)) sm_a193_171 rfl rfl (st_getR h_2 rfl rfl) ?_
    refine ru_go (t := (175, [some (.inr (some a0)), some (.inl x1), some (.inl x2), some (.inl x3), some (.inl x4), some (.inl x5), some (.inl x6), some (.inl ((6 * x1) + (sm_I M b_3 (x1).toNatClampNeg)))], [.inl x1, .inr (sm_R M a0 9)], M)) sm_a193_174 rfl rfl rfl ?_
    refine ru_go (t := (176, [some (.inr (some a0)), some (.inl x1), some (.inl x2), some (.inl x3), some (.inl x4), some (.inl x5), some (.inl x6), some (.inl ((6 * x1) + (sm_I M b_3 (x1).toNatClampNeg)))], [.inl x1, .inr (sm_R M a0 9), .inl x1, .inr (sm_R M a0 9)], M)) sm_a193_175 rfl rfl rfl ?_
    obtain ⟨b_7, hb_8, h⟩ := h
    rw [hb_8]
    obtain ⟨h_9, h⟩ := h
    obtain ⟨h_10, h⟩ := h
    refine ru_go (t := (177, [some (.inr (some a0)), some (.inl x1), some (.inl x2), some (.inl x3), some (.inl x4), some (.inl x5), some (.inl x6), some (.inl ((6 * x1) + (sm_I M b_3 (x1).toNatClampNeg)))], [.inl (sm_I M b_7 (x1).toNatClampNeg), .inl x1, .inr (some b_7)], M)) sm_a193_176 rfl rfl (st_iald h_9 h_10) ?_
    refine ru_go (t := (178, [some (.inr (some a0)), some (.inl x1), some (.inl x2), some (.inl x3), some (.inl x4), some (.inl x5), some (.inl x6), some (.inl ((6 * x1) + (sm_I M b_3 (x1).toNatClampNeg)))], [.inl 1, .inl (sm_I M b_7 (x1).toNatClampNeg), .inl x1, .inr (some b_7)], M)) sm_a193_177 rfl rfl (st_iconst (by decide)) ?_
    refine ru_go (t := (179, [some (.inr (some a0)), some (.inl x1), some (.inl x2), some (.inl x3), some (.inl x4), some (.inl x5), some (.inl x6), some (.inl ((6 * x1) + (sm_I M b_3 (x1).toNatClampNeg)))], [.inl ((sm_I M b_7 (x1).toNatClampNeg) + 1), .inl x1, .inr (some b_7)], M)) sm_a193_178 rfl rfl rfl ?_
    obtain ⟨h_11, h⟩ := h
    refine ru_go (t := (180, [some (.inr (some a0)), some (.inl x1), some (.inl x2), some (.inl x3), some (.inl x4), some (.inl x5), some (.inl x6), some (.inl ((6 * x1) + (sm_I M b_3 (x1).toNatClampNeg)))], [], sm_putI M b_7 (x1).toNatClampNeg ((sm_I M b_7 (x1).toNatClampNeg) + 1))) sm_a193_179 rfl rfl (st_iast h_11 h_10) ?_
    refine ru_go (t := (181, [some (.inr (some a0)), some (.inl x1), some (.inl x2), some (.inl x3), some (.inl x4), some (.inl x5), some (.inl x6), some (.inl ((6 * x1) + (sm_I M b_3 (x1).toNatClampNeg)))], [.inr (some a0)], sm_putI M b_7 (x1).toNatClampNeg ((sm_I M b_7 (x1).toNatClampNeg) + 1))) sm_a193_180 rfl rfl rfl ?_
    refine ru_go (t := (184, [some (.inr (some a0)), some (.inl x1), some (.inl x2), some (.inl x3), some (.inl x4), some (.inl x5), some (.inl x6), some (.inl ((6 * x1) + (sm_I M b_3 (x1).toNatClampNeg)))], [.inr (sm_R (sm_putI M b_7 (x1).toNatClampNeg ((sm_I M b_7 (x1).toNatClampNeg) + 1)) a0 10)], sm_putI M b_7 (x1).toNatClampNeg ((sm_I M b_7 (x1).toNatClampNeg) + 1))) sm_a193_181 rfl rfl (st_getR h_2 rfl rfl) ?_
    refine ru_go (t := (186, [some (.inr (some a0)), some (.inl x1), some (.inl x2), some (.inl x3), some (.inl x4), some (.inl x5), some (.inl x6), some (.inl ((6 * x1) + (sm_I M b_3 (x1).toNatClampNeg)))], [.inl ((6 * x1) + (sm_I M b_3 (x1).toNatClampNeg)), .inr (sm_R (sm_putI M b_7 (x1).toNatClampNeg ((sm_I M b_7 (x1).toNatClampNeg) + 1)) a0 10)], sm_putI M b_7 (x1).toNatClampNeg ((sm_I M b_7 (x1).toNatClampNeg) + 1))) sm_a193_184 rfl rfl rfl ?_
    refine ru_go (t := (187, [some (.inr (some a0)), some (.inl x1), some (.inl x2), some (.inl x3), some (.inl x4), some (.inl x5), some (.inl x6), some (.inl ((6 * x1) + (sm_I M b_3 (x1).toNatClampNeg)))], [.inl x2, .inl ((6 * x1) + (sm_I M b_3 (x1).toNatClampNeg)), .inr (sm_R (sm_putI M b_7 (x1).toNatClampNeg ((sm_I M b_7 (x1).toNatClampNeg) + 1)) a0 10)], sm_putI M b_7 (x1).toNatClampNeg ((sm_I M b_7 (x1).toNatClampNeg) + 1))) sm_a193_186 rfl rfl rfl ?_
    obtain ⟨b_12, hb_13, h⟩ := h
    rw [hb_13]
    obtain ⟨h_14, h⟩ := h
    obtain ⟨h_15, h⟩ := h
    refine ru_go (t := (188, [some (.inr (some a0)), some (.inl x1), some (.inl x2), some (.inl x3), some (.inl x4), some (.inl x5), some (.inl x6), some (.inl ((6 * x1) + (sm_I M b_3 (x1).toNatClampNeg)))], [], sm_putI (sm_putI M b_7 (x1).toNatClampNeg ((sm_I M b_7 (x1).toNatClampNeg) + 1)) b_12 ((6 * x1) + (sm_I M b_3 (x1).toNatClampNeg)).toNatClampNeg x2)) sm_a193_187 rfl rfl (st_iast h_14 h_15) ?_
    refine ru_go (t := (189, [some (.inr (some a0)), some (.inl x1), some (.inl x2), some (.inl x3), some (.inl x4), some (.inl x5), some (.inl x6), some (.inl ((6 * x1) + (sm_I M b_3 (x1).toNatClampNeg)))], [.inr (some a0)], sm_putI (sm_putI M b_7 (x1).toNatClampNeg ((sm_I M b_7 (x1).toNatClampNeg) + 1)) b_12 ((6 * x1) + (sm_I M b_3 (x1).toNatClampNeg)).toNatClampNeg x2)) sm_a193_188 rfl rfl rfl ?_
    refine ru_go (t := (192, [some (.inr (some a0)), some (.inl x1), some (.inl x2), some (.inl x3), some (.inl x4), some (.inl x5), some (.inl x6), some (.inl ((6 * x1) + (sm_I M b_3 (x1).toNatClampNeg)))], [.inr (sm_R (sm_putI (sm_putI M b_7 (x1).toNatClampNeg ((sm_I M b_7 (x1).toNatClampNeg) + 1)) b_12 ((6 * x1) + (sm_I M b_3 (x1).toNatClampNeg)).toNatClampNeg x2) a0 11)], sm_putI (sm_putI M b_7 (x1).toNatClampNeg ((sm_I M b_7 (x1).toNatClampNeg) + 1)) b_12 ((6 * x1) + (sm_I M b_3 (x1).toNatClampNeg)).toNatClampNeg x2)) sm_a193_189 rfl rfl (st_getR h_2 rfl rfl) ?_
    refine ru_go (t := (194, [some (.inr (some a0)), some (.inl x1), some (.inl x2), some (.inl x3), some (.inl x4), some (.inl x5), some (.inl x6), some (.inl ((6 * x1) + (sm_I M b_3 (x1).toNatClampNeg)))], [.inl ((6 * x1) + (sm_I M b_3 (x1).toNatClampNeg)), .inr (sm_R (sm_putI (sm_putI M b_7 (x1).toNatClampNeg ((sm_I M b_7 (x1).toNatClampNeg) + 1)) b_12 ((6 * x1) + (sm_I M b_3 (x1).toNatClampNeg)).toNatClampNeg x2) a0 11)], sm_putI (sm_putI M b_7 (x1).toNatClampNeg ((sm_I M b_7 (x1).toNatClampNeg) + 1)) b_12 ((6 * x1) + (sm_I M b_3 (x1).toNatClampNeg)).toNatClampNeg x2)) sm_a193_192 rfl rfl rfl ?_
    refine ru_go (t := (195, [some (.inr (some a0)), some (.inl x1), some (.inl x2), some (.inl x3), some (.inl x4), some (.inl x5), some (.inl x6), some (.inl ((6 * x1) + (sm_I M b_3 (x1).toNatClampNeg)))], [.inl x3, .inl ((6 * x1) + (sm_I M b_3 (x1).toNatClampNeg)), .inr (sm_R (sm_putI (sm_putI M b_7 (x1).toNatClampNeg ((sm_I M b_7 (x1).toNatClampNeg) + 1)) b_12 ((6 * x1) + (sm_I M b_3 (x1).toNatClampNeg)).toNatClampNeg x2) a0 11)], sm_putI (sm_putI M b_7 (x1).toNatClampNeg ((sm_I M b_7 (x1).toNatClampNeg) + 1)) b_12 ((6 * x1) + (sm_I M b_3 (x1).toNatClampNeg)).toNatClampNeg x2)) sm_a193_194 rfl rfl rfl ?_
    obtain ⟨b_16, hb_17, h⟩ := h
    rw [hb_17]
    obtain ⟨h_18, h⟩ := h
    obtain ⟨h_19, h⟩ := h
    refine ru_go (t := (196, [some (.inr (some a0)), some (.inl x1), some (.inl x2), some (.inl x3), some (.inl x4), some (.inl x5), some (.inl x6), some (.inl ((6 * x1) + (sm_I M b_3 (x1).toNatClampNeg)))], [], sm_putI (sm_putI (sm_putI M b_7 (x1).toNatClampNeg ((sm_I M b_7 (x1).toNatClampNeg) + 1)) b_12 ((6 * x1) + (sm_I M b_3 (x1).toNatClampNeg)).toNatClampNeg x2) b_16 ((6 * x1) + (sm_I M b_3 (x1).toNatClampNeg)).toNatClampNeg x3)) sm_a193_195 rfl rfl (st_iast h_18 h_19) ?_
    refine ru_go (t := (197, [some (.inr (some a0)), some (.inl x1), some (.inl x2), some (.inl x3), some (.inl x4), some (.inl x5), some (.inl x6), some (.inl ((6 * x1) + (sm_I M b_3 (x1).toNatClampNeg)))], [.inr (some a0)], sm_putI (sm_putI (sm_putI M b_7 (x1).toNatClampNeg ((sm_I M b_7 (x1).toNatClampNeg) + 1)) b_12 ((6 * x1) + (sm_I M b_3 (x1).toNatClampNeg)).toNatClampNeg x2) b_16 ((6 * x1) + (sm_I M b_3 (x1).toNatClampNeg)).toNatClampNeg x3)) sm_a193_196 rfl rfl rfl ?_
    refine ru_go (t := (200, [some (.inr (some a0)), some (.inl x1), some (.inl x2), some (.inl x3), some (.inl x4), some (.inl x5), some (.inl x6), some (.inl ((6 * x1) + (sm_I M b_3 (x1).toNatClampNeg)))], [.inr (sm_R (sm_putI (sm_putI (sm_putI M b_7 (x1).toNatClampNeg ((sm_I M b_7 (x1).toNatClampNeg) + 1)) b_12 ((6 * x1) + (sm_I M b_3 (x1).toNatClampNeg)).toNatClampNeg x2) b_16 ((6 * x1) + (sm_I M b_3 (x1).toNatClampNeg)).toNatClampNeg x3) a0 12)], sm_putI (sm_putI (sm_putI M b_7 (x1).toNatClampNeg ((sm_I M b_7 (x1).toNatClampNeg) + 1)) b_12 ((6 * x1) + (sm_I M b_3 (x1).toNatClampNeg)).toNatClampNeg x2) b_16 ((6 * x1) + (sm_I M b_3 (x1).toNatClampNeg)).toNatClampNeg x3)) sm_a193_197 rfl rfl (st_getR h_2 rfl rfl) ?_
    refine ru_go (t := (202, [some (.inr (some a0)), some (.inl x1), some (.inl x2), some (.inl x3), some (.inl x4), some (.inl x5), some (.inl x6), some (.inl ((6 * x1) + (sm_I M b_3 (x1).toNatClampNeg)))], [.inl ((6 * x1) + (sm_I M b_3 (x1).toNatClampNeg)), .inr (sm_R (sm_putI (sm_putI (sm_putI M b_7 (x1).toNatClampNeg ((sm_I M b_7 (x1).toNatClampNeg) + 1)) b_12 ((6 * x1) + (sm_I M b_3 (x1).toNatClampNeg)).toNatClampNeg x2) b_16 ((6 * x1) + (sm_I M b_3 (x1).toNatClampNeg)).toNatClampNeg x3) a0 12)], sm_putI (sm_putI (sm_putI M b_7 (x1).toNatClampNeg ((sm_I M b_7 (x1).toNatClampNeg) + 1)) b_12 ((6 * x1) + (sm_I M b_3 (x1).toNatClampNeg)).toNatClampNeg x2) b_16 ((6 * x1) + (sm_I M b_3 (x1).toNatClampNeg)).toNatClampNeg x3)) sm_a193_200 rfl rfl rfl ?_
    refine ru_go (t := (204, [some (.inr (some a0)), some (.inl x1), some (.inl x2), some (.inl x3), some (.inl x4), some (.inl x5), some (.inl x6), some (.inl ((6 * x1) + (sm_I M b_3 (x1).toNatClampNeg)))], [.inl x4, .inl ((6 * x1) + (sm_I M b_3 (x1).toNatClampNeg)), .inr (sm_R (sm_putI (sm_putI (sm_putI M b_7 (x1).toNatClampNeg ((sm_I M b_7 (x1).toNatClampNeg) + 1)) b_12 ((6 * x1) + (sm_I M b_3 (x1).toNatClampNeg)).toNatClampNeg x2) b_16 ((6 * x1) + (sm_I M b_3 (x1).toNatClampNeg)).toNatClampNeg x3) a0 12)], sm_putI (sm_putI (sm_putI M b_7 (x1).toNatClampNeg ((sm_I M b_7 (x1).toNatClampNeg) + 1)) b_12 ((6 * x1) + (sm_I M b_3 (x1).toNatClampNeg)).toNatClampNeg x2) b_16 ((6 * x1) + (sm_I M b_3 (x1).toNatClampNeg)).toNatClampNeg x3)) sm_a193_202 rfl rfl rfl ?_
    obtain ⟨b_20, hb_21, h⟩ := h
    rw [hb_21]
    obtain ⟨h_22, h⟩ := h
    obtain ⟨h_23, h⟩ := h
    refine ru_go (t := (205, [some (.inr (some a0)), some (.inl x1), some (.inl x2), some (.inl x3), some (.inl x4), some (.inl x5), some (.inl x6), some (.inl ((6 * x1) + (sm_I M b_3 (x1).toNatClampNeg)))], [], sm_putI (sm_putI (sm_putI (sm_putI M b_7 (x1).toNatClampNeg ((sm_I M b_7 (x1).toNatClampNeg) + 1)) b_12 ((6 * x1) + (sm_I M b_3 (x1).toNatClampNeg)).toNatClampNeg x2) b_16 ((6 * x1) + (sm_I M b_3 (x1).toNatClampNeg)).toNatClampNeg x3) b_20 ((6 * x1) + (sm_I M b_3 (x1).toNatClampNeg)).toNatClampNeg x4)) sm_a193_204 rfl rfl (st_iast h_22 h_23) ?_
    refine ru_go (t := (206, [some (.inr (some a0)), some (.inl x1), some (.inl x2), some (.inl x3), some (.inl x4), some (.inl x5), some (.inl x6), some (.inl ((6 * x1) + (sm_I M b_3 (x1).toNatClampNeg)))], [.inr (some a0)], sm_putI (sm_putI (sm_putI (sm_putI M b_7 (x1).toNatClampNeg ((sm_I M b_7 (x1).toNatClampNeg) + 1)) b_12 ((6 * x1) + (sm_I M b_3 (x1).toNatClampNeg)).toNatClampNeg x2) b_16 ((6 * x1) + (sm_I M b_3 (x1).toNatClampNeg)).toNatClampNeg x3) b_20 ((6 * x1) + (sm_I M b_3 (x1).toNatClampNeg)).toNatClampNeg x4)) sm_a193_205 rfl rfl rfl ?_
    refine ru_go (t := (209, [some (.inr (some a0)), some (.inl x1), some (.inl x2), some (.inl x3), some (.inl x4), some (.inl x5), some (.inl x6), some (.inl ((6 * x1) + (sm_I M b_3 (x1).toNatClampNeg)))], [.inr (sm_R (sm_putI (sm_putI (sm_putI (sm_putI M b_7 (x1).toNatClampNeg ((sm_I M b_7 (x1).toNatClampNeg) + 1)) b_12 ((6 * x1) + (sm_I M b_3 (x1).toNatClampNeg)).toNatClampNeg x2) b_16 ((6 * x1) + (sm_I M b_3 (x1).toNatClampNeg)).toNatClampNeg x3) b_20 ((6 * x1) + (sm_I M b_3 (x1).toNatClampNeg)).toNatClampNeg x4) a0 13)], sm_putI (sm_putI (sm_putI (sm_putI M b_7 (x1).toNatClampNeg ((sm_I M b_7 (x1).toNatClampNeg) + 1)) b_12 ((6 * x1) + (sm_I M b_3 (x1).toNatClampNeg)).toNatClampNeg x2) b_16 ((6 * x1) + (sm_I M b_3 (x1).toNatClampNeg)).toNatClampNeg x3) b_20 ((6 * x1) + (sm_I M b_3 (x1).toNatClampNeg)).toNatClampNeg x4)) sm_a193_206 rfl rfl (st_getR h_2 rfl rfl) ?_
    refine ru_go (t := (211, [some (.inr (some a0)), some (.inl x1), some (.inl x2), some (.inl x3), some (.inl x4), some (.inl x5), some (.inl x6), some (.inl ((6 * x1) + (sm_I M b_3 (x1).toNatClampNeg)))], [.inl ((6 * x1) + (sm_I M b_3 (x1).toNatClampNeg)), .inr (sm_R (sm_putI (sm_putI (sm_putI (sm_putI M b_7 (x1).toNatClampNeg ((sm_I M b_7 (x1).toNatClampNeg) + 1)) b_12 ((6 * x1) + (sm_I M b_3 (x1).toNatClampNeg)).toNatClampNeg x2) b_16 ((6 * x1) + (sm_I M b_3 (x1).toNatClampNeg)).toNatClampNeg x3) b_20 ((6 * x1) + (sm_I M b_3 (x1).toNatClampNeg)).toNatClampNeg x4) a0 13)], sm_putI (sm_putI (sm_putI (sm_putI M b_7 (x1).toNatClampNeg ((sm_I M b_7 (x1).toNatClampNeg) + 1)) b_12 ((6 * x1) + (sm_I M b_3 (x1).toNatClampNeg)).toNatClampNeg x2) b_16 ((6 * x1) + (sm_I M b_3 (x1).toNatClampNeg)).toNatClampNeg x3) b_20 ((6 * x1) + (sm_I M b_3 (x1).toNatClampNeg)).toNatClampNeg x4)) sm_a193_209 rfl rfl rfl ?_
    refine ru_go (t := (212, [some (.inr (some a0)), some (.inl x1), some (.inl x2), some (.inl x3), some (.inl x4), some (.inl x5), some (.inl x6), some (.inl ((6 * x1) + (sm_I M b_3 (x1).toNatClampNeg)))], [.inl 0, .inl ((6 * x1) + (sm_I M b_3 (x1).toNatClampNeg)), .inr (sm_R (sm_putI (sm_putI (sm_putI (sm_putI M b_7 (x1).toNatClampNeg ((sm_I M b_7 (x1).toNatClampNeg) + 1)) b_12 ((6 * x1) + (sm_I M b_3 (x1).toNatClampNeg)).toNatClampNeg x2) b_16 ((6 * x1) + (sm_I M b_3 (x1).toNatClampNeg)).toNatClampNeg x3) b_20 ((6 * x1) + (sm_I M b_3 (x1).toNatClampNeg)).toNatClampNeg x4) a0 13)], sm_putI (sm_putI (sm_putI (sm_putI M b_7 (x1).toNatClampNeg ((sm_I M b_7 (x1).toNatClampNeg) + 1)) b_12 ((6 * x1) + (sm_I M b_3 (x1).toNatClampNeg)).toNatClampNeg x2) b_16 ((6 * x1) + (sm_I M b_3 (x1).toNatClampNeg)).toNatClampNeg x3) b_20 ((6 * x1) + (sm_I M b_3 (x1).toNatClampNeg)).toNatClampNeg x4)) sm_a193_211 rfl rfl (st_iconst (by decide)) ?_
    obtain ⟨b_24, hb_25, h⟩ := h
    rw [hb_25]
    obtain ⟨h_26, h⟩ := h
    obtain ⟨h_27, h⟩ := h
    refine ru_go (t := (213, [some (.inr (some a0)), some (.inl x1), some (.inl x2), some (.inl x3), some (.inl x4), some (.inl x5), some (.inl x6), some (.inl ((6 * x1) + (sm_I M b_3 (x1).toNatClampNeg)))], [], sm_putI (sm_putI (sm_putI (sm_putI (sm_putI M b_7 (x1).toNatClampNeg ((sm_I M b_7 (x1).toNatClampNeg) + 1)) b_12 ((6 * x1) + (sm_I M b_3 (x1).toNatClampNeg)).toNatClampNeg x2) b_16 ((6 * x1) + (sm_I M b_3 (x1).toNatClampNeg)).toNatClampNeg x3) b_20 ((6 * x1) + (sm_I M b_3 (x1).toNatClampNeg)).toNatClampNeg x4) b_24 ((6 * x1) + (sm_I M b_3 (x1).toNatClampNeg)).toNatClampNeg 0)) sm_a193_212 rfl rfl (st_iast h_26 h_27) ?_
    exact h
  · have h := h.2 hc_1
    refine ru_go (t := (156, [some (.inr (some a0)), some (.inl x1), some (.inl x2), some (.inl x3), some (.inl x4), some (.inl x5), some (.inl x6), z7], [.inl 0], M)) sm_a193_155 rfl rfl (st_iconst (by decide)) ?_
    exact ru_ret sm_a193_156 (sm_rvz rfl (by decide)) h
theorem bb_193_213 {d : Nat} {M : sm_M} {Q : Option sm_V → sm_M → Prop} {a0 : Nat} {x1 : Int32} {x2 : Int32} {x3 : Int32} {x4 : Int32} {x5 : Int32} {x6 : Int32} {x7 : Int32}
    (h : sm_K M a0 = 39 ∧ ∃ b_2, sm_R M a0 14 = some b_2 ∧ sm_wZ 1 M b_2 ∧ sm_in_ M b_2 x7 ∧ ∃ b_6, sm_R (sm_putI M b_2 (x7).toNatClampNeg 0) a0 15 = some b_6 ∧ sm_wA 1 M b_6 ∧ sm_in_ M b_6 x7 ∧ ∃ b_10, sm_R (sm_putI (sm_putI M b_2 (x7).toNatClampNeg 0) b_6 (x7).toNatClampNeg 0) a0 16 = some b_10 ∧ sm_wA 1 M b_10 ∧ sm_in_ M b_10 x7 ∧ Q (some (.inl 1)) (sm_putI (sm_putI (sm_putI M b_2 (x7).toNatClampNeg 0) b_6 (x7).toNatClampNeg 0) b_10 (x7).toNatClampNeg (-1))) :
    sm_Run (d + 1) 193 213 [some (.inr (some a0)), some (.inl x1), some (.inl x2), some (.inl x3), some (.inl x4), some (.inl x5), some (.inl x6), some (.inl x7)] [] M Q := by
  refine ru_go (t := (214, [some (.inr (some a0)), some (.inl x1), some (.inl x2), some (.inl x3), some (.inl x4), some (.inl x5), some (.inl x6), some (.inl x7)], [.inr (some a0)], M)) sm_a193_213 rfl rfl rfl ?_
  obtain ⟨h_1, h⟩ := h
  refine ru_go (t := (217, [some (.inr (some a0)), some (.inl x1), some (.inl x2), some (.inl x3), some (.inl x4), some (.inl x5), some (.inl x6), some (.inl x7)], [.inr (sm_R M a0 14)], M)) sm_a193_214 rfl rfl (st_getR h_1 rfl rfl) ?_
  refine ru_go (t := (219, [some (.inr (some a0)), some (.inl x1), some (.inl x2), some (.inl x3), some (.inl x4), some (.inl x5), some (.inl x6), some (.inl x7)], [.inl x7, .inr (sm_R M a0 14)], M)) sm_a193_217 rfl rfl rfl ?_
  refine ru_go (t := (220, [some (.inr (some a0)), some (.inl x1), some (.inl x2), some (.inl x3), some (.inl x4), some (.inl x5), some (.inl x6), some (.inl x7)], [.inl 0, .inl x7, .inr (sm_R M a0 14)], M)) sm_a193_219 rfl rfl (st_iconst (by decide)) ?_
  obtain ⟨b_2, hb_3, h⟩ := h
  rw [hb_3]
  obtain ⟨h_4, h⟩ := h
  obtain ⟨h_5, h⟩ := h
  refine ru_go (t := (221, [some (.inr (some a0)), some (.inl x1), some (.inl x2), some (.inl x3), some (.inl x4), some (.inl x5), some (.inl x6), some (.inl x7)], [], sm_putI M b_2 (x7).toNatClampNeg 0)) sm_a193_220 rfl rfl (st_zast h_4 h_5 (by decide)) ?_
  refine ru_go (t := (222, [some (.inr (some a0)), some (.inl x1), some (.inl x2), some (.inl x3), some (.inl x4), some (.inl x5), some (.inl x6), some (.inl x7)], [.inr (some a0)], sm_putI M b_2 (x7).toNatClampNeg 0)) sm_a193_221 rfl rfl rfl ?_
  refine ru_go (t := (225, [some (.inr (some a0)), some (.inl x1), some (.inl x2), some (.inl x3), some (.inl x4), some (.inl x5), some (.inl x6), some (.inl x7)], [.inr (sm_R (sm_putI M b_2 (x7).toNatClampNeg 0) a0 15)], sm_putI M b_2 (x7).toNatClampNeg 0)) sm_a193_222 rfl rfl (st_getR h_1 rfl rfl) ?_
  refine ru_go (t := (227, [some (.inr (some a0)), some (.inl x1), some (.inl x2), some (.inl x3), some (.inl x4), some (.inl x5), some (.inl x6), some (.inl x7)], [.inl x7, .inr (sm_R (sm_putI M b_2 (x7).toNatClampNeg 0) a0 15)], sm_putI M b_2 (x7).toNatClampNeg 0)) sm_a193_225 rfl rfl rfl ?_
  refine ru_go (t := (228, [some (.inr (some a0)), some (.inl x1), some (.inl x2), some (.inl x3), some (.inl x4), some (.inl x5), some (.inl x6), some (.inl x7)], [.inl 0, .inl x7, .inr (sm_R (sm_putI M b_2 (x7).toNatClampNeg 0) a0 15)], sm_putI M b_2 (x7).toNatClampNeg 0)) sm_a193_227 rfl rfl (st_iconst (by decide)) ?_
  obtain ⟨b_6, hb_7, h⟩ := h
  rw [hb_7]
  obtain ⟨h_8, h⟩ := h
  obtain ⟨h_9, h⟩ := h
  refine ru_go (t := (229, [some (.inr (some a0)), some (.inl x1), some (.inl x2), some (.inl x3), some (.inl x4), some (.inl x5), some (.inl x6), some (.inl x7)], [], sm_putI (sm_putI M b_2 (x7).toNatClampNeg 0) b_6 (x7).toNatClampNeg 0)) sm_a193_228 rfl rfl (st_iast h_8 h_9) ?_
  refine ru_go (t := (230, [some (.inr (some a0)), some (.inl x1), some (.inl x2), some (.inl x3), some (.inl x4), some (.inl x5), some (.inl x6), some (.inl x7)], [.inr (some a0)], sm_putI (sm_putI M b_2 (x7).toNatClampNeg 0) b_6 (x7).toNatClampNeg 0)) sm_a193_229 rfl rfl rfl ?_
  refine ru_go (t := (233, [some (.inr (some a0)), some (.inl x1), some (.inl x2), some (.inl x3), some (.inl x4), some (.inl x5), some (.inl x6), some (.inl x7)], [.inr (sm_R (sm_putI (sm_putI M b_2 (x7).toNatClampNeg 0) b_6 (x7).toNatClampNeg 0) a0 16)], sm_putI (sm_putI M b_2 (x7).toNatClampNeg 0) b_6 (x7).toNatClampNeg 0)) sm_a193_230 rfl rfl (st_getR h_1 rfl rfl) ?_
  refine ru_go (t := (235, [some (.inr (some a0)), some (.inl x1), some (.inl x2), some (.inl x3), some (.inl x4), some (.inl x5), some (.inl x6), some (.inl x7)], [.inl x7, .inr (sm_R (sm_putI (sm_putI M b_2 (x7).toNatClampNeg 0) b_6 (x7).toNatClampNeg 0) a0 16)], sm_putI (sm_putI M b_2 (x7).toNatClampNeg 0) b_6 (x7).toNatClampNeg 0)) sm_a193_233 rfl rfl rfl ?_
  refine ru_go (t := (236, [some (.inr (some a0)), some (.inl x1), some (.inl x2), some (.inl x3), some (.inl x4), some (.inl x5), some (.inl x6), some (.inl x7)], [.inl (-1), .inl x7, .inr (sm_R (sm_putI (sm_putI M b_2 (x7).toNatClampNeg 0) b_6 (x7).toNatClampNeg 0) a0 16)], sm_putI (sm_putI M b_2 (x7).toNatClampNeg 0) b_6 (x7).toNatClampNeg 0)) sm_a193_235 rfl rfl (st_iconst (by decide)) ?_
  obtain ⟨b_10, hb_11, h⟩ := h
  rw [hb_11]
  obtain ⟨h_12, h⟩ := h
  obtain ⟨h_13, h⟩ := h
  refine ru_go (t := (237, [some (.inr (some a0)), some (.inl x1), some (.inl x2), some (.inl x3), some (.inl x4), some (.inl x5), some (.inl x6), some (.inl x7)], [], sm_putI (sm_putI (sm_putI M b_2 (x7).toNatClampNeg 0) b_6 (x7).toNatClampNeg 0) b_10 (x7).toNatClampNeg (-1))) sm_a193_236 rfl rfl (st_iast h_12 h_13) ?_
  refine ru_go (t := (238, [some (.inr (some a0)), some (.inl x1), some (.inl x2), some (.inl x3), some (.inl x4), some (.inl x5), some (.inl x6), some (.inl x7)], [.inl 1], sm_putI (sm_putI (sm_putI M b_2 (x7).toNatClampNeg 0) b_6 (x7).toNatClampNeg 0) b_10 (x7).toNatClampNeg (-1))) sm_a193_237 rfl rfl (st_iconst (by decide)) ?_
  exact ru_ret sm_a193_238 (sm_rvz rfl (by decide)) h

/-! WireBusModel.attach:(I)Z -/
theorem sm_a194_0 : sm_at 194 0 = some (.iconst 0, 1, (0, 0, 0, 0)) := by decide +kernel
theorem sm_a194_1 : sm_at 194 1 = some (.istore_n 2, 1, (0, 0, 0, 0)) := by decide +kernel
theorem sm_a194_2 : sm_at 194 2 = some (.iconst 0, 1, (0, 0, 0, 0)) := by decide +kernel
theorem sm_a194_3 : sm_at 194 3 = some (.istore_n 3, 1, (0, 0, 0, 0)) := by decide +kernel
theorem sm_a194_4 : sm_at 194 4 = some (.iload_n 3, 1, (0, 0, 0, 0)) := by decide +kernel
theorem sm_a194_5 : sm_at 194 5 = some (.bipush 6, 2, (0, 0, 0, 0)) := by decide +kernel
theorem sm_a194_7 : sm_at 194 7 = some (.if_icmp .ge 29, 3, (0, 0, 0, 0)) := by decide +kernel
theorem sm_a194_10 : sm_at 194 10 = some (.iload_n 2, 1, (0, 0, 0, 0)) := by decide +kernel
theorem sm_a194_11 : sm_at 194 11 = some (.ifCond .ne 13, 3, (0, 0, 0, 0)) := by decide +kernel
theorem sm_a194_14 : sm_at 194 14 = some (.aload_n 0, 1, (0, 0, 0, 0)) := by decide +kernel
theorem sm_a194_15 : sm_at 194 15 = some (.getfield 16, 3, (12, 4, 0, 1187)) := by decide +kernel
theorem sm_a194_18 : sm_at 194 18 = some (.iload_n 3, 1, (0, 0, 0, 0)) := by decide +kernel
theorem sm_a194_19 : sm_at 194 19 = some (.iaload, 1, (0, 0, 0, 0)) := by decide +kernel
theorem sm_a194_20 : sm_at 194 20 = some (.iconst 1, 1, (0, 0, 0, 0)) := by decide +kernel
theorem sm_a194_21 : sm_at 194 21 = some (.if_icmp .ne 7, 3, (0, 0, 0, 0)) := by decide +kernel
theorem sm_a194_24 : sm_at 194 24 = some (.iconst 1, 1, (0, 0, 0, 0)) := by decide +kernel
theorem sm_a194_25 : sm_at 194 25 = some (.goto 4, 3, (0, 0, 0, 0)) := by decide +kernel
theorem sm_a194_28 : sm_at 194 28 = some (.iconst 0, 1, (0, 0, 0, 0)) := by decide +kernel
theorem sm_a194_29 : sm_at 194 29 = some (.istore_n 2, 1, (0, 0, 0, 0)) := by decide +kernel
theorem sm_a194_30 : sm_at 194 30 = some (.iinc 3 1, 3, (0, 0, 0, 0)) := by decide +kernel
theorem sm_a194_33 : sm_at 194 33 = some (.goto (-29), 3, (0, 0, 0, 0)) := by decide +kernel
theorem sm_a194_36 : sm_at 194 36 = some (.iload_n 1, 1, (0, 0, 0, 0)) := by decide +kernel
theorem sm_a194_37 : sm_at 194 37 = some (.ifCond .lt 22, 3, (0, 0, 0, 0)) := by decide +kernel
theorem sm_a194_40 : sm_at 194 40 = some (.iload_n 1, 1, (0, 0, 0, 0)) := by decide +kernel
theorem sm_a194_41 : sm_at 194 41 = some (.iconst 5, 1, (0, 0, 0, 0)) := by decide +kernel
theorem sm_a194_42 : sm_at 194 42 = some (.if_icmp .gt 17, 3, (0, 0, 0, 0)) := by decide +kernel
theorem sm_a194_45 : sm_at 194 45 = some (.iload_n 2, 1, (0, 0, 0, 0)) := by decide +kernel
theorem sm_a194_46 : sm_at 194 46 = some (.ifCond .ne 13, 3, (0, 0, 0, 0)) := by decide +kernel
theorem sm_a194_49 : sm_at 194 49 = some (.aload_n 0, 1, (0, 0, 0, 0)) := by decide +kernel
theorem sm_a194_50 : sm_at 194 50 = some (.getfield 332, 3, (12, 70, 0, 1253)) := by decide +kernel
theorem sm_a194_53 : sm_at 194 53 = some (.sipush 290, 3, (0, 0, 0, 0)) := by decide +kernel
theorem sm_a194_56 : sm_at 194 56 = some (.if_icmp .lt 5, 3, (0, 0, 0, 0)) := by decide +kernel
theorem sm_a194_59 : sm_at 194 59 = some (.iconst 0, 1, (0, 0, 0, 0)) := by decide +kernel
theorem sm_a194_60 : sm_at 194 60 = some (.ireturn, 1, (0, 0, 0, 0)) := by decide +kernel
theorem sm_a194_61 : sm_at 194 61 = some (.aload_n 0, 1, (0, 0, 0, 0)) := by decide +kernel
theorem sm_a194_62 : sm_at 194 62 = some (.getfield 16, 3, (12, 4, 0, 1187)) := by decide +kernel
theorem sm_a194_65 : sm_at 194 65 = some (.iload_n 1, 1, (0, 0, 0, 0)) := by decide +kernel
theorem sm_a194_66 : sm_at 194 66 = some (.iaload, 1, (0, 0, 0, 0)) := by decide +kernel
theorem sm_a194_67 : sm_at 194 67 = some (.ifCond .eq 5, 3, (0, 0, 0, 0)) := by decide +kernel
theorem sm_a194_70 : sm_at 194 70 = some (.iconst 0, 1, (0, 0, 0, 0)) := by decide +kernel
theorem sm_a194_71 : sm_at 194 71 = some (.ireturn, 1, (0, 0, 0, 0)) := by decide +kernel
theorem sm_a194_72 : sm_at 194 72 = some (.aload_n 0, 1, (0, 0, 0, 0)) := by decide +kernel
theorem sm_a194_73 : sm_at 194 73 = some (.getfield 16, 3, (12, 4, 0, 1187)) := by decide +kernel
theorem sm_a194_76 : sm_at 194 76 = some (.iload_n 1, 1, (0, 0, 0, 0)) := by decide +kernel
theorem sm_a194_77 : sm_at 194 77 = some (.iconst 1, 1, (0, 0, 0, 0)) := by decide +kernel
theorem sm_a194_78 : sm_at 194 78 = some (.iastore, 1, (1, 0, 0, 0)) := by decide +kernel
theorem sm_a194_79 : sm_at 194 79 = some (.aload_n 0, 1, (0, 0, 0, 0)) := by decide +kernel
theorem sm_a194_80 : sm_at 194 80 = some (.getfield 19, 3, (12, 5, 0, 1188)) := by decide +kernel
theorem sm_a194_83 : sm_at 194 83 = some (.iload_n 1, 1, (0, 0, 0, 0)) := by decide +kernel
theorem sm_a194_84 : sm_at 194 84 = some (.iconst 0, 1, (0, 0, 0, 0)) := by decide +kernel
theorem sm_a194_85 : sm_at 194 85 = some (.iastore, 1, (1, 0, 0, 0)) := by decide +kernel
theorem sm_a194_86 : sm_at 194 86 = some (.aload_n 0, 1, (0, 0, 0, 0)) := by decide +kernel
theorem sm_a194_87 : sm_at 194 87 = some (.getfield 62, 3, (12, 19, 0, 1202)) := by decide +kernel
theorem sm_a194_90 : sm_at 194 90 = some (.iload_n 1, 1, (0, 0, 0, 0)) := by decide +kernel
theorem sm_a194_91 : sm_at 194 91 = some (.iconst 0, 1, (0, 0, 0, 0)) := by decide +kernel
theorem sm_a194_92 : sm_at 194 92 = some (.iastore, 1, (1, 0, 0, 0)) := by decide +kernel
theorem sm_a194_93 : sm_at 194 93 = some (.aload_n 0, 1, (0, 0, 0, 0)) := by decide +kernel
theorem sm_a194_94 : sm_at 194 94 = some (.getfield 68, 3, (12, 21, 0, 1204)) := by decide +kernel
theorem sm_a194_97 : sm_at 194 97 = some (.iload_n 1, 1, (0, 0, 0, 0)) := by decide +kernel
theorem sm_a194_98 : sm_at 194 98 = some (.iconst 0, 1, (0, 0, 0, 0)) := by decide +kernel
theorem sm_a194_99 : sm_at 194 99 = some (.iastore, 1, (1, 0, 0, 0)) := by decide +kernel
theorem sm_a194_100 : sm_at 194 100 = some (.aload_n 0, 1, (0, 0, 0, 0)) := by decide +kernel
theorem sm_a194_101 : sm_at 194 101 = some (.getfield 89, 3, (12, 28, 0, 1211)) := by decide +kernel
theorem sm_a194_104 : sm_at 194 104 = some (.iload_n 1, 1, (0, 0, 0, 0)) := by decide +kernel
theorem sm_a194_105 : sm_at 194 105 = some (.iconst (-1), 1, (0, 0, 0, 0)) := by decide +kernel
theorem sm_a194_106 : sm_at 194 106 = some (.iastore, 1, (1, 0, 0, 0)) := by decide +kernel
theorem sm_a194_107 : sm_at 194 107 = some (.aload_n 0, 1, (0, 0, 0, 0)) := by decide +kernel
theorem sm_a194_108 : sm_at 194 108 = some (.getfield 95, 3, (12, 30, 0, 1213)) := by decide +kernel
theorem sm_a194_111 : sm_at 194 111 = some (.iload_n 1, 1, (0, 0, 0, 0)) := by decide +kernel
theorem sm_a194_112 : sm_at 194 112 = some (.iconst (-1), 1, (0, 0, 0, 0)) := by decide +kernel
theorem sm_a194_113 : sm_at 194 113 = some (.iastore, 1, (1, 0, 0, 0)) := by decide +kernel
theorem sm_a194_114 : sm_at 194 114 = some (.bipush 6, 2, (0, 0, 0, 0)) := by decide +kernel
theorem sm_a194_116 : sm_at 194 116 = some (.iload_n 1, 1, (0, 0, 0, 0)) := by decide +kernel
theorem sm_a194_117 : sm_at 194 117 = some (.imul, 1, (0, 0, 0, 0)) := by decide +kernel
theorem sm_a194_118 : sm_at 194 118 = some (.istore_n 3, 1, (0, 0, 0, 0)) := by decide +kernel
theorem sm_a194_119 : sm_at 194 119 = some (.iload_n 3, 1, (0, 0, 0, 0)) := by decide +kernel
theorem sm_a194_120 : sm_at 194 120 = some (.bipush 6, 2, (0, 0, 0, 0)) := by decide +kernel
theorem sm_a194_122 : sm_at 194 122 = some (.iload_n 1, 1, (0, 0, 0, 0)) := by decide +kernel
theorem sm_a194_123 : sm_at 194 123 = some (.imul, 1, (0, 0, 0, 0)) := by decide +kernel
theorem sm_a194_124 : sm_at 194 124 = some (.bipush 6, 2, (0, 0, 0, 0)) := by decide +kernel
theorem sm_a194_126 : sm_at 194 126 = some (.iadd, 1, (0, 0, 0, 0)) := by decide +kernel
theorem sm_a194_127 : sm_at 194 127 = some (.if_icmp .ge 37, 3, (0, 0, 0, 0)) := by decide +kernel
theorem sm_a194_130 : sm_at 194 130 = some (.aload_n 0, 1, (0, 0, 0, 0)) := by decide +kernel
theorem sm_a194_131 : sm_at 194 131 = some (.getfield 43, 3, (12, 13, 0, 1196)) := by decide +kernel
theorem sm_a194_134 : sm_at 194 134 = some (.iload_n 3, 1, (0, 0, 0, 0)) := by decide +kernel
theorem sm_a194_135 : sm_at 194 135 = some (.iconst 0, 1, (0, 0, 0, 0)) := by decide +kernel
theorem sm_a194_136 : sm_at 194 136 = some (.iastore, 1, (1, 0, 0, 0)) := by decide +kernel
theorem sm_a194_137 : sm_at 194 137 = some (.aload_n 0, 1, (0, 0, 0, 0)) := by decide +kernel
theorem sm_a194_138 : sm_at 194 138 = some (.getfield 46, 3, (12, 14, 0, 1197)) := by decide +kernel
theorem sm_a194_141 : sm_at 194 141 = some (.iload_n 3, 1, (0, 0, 0, 0)) := by decide +kernel
theorem sm_a194_142 : sm_at 194 142 = some (.iconst 0, 1, (0, 0, 0, 0)) := by decide +kernel
theorem sm_a194_143 : sm_at 194 143 = some (.bastore, 1, (1, 0, 0, 0)) := by decide +kernel
theorem sm_a194_144 : sm_at 194 144 = some (.aload_n 0, 1, (0, 0, 0, 0)) := by decide +kernel
theorem sm_a194_145 : sm_at 194 145 = some (.getfield 50, 3, (12, 15, 0, 1198)) := by decide +kernel
theorem sm_a194_148 : sm_at 194 148 = some (.iload_n 3, 1, (0, 0, 0, 0)) := by decide +kernel
theorem sm_a194_149 : sm_at 194 149 = some (.iconst 0, 1, (0, 0, 0, 0)) := by decide +kernel
theorem sm_a194_150 : sm_at 194 150 = some (.iastore, 1, (1, 0, 0, 0)) := by decide +kernel
theorem sm_a194_151 : sm_at 194 151 = some (.aload_n 0, 1, (0, 0, 0, 0)) := by decide +kernel
theorem sm_a194_152 : sm_at 194 152 = some (.getfield 53, 3, (12, 16, 0, 1199)) := by decide +kernel
theorem sm_a194_155 : sm_at 194 155 = some (.iload_n 3, 1, (0, 0, 0, 0)) := by decide +kernel
theorem sm_a194_156 : sm_at 194 156 = some (.iconst (-1), 1, (0, 0, 0, 0)) := by decide +kernel
theorem sm_a194_157 : sm_at 194 157 = some (.iastore, 1, (1, 0, 0, 0)) := by decide +kernel
theorem sm_a194_158 : sm_at 194 158 = some (.iinc 3 1, 3, (0, 0, 0, 0)) := by decide +kernel
theorem sm_a194_161 : sm_at 194 161 = some (.goto (-42), 3, (0, 0, 0, 0)) := by decide +kernel
theorem sm_a194_164 : sm_at 194 164 = some (.aload_n 0, 1, (0, 0, 0, 0)) := by decide +kernel
theorem sm_a194_165 : sm_at 194 165 = some (.getfield 149, 3, (12, 57, 0, 1240)) := by decide +kernel
theorem sm_a194_168 : sm_at 194 168 = some (.iload_n 1, 1, (0, 0, 0, 0)) := by decide +kernel
theorem sm_a194_169 : sm_at 194 169 = some (.iconst 1, 1, (0, 0, 0, 0)) := by decide +kernel
theorem sm_a194_170 : sm_at 194 170 = some (.iastore, 1, (1, 0, 0, 0)) := by decide +kernel
theorem sm_a194_171 : sm_at 194 171 = some (.aload_n 0, 1, (0, 0, 0, 0)) := by decide +kernel
theorem sm_a194_172 : sm_at 194 172 = some (.getfield 152, 3, (12, 58, 0, 1241)) := by decide +kernel
theorem sm_a194_175 : sm_at 194 175 = some (.iload_n 1, 1, (0, 0, 0, 0)) := by decide +kernel
theorem sm_a194_176 : sm_at 194 176 = some (.bipush 8, 2, (0, 0, 0, 0)) := by decide +kernel
theorem sm_a194_178 : sm_at 194 178 = some (.iastore, 1, (1, 0, 0, 0)) := by decide +kernel
theorem sm_a194_179 : sm_at 194 179 = some (.aload_n 0, 1, (0, 0, 0, 0)) := by decide +kernel
theorem sm_a194_180 : sm_at 194 180 = some (.getfield 155, 3, (12, 59, 0, 1242)) := by decide +kernel
theorem sm_a194_183 : sm_at 194 183 = some (.iload_n 1, 1, (0, 0, 0, 0)) := by decide +kernel
theorem sm_a194_184 : sm_at 194 184 = some (.iconst 0, 1, (0, 0, 0, 0)) := by decide +kernel
theorem sm_a194_185 : sm_at 194 185 = some (.iastore, 1, (1, 0, 0, 0)) := by decide +kernel
theorem sm_a194_186 : sm_at 194 186 = some (.aload_n 0, 1, (0, 0, 0, 0)) := by decide +kernel
theorem sm_a194_187 : sm_at 194 187 = some (.getfield 161, 3, (12, 61, 0, 1244)) := by decide +kernel
theorem sm_a194_190 : sm_at 194 190 = some (.iload_n 1, 1, (0, 0, 0, 0)) := by decide +kernel
theorem sm_a194_191 : sm_at 194 191 = some (.iconst 0, 1, (0, 0, 0, 0)) := by decide +kernel
theorem sm_a194_192 : sm_at 194 192 = some (.iastore, 1, (1, 0, 0, 0)) := by decide +kernel
theorem sm_a194_193 : sm_at 194 193 = some (.aload_n 0, 1, (0, 0, 0, 0)) := by decide +kernel
theorem sm_a194_194 : sm_at 194 194 = some (.iload_n 1, 1, (0, 0, 0, 0)) := by decide +kernel
theorem sm_a194_195 : sm_at 194 195 = some (.iconst 0, 1, (0, 0, 0, 0)) := by decide +kernel
theorem sm_a194_196 : sm_at 194 196 = some (.invokevirtual 388, 3, (10, 188, 12, 1478)) := by decide +kernel
theorem sm_a194_199 : sm_at 194 199 = some (.iconst 1, 1, (0, 0, 0, 0)) := by decide +kernel
theorem sm_a194_200 : sm_at 194 200 = some (.ireturn, 1, (0, 0, 0, 0)) := by decide +kernel
theorem bb_194_0 {d : Nat} {M : sm_M} {Q : Option sm_V → sm_M → Prop} {a0 : Nat} {x1 : Int32} {z2 : Option sm_V} {z3 : Option sm_V}
    (h : sm_Run (d + 1) 194 4 [some (.inr (some a0)), some (.inl x1), some (.inl 0), some (.inl 0)] [] M Q) :
    sm_Run (d + 1) 194 0 [some (.inr (some a0)), some (.inl x1), z2, z3] [] M Q := by
  refine ru_go (t := (1, [some (.inr (some a0)), some (.inl x1), z2, z3], [.inl 0], M)) sm_a194_0 rfl rfl (st_iconst (by decide)) ?_
  refine ru_go (t := (2, [some (.inr (some a0)), some (.inl x1), some (.inl 0), z3], [], M)) sm_a194_1 rfl rfl rfl ?_
  refine ru_go (t := (3, [some (.inr (some a0)), some (.inl x1), some (.inl 0), z3], [.inl 0], M)) sm_a194_2 rfl rfl (st_iconst (by decide)) ?_
  refine ru_go (t := (4, [some (.inr (some a0)), some (.inl x1), some (.inl 0), some (.inl 0)], [], M)) sm_a194_3 rfl rfl rfl ?_
  exact h
theorem bb_194_4 {d : Nat} {M : sm_M} {Q : Option sm_V → sm_M → Prop} {a0 : Nat} {x1 : Int32} {x2 : Int32} {x3 : Int32}
    (h : ((6 ≤ x3 → ((x1 < 0 → Q (some (.inl 0)) M) ∧ (¬ (x1 < 0) → ((5 < x1 → Q (some (.inl 0)) M) ∧ (¬ (5 < x1) → ((¬ x2 = 0 → Q (some (.inl 0)) M) ∧ (¬ (¬ x2 = 0) → sm_K M a0 = 39 ∧ (((sm_I M a0 70) < 290 → ∃ b_7, sm_R M a0 4 = some b_7 ∧ sm_iA M b_7 ∧ sm_in_ M b_7 x1 ∧ (((sm_I M b_7 (x1).toNatClampNeg) = 0 → ∃ b_12, sm_R M a0 4 = some b_12 ∧ sm_wA 1 M b_12 ∧ sm_in_ M b_12 x1 ∧ ∃ b_16, sm_R (sm_putI M b_12 (x1).toNatClampNeg 1) a0 5 = some b_16 ∧ sm_wA 1 M b_16 ∧ sm_in_ M b_16 x1 ∧ ∃ b_20, sm_R (sm_putI (sm_putI M b_12 (x1).toNatClampNeg 1) b_16 (x1).toNatClampNeg 0) a0 19 = some b_20 ∧ sm_wA 1 M b_20 ∧ sm_in_ M b_20 x1 ∧ ∃ b_24, sm_R (sm_putI (sm_putI (sm_putI M b_12 (x1).toNatClampNeg 1) b_16 (x1).toNatClampNeg 0) b_20 (x1).toNatClampNeg 0) a0 21 = some b_24 ∧ sm_wA 1 M b_24 ∧ sm_in_ M b_24 x1 ∧ ∃ b_28, sm_R (sm_putI (sm_putI (sm_putI (sm_putI M b_12 (x1).toNatClampNeg 1) b_16 (x1).toNatClampNeg 0) b_20 (x1).toNatClampNeg 0) b_24 (x1).toNatClampNeg 0) a0 28 = some b_28 ∧ sm_wA 1 M b_28 ∧ sm_in_ M b_28 x1 ∧ ∃ b_32, sm_R (sm_putI (sm_putI (sm_putI (sm_putI (sm_putI M b_12 (x1).toNatClampNeg 1) b_16 (x1).toNatClampNeg 0) b_20 (x1).toNatClampNeg 0) b_24 (x1).toNatClampNeg 0) b_28 (x1).toNatClampNeg (-1)) a0 30 = some b_32 ∧ sm_wA 1 M b_32 ∧ sm_in_ M b_32 x1 ∧ sm_Run (d + 1) 194 119 [some (.inr (some a0)), some (.inl x1), some (.inl x2), some (.inl (6 * x1))] [] (sm_putI (sm_putI (sm_putI (sm_putI (sm_putI (sm_putI M b_12 (x1).toNatClampNeg 1) b_16 (x1).toNatClampNeg 0) b_20 (x1).toNatClampNeg 0) b_24 (x1).toNatClampNeg 0) b_28 (x1).toNatClampNeg (-1)) b_32 (x1).toNatClampNeg (-1)) Q) ∧ (¬ ((sm_I M b_7 (x1).toNatClampNeg) = 0) → Q (some (.inl 0)) M))) ∧ (¬ ((sm_I M a0 70) < 290) → Q (some (.inl 0)) M))))))))) ∧ (¬ (6 ≤ x3) → ((¬ x2 = 0 → sm_Run (d + 1) 194 4 [some (.inr (some a0)), some (.inl x1), some (.inl 1), some (.inl (x3 + 1))] [] M Q) ∧ (¬ (¬ x2 = 0) → sm_K M a0 = 39 ∧ ∃ b_38, sm_R M a0 4 = some b_38 ∧ sm_iA M b_38 ∧ sm_in_ M b_38 x3 ∧ ((¬ (sm_I M b_38 (x3).toNatClampNeg) = 1 → sm_Run (d + 1) 194 4 [some (.inr (some a0)), some (.inl x1), some (.inl 0), some (.inl (x3 + 1))] [] M Q) ∧ (¬ (¬ (sm_I M b_38 (x3).toNatClampNeg) = 1) → sm_Run (d + 1) 194 4 [some (.inr (some a0)), some (.inl x1), some (.inl 1), some (.inl (x3 + 1))] [] M Q))))))) :
    sm_Run (d + 1) 194 4 [some (.inr (some a0)), some (.inl x1), some (.inl x2), some (.inl x3)] [] M Q := by
  refine ru_go (t := (5, [some (.inr (some a0)), some (.inl x1), some (.inl x2), some (.inl x3)], [.inl x3], M)) sm_a194_4 rfl rfl rfl ?_
  refine ru_go (t := (7, [some (.inr (some a0)), some (.inl x1), some (.inl x2), some (.inl x3)], [.inl 6, .inl x3], M)) sm_a194_5 rfl rfl (st_bipush (by decide)) ?_
  refine ru_icmp (pc := 7) (p := 36) (p2 := 10) sm_a194_7 (by decide) rfl ⟨fun hc_1 => ?_, fun hc_1 => ?_⟩
  · have h := h.1 hc_1
    refine ru_go (t := (37, [some (.inr (some a0)), some (.inl x1), some (.inl x2), some (.inl x3)], [.inl x1], M)) sm_a194_36 rfl rfl rfl ?_
    refine ru_if (pc := 37) (p := 59) (p2 := 40) sm_a194_37 (by decide) rfl ⟨fun hc_2 => ?_, fun hc_2 => ?_⟩
    · have h := h.1 hc_2
      refine ru_go (t := (60, [some (.inr (some a0)), some (.inl x1), some (.inl x2), some (.inl x3)], [.inl 0], M)) sm_a194_59 rfl rfl (st_iconst (by decide)) ?_
      exact ru_ret sm_a194_60 (sm_rvz rfl (by decide)) h
    · have h := h.2 hc_2
      refine ru_go (t := (41, [some (.inr (some a0)), some (.inl x1), some (.inl x2), some (.inl x3)], [.inl x1], M)) sm_a194_40 rfl rfl rfl ?_
      refine ru_go (t := (42, [some (.inr (some a0)), some (.inl x1), some (.inl x2), some (.inl x3)], [.inl 5, .inl x1], M)) sm_a194_41 rfl rfl (st_iconst (by decide)) ?_
      refine ru_icmp (pc := 42) (p := 59) (p2 := 45) sm_a194_42 (by decide) rfl ⟨fun hc_3 => ?_, fun hc_3 => ?_⟩
      · have h := h.1 hc_3
        refine ru_go (t := (60, [some (.inr (some a0)), some (.inl x1), some (.inl x2), some (.inl x3)], [.inl 0], M)) sm_a194_59 rfl rfl (st_iconst (by decide)) ?_
        exact ru_ret sm_a194_60 (sm_rvz rfl (by decide)) h
      · have h := h.2 hc_3
        refine ru_go (t := (46, [some (.inr (some a0)), some (.inl x1), some (.inl x2), some (.inl x3)], [.inl x2], M)) sm_a194_45 rfl rfl rfl ?_
        refine ru_if (pc := 46) (p := 59) (p2 := 49) sm_a194_46 (by decide) rfl ⟨fun hc_4 => ?_, fun hc_4 => ?_⟩
        · have h := h.1 hc_4
          refine ru_go (t := (60, [some (.inr (some a0)), some (.inl x1), some (.inl x2), some (.inl x3)], [.inl 0], M)) sm_a194_59 rfl rfl (st_iconst (by decide)) ?_
          exact ru_ret sm_a194_60 (sm_rvz rfl (by decide)) h
        · have h := h.2 hc_4
          refine ru_go (t := (50, [some (.inr (some a0)), some (.inl x1), some (.inl x2), some (.inl x3)], [.inr (some a0)], M)) sm_a194_49 rfl rfl rfl ?_
          obtain ⟨h_5, h⟩ := h
          refine ru_go (t := (53, [some (.inr (some a0)), some (.inl x1), some (.inl x2), some (.inl x3)], [.inl (sm_I M a0 70)], M)) sm_a194_50 rfl rfl (st_getI h_5 rfl) ?_
          refine ru_go (t := (56, [some (.inr (some a0)), some (.inl x1), some (.inl x2), some (.inl x3)], [.inl 290, .inl (sm_I M a0 70)], M)) sm_a194_53 rfl rfl (st_sipush (by decide)) ?_
          refine ru_icmp (pc := 56) (p := 61) (p2 := 59) sm_a194_56 (by decide) rfl ⟨fun hc_6 => ?_, fun hc_6 => ?_⟩
          · have h := h.1 hc_6
            refine ru_go (t := (62, [some (.inr (some a0)), some (.inl x1), some (.inl x2), some (.inl x3)], [.inr (some a0)], M)) sm_a194_61 rfl rfl rfl ?_
            refine ru_go (t := (65, [some (.inr (some a0)), some (.inl x1), some (.inl x2), some (.inl x3)], [.inr (sm_R M a0 4)], M)) sm_a194_62 rfl rfl (st_getR h_5 rfl rfl) ?_
            refine ru_go (t := (66, [some (.inr (some a0)), some (.inl x1), some (.inl x2), some (.inl x3)], [.inl x1, .inr (sm_R M a0 4)], M)) sm_a194_65 rfl rfl rfl ?_
            obtain ⟨b_7, hb_8, h⟩ := h
            rw [hb_8]
            obtain ⟨h_9, h⟩ := h
            obtain ⟨h_10, h⟩ := h
            refine ru_go (t := (67, [some (.inr (some a0)), some (.inl x1), some (.inl x2), some (.inl x3)], [.inl (sm_I M b_7 (x1).toNatClampNeg)], M)) sm_a194_66 rfl rfl (st_iald h_9 h_10) ?_
            refine ru_if (pc := 67) (p := 72) (p2 := 70) sm_a194_67 (by decide) rfl ⟨fun hc_11 => ?_, fun hc_11 => ?_⟩
            · have h := h.1 hc_11
              refine ru_go (t := (73, [some (.inr (some a0)), some (.inl x1), some (.inl x2), some (.inl x3)], [.inr (some a0)], M)) sm_a194_72 rfl rfl rfl ?_
              refine ru_go (t := (76, [some (.inr (some a0)), some (.inl x1), some (.inl x2), some (.inl x3)], [.inr (sm_R M a0 4)], M)) sm_a194_73 rfl rfl (st_getR h_5 rfl rfl) ?_
              refine ru_go (t := (77, [some (.inr (some a0)), some (.inl x1), some (.inl x2), some (.inl x3)], [.inl x1, .inr (sm_R M a0 4)], M)) sm_a194_76 rfl rfl rfl ?_
              refine ru_go (t := (78, [some (.inr (some a0)), some (.inl x1), some (.inl x2), some (.inl x3)], [.inl 1, .inl x1, .inr (sm_R M a0 4)], M)) sm_a194_77 rfl rfl (st_iconst (by decide)) ?_
              obtain ⟨b_12, hb_13, h⟩ := h
              rw [hb_13]
              obtain ⟨h_14, h⟩ := h
              obtain ⟨h_15, h⟩ := h
              refine ru_go (t := (79, [some (.inr (some a0)), some (.inl x1), some (.inl x2), some (.inl x3)], [], sm_putI M b_12 (x1).toNatClampNeg 1)) sm_a194_78 rfl rfl (st_iast h_14 h_15) ?_
              refine ru_go (t := (80, [some (.inr (some a0)), some (.inl x1), some (.inl x2), some (.inl x3)], [.inr (some a0)], sm_putI M b_12 (x1).toNatClampNeg 1)) sm_a194_79 rfl rfl rfl ?_
              refine ru_go (t := (83, [some (.inr (some a0)), some (.inl x1), some (.inl x2), some (.inl x3)], [.inr (sm_R (sm_putI M b_12 (x1).toNatClampNeg 1) a0 5)], sm_putI M b_12 (x1).toNatClampNeg 1)) sm_a194_80 rfl rfl (st_getR h_5 rfl rfl) ?_
              refine ru_go (t := (84, [some (.inr (some a0)), some (.inl x1), some (.inl x2), some (.inl x3)], [.inl x1, .inr (sm_R (sm_putI M b_12 (x1).toNatClampNeg 1) a0 5)], sm_putI M b_12 (x1).toNatClampNeg 1)) sm_a194_83 rfl rfl rfl ?_
              refine ru_go (t := (85, [some (.inr (some a0)), some (.inl x1), some (.inl x2), some (.inl x3)], [.inl 0, .inl x1, .inr (sm_R (sm_putI M b_12 (x1).toNatClampNeg 1) a0 5)], sm_putI M b_12 (x1).toNatClampNeg 1)) sm_a194_84 rfl rfl (st_iconst (by decide)) ?_
              obtain ⟨b_16, hb_17, h⟩ := h
              rw [hb_17]
              obtain ⟨h_18, h⟩ := h
              obtain ⟨h_19, h⟩ := h
              refine ru_go (t := (86, [some (.inr (some a0)), some (.inl x1), some (.inl x2), some (.inl x3)], [], sm_putI (sm_putI M b_12 (x1).toNatClampNeg 1) b_16 (x1).toNatClampNeg 0)) sm_a194_85 rfl rfl (st_iast h_18 h_19) ?_
              refine ru_go (t := (87, [some (.inr (some a0)), some (.inl x1), some (.inl x2), some (.inl x3)], [.inr (some a0)], sm_putI (sm_putI M b_12 (x1).toNatClampNeg 1) b_16 (x1).toNatClampNeg 0)) sm_a194_86 rfl rfl rfl ?_
              refine ru_go (t := (90, [some (.inr (some a0)), some (.inl x1), some (.inl x2), some (.inl x3)], [.inr (sm_R (sm_putI (sm_putI M b_12 (x1).toNatClampNeg 1) b_16 (x1).toNatClampNeg 0) a0 19)], sm_putI (sm_putI M b_12 (x1).toNatClampNeg 1) b_16 (x1).toNatClampNeg 0)) sm_a194_87 rfl rfl (st_getR h_5 rfl rfl) ?_
              refine ru_go (t := (91, [some (.inr (some a0)), some (.inl x1), some (.inl x2), some (.inl x3)], [.inl x1, .inr (sm_R (sm_putI (sm_putI M b_12 (x1).toNatClampNeg 1) b_16 (x1).toNatClampNeg 0) a0 19)], sm_putI (sm_putI M b_12 (x1).toNatClampNeg 1) b_16 (x1).toNatClampNeg 0)) sm_a194_90 rfl rfl rfl ?_
              refine ru_go (t := (92, [some (.inr (some a0)), some (.inl x1), some (.inl x2), some (.inl x3)], [.inl 0, .inl x1, .inr (sm_R (sm_putI (sm_putI M b_12 (x1).toNatClampNeg 1) b_16 (x1).toNatClampNeg 0) a0 19)], sm_putI (sm_putI M b_12 (x1).toNatClampNeg 1) b_16 (x1).toNatClampNeg 0)) sm_a194_91 rfl rfl (st_iconst (by decide)) ?_
              obtain ⟨b_20, hb_21, h⟩ := h
              rw [hb_21]
              obtain ⟨h_22, h⟩ := h
              obtain ⟨h_23, h⟩ := h
              refine ru_go (t := (93, [some (.inr (some a0)), some (.inl x1), some (.inl x2), some (.inl x3)], [], sm_putI (sm_putI (sm_putI M b_12 (x1).toNatClampNeg 1) b_16 (x1).toNatClampNeg 0) b_20 (x1).toNatClampNeg 0)) sm_a194_92 rfl rfl (st_iast h_22 h_23) ?_
              refine ru_go (t := (94, [some (.inr (some a0)), some (.inl x1), some (.inl x2), some (.inl x3)], [.inr (some a0)], sm_putI (sm_putI (sm_putI M b_12 (x1).toNatClampNeg 1) b_16 (x1).toNatClampNeg 0) b_20 (x1).toNatClampNeg 0)) sm_a194_93 rfl rfl rfl ?_
              refine ru_go (t := (97, [some (.inr (some a0)), some (.inl x1), some (.inl x2), some (.inl x3)], [.inr (sm_R (sm_putI (sm_putI (sm_putI M b_12 (x1).toNatClampNeg 1) b_16 (x1).toNatClampNeg 0) b_20 (x1).toNatClampNeg 0) a0 21)], sm_putI (sm_putI (sm_putI M b_12 (x1).toNatClampNeg 1) b_16 (x1).toNatClampNeg 0) b_20 (x1).toNatClampNeg 0)) sm_a194_94 rfl rfl (st_getR h_5 rfl rfl) ?_
              refine ru_go (t := (98, [some (.inr (some a0)), some (.inl x1), some (.inl x2), some (.inl x3)], [.inl x1, .inr (sm_R (sm_putI (sm_putI (sm_putI M b_12 (x1).toNatClampNeg 1) b_16 (x1).toNatClampNeg 0) b_20 (x1).toNatClampNeg 0) a0 21)], sm_putI (sm_putI (sm_putI M b_12 (x1).toNatClampNeg 1) b_16 (x1).toNatClampNeg 0) b_20 (x1).toNatClampNeg 0)) sm_a194_97 rfl rfl rfl ?_
              refine ru_go (t := (99, [some (.inr (some a0)), some (.inl x1), some (.inl x2), some (.inl x3)], [.inl 0, .inl x1, .inr (sm_R (sm_putI (sm_putI (sm_putI M b_12 (x1).toNatClampNeg 1) b_16 (x1).toNatClampNeg 0) b_20 (x1).toNatClampNeg 0) a0 21)], sm_putI (sm_putI (sm_putI M b_12 (x1).toNatClampNeg 1) b_16 (x1).toNatClampNeg 0) b_20 (x1).toNatClampNeg 0)) sm_a194_98 rfl rfl (st_iconst (by decide)) ?_
              obtain ⟨b_24, hb_25, h⟩ := h
              rw [hb_25]
              obtain ⟨h_26, h⟩ := h
              obtain ⟨h_27, h⟩ := h
              refine ru_go (t := (100, [some (.inr (some a0)), some (.inl x1), some (.inl x2), some (.inl x3)], [], sm_putI (sm_putI (sm_putI (sm_putI M b_12 (x1).toNatClampNeg 1) b_16 (x1).toNatClampNeg 0) b_20 (x1).toNatClampNeg 0) b_24 (x1).toNatClampNeg 0)) sm_a194_99 rfl rfl (st_iast h_26 h_27) ?_
              refine ru_go (t := (101, [some (.inr (some a0)), some (.inl x1), some (.inl x2), some (.inl x3)], [.inr (some a0)], sm_putI (sm_putI (sm_putI (sm_putI M b_12 (x1).toNatClampNeg 1) b_16 (x1).toNatClampNeg 0) b_20 (x1).toNatClampNeg 0) b_24 (x1).toNatClampNeg 0)) sm_a194_100 rfl rfl rfl ?_
              refine ru_go (t := (104, [some (.inr (some a0)), some (.inl x1), some (.inl x2), some (.inl x3)], [.inr (sm_R (sm_putI (sm_putI (sm_putI (sm_putI M b_12 (x1).toNatClampNeg 1) b_16 (x1).toNatClampNeg 0) b_20 (x1).toNatClampNeg 0) b_24 (x1).toNatClampNeg 0) a0 28)], sm_putI (sm_putI (sm_putI (sm_putI M b_12 (x1).toNatClampNeg 1) b_16 (x1).toNatClampNeg 0) b_20 (x1).toNatClampNeg 0) b_24 (x1).toNatClampNeg 0)) sm_a194_101 rfl rfl (st_getR h_5 rfl rfl) ?_
              refine ru_go (t := (105, [some (.inr (some a0)), some (.inl x1), some (.inl x2), some (.inl x3)], [.inl x1, .inr (sm_R (sm_putI (sm_putI (sm_putI (sm_putI M b_12 (x1).toNatClampNeg 1) b_16 (x1).toNatClampNeg 0) b_20 (x1).toNatClampNeg 0) b_24 (x1).toNatClampNeg 0) a0 28)], sm_putI (sm_putI (sm_putI (sm_putI M b_12 (x1).toNatClampNeg 1) b_16 (x1).toNatClampNeg 0) b_20 (x1).toNatClampNeg 0) b_24 (x1).toNatClampNeg 0)) sm_a194_104 rfl rfl rfl ?_
              refine ru_go (t := (106, [some (.inr (some a0)), some (.inl x1), some (.inl x2), some (.inl x3)], [.inl (-1), .inl x1, .inr (sm_R (sm_putI (sm_putI (sm_putI (sm_putI M b_12 (x1).toNatClampNeg 1) b_16 (x1).toNatClampNeg 0) b_20 (x1).toNatClampNeg 0) b_24 (x1).toNatClampNeg 0) a0 28)], sm_putI (sm_putI (sm_putI (sm_putI M b_12 (x1).toNatClampNeg 1) b_16 (x1).toNatClampNeg 0) b_20 (x1).toNatClampNeg 0) b_24 (x1).toNatClampNeg 0)) sm_a194_105 rfl rfl (st_iconst (by decide)) ?_
              obtain ⟨b_28, hb_29, h⟩ := h
              rw [hb_29]
              obtain ⟨h_30, h⟩ := h
              obtain ⟨h_31, h⟩ := h
              refine ru_go (t := (107, [some (.inr (some a0)), some (.inl x1), some (.inl x2), some (.inl x3)], [], sm_putI (sm_putI (sm_putI (sm_putI (sm_putI M b_12 (x1).toNatClampNeg 1) b_16 (x1).toNatClampNeg 0) b_20 (x1).toNatClampNeg 0) b_24 (x1).toNatClampNeg 0) b_28 (x1).toNatClampNeg (-1))) sm_a194_106 rfl rfl (st_iast h_30 h_31) ?_
              refine ru_go (t := (108, [some (.inr (some a0)), some (.inl x1), some (.inl x2), some (.inl x3)], [.inr (some a0)], sm_putI (sm_putI (sm_putI (sm_putI (sm_putI M b_12 (x1).toNatClampNeg 1) b_16 (x1).toNatClampNeg 0) b_20 (x1).toNatClampNeg 0) b_24 (x1).toNatClampNeg 0) b_28 (x1).toNatClampNeg (-1))) sm_a194_107 rfl rfl rfl ?_
              refine ru_go (t := (111, [some (.inr (some a0)), some (.inl x1), some (.inl x2), some (.inl x3)], [.inr (sm_R (sm_putI (sm_putI (sm_putI (sm_putI (sm_putI M b_12 (x1).toNatClampNeg 1) b_16 (x1).toNatClampNeg 0) b_20 (x1).toNatClampNeg 0) b_24 (x1).toNatClampNeg 0) b_28 (x1).toNatClampNeg (-1)) a0 30)], sm_putI (sm_putI (sm_putI (sm_putI (sm_putI M b_12 (x1).toNatClampNeg 1) b_16 (x1).toNatClampNeg 0) b_20 (x1).toNatClampNeg 0) b_24 (x1).toNatClampNeg 0) b_28 (x1).toNatClampNeg (-1))) sm_a194_108 rfl rfl (st_getR h_5 rfl rfl) ?_
              refine ru_go (t := (112, [some (.inr (some a0)), some (.inl x1), some (.inl x2), some (.inl x3)], [.inl x1, .inr (sm_R (sm_putI (sm_putI (sm_putI (sm_putI (sm_putI M b_12 (x1).toNatClampNeg 1) b_16 (x1).toNatClampNeg 0) b_20 (x1).toNatClampNeg 0) b_24 (x1).toNatClampNeg 0) b_28 (x1).toNatClampNeg (-1)) a0 30)], sm_putI (sm_putI (sm_putI (sm_putI (sm_putI M b_12 (x1).toNatClampNeg 1) b_16 (x1).toNatClampNeg 0) b_20 (x1).toNatClampNeg 0) b_24 (x1).toNatClampNeg 0) b_28 (x1).toNatClampNeg (-1))) sm_a194_111 rfl rfl rfl ?_
              refine ru_go (t := (113, [some (.inr (some a0)), some (.inl x1), some (.inl x2), some (.inl x3)], [.inl (-1), .inl x1, .inr (sm_R (sm_putI (sm_putI (sm_putI (sm_putI (sm_putI M b_12 (x1).toNatClampNeg 1) b_16 (x1).toNatClampNeg 0) b_20 (x1).toNatClampNeg 0) b_24 (x1).toNatClampNeg 0) b_28 (x1).toNatClampNeg (-1)) a0 30)], sm_putI (sm_putI (sm_putI (sm_putI (sm_putI M b_12 (x1).toNatClampNeg 1) b_16 (x1).toNatClampNeg 0) b_20 (x1).toNatClampNeg 0) b_24 (x1).toNatClampNeg 0) b_28 (x1).toNatClampNeg (-1))) sm_a194_112 rfl rfl (st_iconst (by decide)) ?_
              obtain ⟨b_32, hb_33, h⟩ := h
              rw [hb_33]
              obtain ⟨h_34, h⟩ := h
              obtain ⟨h_35, h⟩ := h
              refine ru_go (t := (114, [some (.inr (some a0)), some (.inl x1), some (.inl x2), some (.inl x3)], [], sm_putI (sm_putI (sm_putI (sm_putI (sm_putI (sm_putI M b_12 (x1).toNatClampNeg 1) b_16 (x1).toNatClampNeg 0) b_20 (x1).toNatClampNeg 0) b_24 (x1).toNatClampNeg 0) b_28 (x1).toNatClampNeg (-1)) b_32 (x1).toNatClampNeg (-1))) sm_a194_113 rfl rfl (st_iast h_34 h_35) ?_
              refine ru_go (t := (116, [some (.inr (some a0)), some (.inl x1), some (.inl x2), some (.inl x3)], [.inl 6], sm_putI (sm_putI (sm_putI (sm_putI (sm_putI (sm_putI M b_12 (x1).toNatClampNeg 1) b_16 (x1).toNatClampNeg 0) b_20 (x1).toNatClampNeg 0) b_24 (x1).toNatClampNeg 0) b_28 (x1).toNatClampNeg (-1)) b_32 (x1).toNatClampNeg (-1))) sm_a194_114 rfl rfl (st_bipush (by decide)) ?_
              refine ru_go (t := (117, [some (.inr (some a0)), some (.inl x1), some (.inl x2), some (.inl x3)], [.inl x1, .inl 6], sm_putI (sm_putI (sm_putI (sm_putI (sm_putI (sm_putI M b_12 (x1).toNatClampNeg 1) b_16 (x1).toNatClampNeg 0) b_20 (x1).toNatClampNeg 0) b_24 (x1).toNatClampNeg 0) b_28 (x1).toNatClampNeg (-1)) b_32 (x1).toNatClampNeg (-1))) sm_a194_116 rfl rfl rfl ?_
              refine ru_go (t := (118, [some (.inr (some a0)), some (.inl x1), some (.inl x2), some (.inl x3)], [.inl (6 * x1)], sm_putI (sm_putI (sm_putI (sm_putI (sm_putI (sm_putI M b_12 (x1).toNatClampNeg 1) b_16 (x1).toNatClampNeg 0) b_20 (x1).toNatClampNeg 0) b_24 (x1).toNatClampNeg 0) b_28 (x1).toNatClampNeg (-1)) b_32 (x1).toNatClampNeg (-1))) sm_a194_117 rfl rfl rfl ?_
              refine ru_go (t := (119, [some (.inr (some a0)), some (.inl x1), some (.inl x2), some (.inl (6 * x1))], [], sm_putI (sm_putI (sm_putI (sm_putI (sm_putI (sm_putI M b_12 (x1).toNatClampNeg 1) b_16 (x1).toNatClampNeg 0) b_20 (x1).toNatClampNeg 0) b_24 (x1).toNatClampNeg 0) b_28 (x1).toNatClampNeg (-1)) b_32 (x1).toNatClampNeg (-1))) sm_a194_118 rfl rfl rfl ?_
              exact h
            · have h := h.2 hc_11
              refine ru_go (t := (71, [some (.inr (some a0)), some (.inl x1), some (.inl x2), some (.inl x3)], [.inl 0], M)) sm_a194_70 rfl rfl (st_iconst (by decide)) ?_
              exact ru_ret sm_a194_71 (sm_rvz rfl (by decide)) h
          · have h := h.2 hc_6
            refine ru_go (t := (60, [some (.inr (some a0)), some (.inl x1), some (.inl x2), some (.inl x3)], [.inl 0], M)) sm_a194_59 rfl rfl (st_iconst (by decide)) ?_
            exact ru_ret sm_a194_60 (sm_rvz rfl (by decide)) h
  · have h := h.2 hc_1
    refine ru_go (t := (11, [some (.inr (some a0)), some (.inl x1), some (.inl x2), some (.inl x3)], [.inl x2], M)) sm_a194_10 rfl rfl rfl ?_
    refine ru_if (pc := 11) (p := 24) (p2 := 14) sm_a194_11 (by decide) rfl ⟨fun hc_36 => ?_, fun hc_36 => ?_⟩
    · have h := h.1 hc_36
      refine ru_go (t := (25, [some (.inr (some a0)), some (.inl x1), some (.inl x2), some (.inl x3)], [.inl 1], M)) sm_a194_24 rfl rfl (st_iconst (by decide)) ?_
      refine ru_go (t := (29, [some (.inr (some a0)), some (.inl x1), some (.inl x2), some (.inl x3)], [.inl 1], M)) sm_a194_25 rfl rfl (st_goto (pc := 25) (by decide)) ?_
      refine ru_go (t := (30, [some (.inr (some a0)), some (.inl x1), some (.inl 1), some (.inl x3)], [], M)) sm_a194_29 rfl rfl rfl ?_
      refine ru_go (t := (33, [some (.inr (some a0)), some (.inl x1), some (.inl 1), some (.inl (x3 + 1))], [], M)) sm_a194_30 rfl rfl (st_iinc rfl (by decide)) ?_
      refine ru_go (t := (4, [some (.inr (some a0)), some (.inl x1), some (.inl 1), some (.inl (x3 + 1))], [], M)) sm_a194_33 rfl rfl (st_goto (pc := 33) (by decide)) ?_
      exact h
    · have h := h.2 hc_36
      refine ru_go (t := (15, [some (.inr (some a0)), some (.inl x1), some (.inl x2), some (.inl x3)], [.inr (some a0)], M)) sm_a194_14 rfl rfl rfl ?_
      obtain ⟨h_37, h⟩ := h
      refine ru_go (t := (18, [some (.inr (some a0)), some (.inl x1), some (.inl x2), some (.inl x3)], [.inr (sm_R M a0 4)], M)) sm_a194_15 rfl rfl (st_getR h_37 rfl rfl) ?_
      refine ru_go (t := (19, [some (.inr (some a0)), some (.inl x1), some (.inl x2), some (.inl x3)], [.inl x3, .inr (sm_R M a0 4)], M)) sm_a194_18 rfl rfl rfl ?_
      obtain ⟨b_38, hb_39, h⟩ := h
      rw [hb_39]
      obtain ⟨h_40, h⟩ := h
      obtain ⟨h_41, h⟩ := h
      refine ru_go (t := (20, [some (.inr (some a0)), some (.inl x1), some (.inl x2), some (.inl x3)], [.inl (sm_I M b_38 (x3).toNatClampNeg)], M)) sm_a194_19 rfl rfl (st_iald h_40 h_41) ?_
      refine ru_go (t := (21, [some (.inr (some a0)), some (.inl x1), some (.inl x2), some (.inl x3)], [.inl 1, .inl (sm_I M b_38 (x3).toNatClampNeg)], M)) sm_a194_20 rfl rfl (st_iconst (by decide)) ?_
      refine ru_icmp (pc := 21) (p := 28) (p2 := 24) sm_a194_21 (by decide) rfl ⟨fun hc_42 => ?_, fun hc_42 => ?_⟩
      · have h := h.1 hc_42
        refine ru_go (t := (29, [some (.inr (some a0)), some (.inl x1), some (.inl x2), some (.inl x3)], [.inl 0], M)) sm_a194_28 rfl rfl (st_iconst (by decide)) ?_
        refine ru_go (t := (30, [some (.inr (some a0)), some (.inl x1), some (.inl 0), some (.inl x3)], [], M)) sm_a194_29 rfl rfl rfl ?_
        refine ru_go (t := (33, [some (.inr (some a0)), some (.inl x1), some (.inl 0), some (.inl (x3 + 1))], [], M)) sm_a194_30 rfl rfl (st_iinc rfl (by decide)) ?_
        refine ru_go (t := (4, [some (.inr (some a0)), some (.inl x1), some (.inl 0), some (.inl (x3 + 1))], [], M)) sm_a194_33 rfl rfl (st_goto (pc := 33) (by decide)) ?_
        exact h
      · have h := h.2 hc_42
        refine ru_go (t := (25, [some (.inr (some a0)), some (.inl x1), some (.inl x2), some (.inl x3)], [.inl 1], M)) sm_a194_24 rfl rfl (st_iconst (by decide)) ?_
        refine ru_go (t := (29, [some (.inr (some a0)), some (.inl x1), some (.inl x2), some (.inl x3)], [.inl 1], M)) sm_a194_25 rfl rfl (st_goto (pc := 25) (by decide)) ?_
        refine ru_go (t := (30, [some (.inr (some a0)), some (.inl x1), some (.inl 1), some (.inl x3)], [], M)) sm_a194_29 rfl rfl rfl ?_
        refine ru_go (t := (33, [some (.inr (some a0)), some (.inl x1), some (.inl 1), some (.inl (x3 + 1))], [], M)) sm_a194_30 rfl rfl (st_iinc rfl (by decide)) ?_
        refine ru_go (t := (4, [some (.inr (some a0)), some (.inl x1), some (.inl 1), some (.inl (x3 + 1))], [], M)) sm_a194_33 rfl rfl (st_goto (pc := 33) (by decide)) ?_
        exact h
theorem bb_194_119 {d : Nat} {M : sm_M} {Q : Option sm_V → sm_M → Prop} {a0 : Nat} {x1 : Int32} {x2 : Int32} {x3 : Int32}
    (h : ((((6 * x1) + 6) ≤ x3 → sm_K M a0 = 39 ∧ ∃ b_3, sm_R M a0 57 = some b_3 ∧ sm_wA 1 M b_3 ∧ sm_in_ M b_3 x1 ∧ ∃ b_7, sm_R (sm_putI M b_3 (x1).toNatClampNeg 1) a0 58 = some b_7 ∧ sm_wA 1 M b_7 ∧ sm_in_ M b_7 x1 ∧ ∃ b_11, sm_R (sm_putI (sm_putI M b_3 (x1).toNatClampNeg 1) b_7 (x1).toNatClampNeg 8) a0 59 = some b_11 ∧ sm_wA 1 M b_11 ∧ sm_in_ M b_11 x1 ∧ ∃ b_15, sm_R (sm_putI (sm_putI (sm_putI M b_3 (x1).toNatClampNeg 1) b_7 (x1).toNatClampNeg 8) b_11 (x1).toNatClampNeg 0) a0 61 = some b_15 ∧ sm_wA 1 M b_15 ∧ sm_in_ M b_15 x1 ∧ sm_Run d 188 0 (sm_ent 188 [.inr (some a0), .inl x1, .inl 0]) [] (sm_putI (sm_putI (sm_putI (sm_putI M b_3 (x1).toNatClampNeg 1) b_7 (x1).toNatClampNeg 8) b_11 (x1).toNatClampNeg 0) b_15 (x1).toNatClampNeg 0) (fun v M1 => sm_Run (d + 1) 194 199 [some (.inr (some a0)), some (.inl x1), some (.inl x2), some (.inl x3)] (v.toList ++ []) M1 Q)) ∧ (¬ (((6 * x1) + 6) ≤ x3) → sm_K M a0 = 39 ∧ ∃ b_20, sm_R M a0 13 = some b_20 ∧ sm_wA 1 M b_20 ∧ sm_in_ M b_20 x3 ∧ ∃ b_24, sm_R (sm_putI M b_20 (x3).toNatClampNeg 0) a0 14 = some b_24 ∧ sm_wZ 1 M b_24 ∧ sm_in_ M b_24 x3 ∧ ∃ b_28, sm_R (sm_putI (sm_putI M b_20 (x3).toNatClampNeg 0) b_24 (x3).toNatClampNeg 0) a0 15 = some b_28 ∧ sm_wA 1 M b_28 ∧ sm_in_ M b_28 x3 ∧ ∃ b_32, sm_R (sm_putI (sm_putI (sm_putI M b_20 (x3).toNatClampNeg 0) b_24 (x3).toNatClampNeg 0) b_28 (x3).toNatClampNeg 0) a0 16 = some b_32 ∧ sm_wA 1 M b_32 ∧ sm_in_ M b_32 x3 ∧ sm_Run (d + 1) 194 119 [some (.inr (some a0)), some (.inl x1), some (.inl x2), some (.inl (x3 + 1))] [] (sm_putI (sm_putI (sm_putI (sm_putI M b_20 (x3).toNatClampNeg 0) b_24 (x3).toNatClampNeg 0) b_28 (x3).toNatClampNeg 0) b_32 (x3).toNatClampNeg (-1)) Q))) :
    sm_Run (d + 1) 194 119 [some (.inr (some a0)), some (.inl x1), some (.inl x2), some (.inl x3)] [] M Q := by
  refine ru_go (t := (120, [some (.inr (some a0)), some (.inl x1), some (.inl x2), some (.inl x3)], [.inl x3], M)) sm_a194_119 rfl rfl rfl ?_
  refine ru_go (t := (122, [some (.inr (some a0)), some (.inl x1), some (.inl x2), some (.inl x3)], [.inl 6, .inl x3], M)) sm_a194_120 rfl rfl (st_bipush (by decide)) ?_
  refine ru_go (t := (123, [some (.inr (some a0)), some (.inl x1), some (.inl x2), some (.inl x3)], [.inl x1, .inl 6, .inl x3], M)) sm_a194_122 rfl rfl rfl ?_
  refine ru_go (t := (124, [some (.inr (some a0)), some (.inl x1), some (.inl x2), some (.inl x3)], [.inl (6 * x1), .inl x3], M)) sm_a194_123 rfl rfl rfl ?_
  refine ru_go (t := (126, [some (.inr (some a0)), some (.inl x1), some (.inl x2), some (.inl x3)], [.inl 6, .inl (6 * x1), .inl x3], M)) sm_a194_124 rfl rfl (st_bipush (by decide)) ?_
  refine ru_go (t := (127, [some (.inr (some a0)), some (.inl x1), some (.inl x2), some (.inl x3)], [.inl ((6 * x1) + 6), .inl x3], M)) sm_a194_126 rfl rfl rfl ?_
  refine ru_icmp (pc := 127) (p := 164) (p2 := 130) sm_a194_127 (by decide) rfl ⟨fun hc_1 => ?_, fun hc_1 => ?_⟩
  · have h := h.1 hc_1
    refine ru_go (t := (165, [some (.inr (some a0)), some (.inl x1), some (.inl x2), some (.inl x3)], [.inr (some a0)], M)) sm_a194_164 rfl rfl rfl ?_
    obtain ⟨h_2, h⟩ := h
    refine ru_go (t := (168, [some (.inr (some a0)), some (.inl x1), some (.inl x2), some (.inl x3)], [.inr (sm_R M a0 57)], M)) sm_a194_165 rfl rfl (st_getR h_2 rfl rfl) ?_
    refine ru_go (t := (169, [some (.inr (some a0)), some (.inl x1), some (.inl x2), some (.inl x3)], [.inl x1, .inr (sm_R M a0 57)], M)) sm_a194_168 rfl rfl rfl ?_
    refine ru_go (t := (170, [some (.inr (some a0)), some (.inl x1), some (.inl x2), some (.inl x3)], [.inl 1, .inl x1, .inr (sm_R M a0 57)], M)) sm_a194_169 rfl rfl (st_iconst (by decide)) ?_
    obtain ⟨b_3, hb_4, h⟩ := h
    rw [hb_4]
    obtain ⟨h_5, h⟩ := h
    obtain ⟨h_6, h⟩ := h
    refine ru_go (t := (171, [some (.inr (some a0)), some (.inl x1), some (.inl x2), some (.inl x3)], [], sm_putI M b_3 (x1).toNatClampNeg 1)) sm_a194_170 rfl rfl (st_iast h_5 h_6) ?_
    refine ru_go (t := (172, [some (.inr (some a0)), some (.inl x1), some (.inl x2), some (.inl x3)], [.inr (some a0)], sm_putI M b_3 (x1).toNatClampNeg 1)) sm_a194_171 rfl rfl rfl ?_
    refine ru_go (t := (175, [some (.inr (some a0)), some (.inl x1), some (.inl x2), some (.inl x3)], [.inr (sm_R (sm_putI M b_3 (x1).toNatClampNeg 1) a0 58)], sm_putI M b_3 (x1).toNatClampNeg 1)) sm_a194_172 rfl rfl (st_getR h_2 rfl rfl) ?_
    refine ru_go (t := (176, [some (.inr (some a0)), some (.inl x1), some (.inl x2), some (.inl x3)], [.inl x1, .inr (sm_R (sm_putI M b_3 (x1).toNatClampNeg 1) a0 58)], sm_putI M b_3 (x1).toNatClampNeg 1)) sm_a194_175 rfl rfl rfl ?_
    refine ru_go (t := (178, [some (.inr (some a0)), some (.inl x1), some (.inl x2), some (.inl x3)], [.inl 8, .inl x1, .inr (sm_R (sm_putI M b_3 (x1).toNatClampNeg 1) a0 58)], sm_putI M b_3 (x1).toNatClampNeg 1)) sm_a194_176 rfl rfl (st_bipush (by decide)) ?_
    obtain ⟨b_7, hb_8, h⟩ := h
    rw [hb_8]
    obtain ⟨h_9, h⟩ := h
    obtain ⟨h_10, h⟩ := h
    refine ru_go (t := (179, [some (.inr (some a0)), some (.inl x1), some (.inl x2), some (.inl x3)], [], sm_putI (sm_putI M b_3 (x1).toNatClampNeg 1) b_7 (x1).toNatClampNeg 8)) sm_a194_178 rfl rfl (st_iast h_9 h_10) ?_
    refine ru_go (t := (180, [some (.inr (some a0)), some (.inl x1), some (.inl x2), some (.inl x3)], [.inr (some a0)], sm_putI (sm_putI M b_3 (x1).toNatClampNeg 1) b_7 (x1).toNatClampNeg 8)) sm_a194_179 rfl rfl rfl ?_
    refine ru_go (t := (183, [some (.inr (some a0)), some (.inl x1), some (.inl x2), some (.inl x3)], [.inr (sm_R (sm_putI (sm_putI M b_3 (x1).toNatClampNeg 1) b_7 (x1).toNatClampNeg 8) a0 59)], sm_putI (sm_putI M b_3 (x1).toNatClampNeg 1) b_7 (x1).toNatClampNeg 8)) sm_a194_180 rfl rfl (st_getR h_2 rfl rfl) ?_
    refine ru_go (t := (184, [some (.inr (some a0)), some (.inl x1), some (.inl x2), some (.inl x3)], [.inl x1, .inr (sm_R (sm_putI (sm_putI M b_3 (x1).toNatClampNeg 1) b_7 (x1).toNatClampNeg 8) a0 59)], sm_putI (sm_putI M b_3 (x1).toNatClampNeg 1) b_7 (x1).toNatClampNeg 8)) sm_a194_183 rfl rfl rfl ?_
    refine ru_go (t := (185, [some (.inr (some a0)), some (.inl x1), some (.inl x2), some (.inl x3)], [.inl 0, .inl x1, .inr (sm_R (sm_putI (sm_putI M b_3 (x1).toNatClampNeg 1) b_7 (x1).toNatClampNeg 8) a0 59)], sm_putI (sm_putI M b_3 (x1).toNatClampNeg 1) b_7 (x1).toNatClampNeg 8)) sm_a194_184 rfl rfl (st_iconst (by decide)) ?_
    obtain ⟨b_11, hb_12, h⟩ := h
    rw [hb_12]
    obtain ⟨h_13, h⟩ := h
    obtain ⟨h_14, h⟩ := h
    refine ru_go (t := (186, [some (.inr (some a0)), some (.inl x1), some (.inl x2), some (.inl x3)], [], sm_putI (sm_putI (sm_putI M b_3 (x1).toNatClampNeg 1) b_7 (x1).toNatClampNeg 8) b_11 (x1).toNatClampNeg 0)) sm_a194_185 rfl rfl (st_iast h_13 h_14) ?_
    refine ru_go (t := (187, [some (.inr (some a0)), some (.inl x1), some (.inl x2), some (.inl x3)], [.inr (some a0)], sm_putI (sm_putI (sm_putI M b_3 (x1).toNatClampNeg 1) b_7 (x1).toNatClampNeg 8) b_11 (x1).toNatClampNeg 0)) sm_a194_186 rfl rfl rfl ?_
    refine ru_go (t := (190, [some (.inr (some a0)), some (.inl x1), some (.inl x2), some (.inl x3)], [.inr (sm_R (sm_putI (sm_putI (sm_putI M b_3 (x1).toNatClampNeg 1) b_7 (x1).toNatClampNeg 8) b_11 (x1).toNatClampNeg 0) a0 61)], sm_putI (sm_putI (sm_putI M b_3 (x1).toNatClampNeg 1) b_7 (x1).toNatClampNeg 8) b_11 (x1).toNatClampNeg 0)) sm_a194_187 rfl rfl (st_getR h_2 rfl rfl) ?_
    refine ru_go (t := (191, [some (.inr (some a0)), some (.inl x1), some (.inl x2), some (.inl x3)], [.inl x1, .inr (sm_R (sm_putI (sm_putI (sm_putI M b_3 (x1).toNatClampNeg 1) b_7 (x1).toNatClampNeg 8) b_11 (x1).toNatClampNeg 0) a0 61)], sm_putI (sm_putI (sm_putI M b_3 (x1).toNatClampNeg 1) b_7 (x1).toNatClampNeg 8) b_11 (x1).toNatClampNeg 0)) sm_a194_190 rfl rfl rfl ?_
    refine ru_go (t := (192, [some (.inr (some a0)), some (.inl x1), some (.inl x2), some (.inl x3)], [.inl 0, .inl x1, .inr (sm_R (sm_putI (sm_putI (sm_putI M b_3 (x1).toNatClampNeg 1) b_7 (x1).toNatClampNeg 8) b_11 (x1).toNatClampNeg 0) a0 61)], sm_putI (sm_putI (sm_putI M b_3 (x1).toNatClampNeg 1) b_7 (x1).toNatClampNeg 8) b_11 (x1).toNatClampNeg 0)) sm_a194_191 rfl rfl (st_iconst (by decide)) ?_
    obtain ⟨b_15, hb_16, h⟩ := h
    rw [hb_16]
    obtain ⟨h_17, h⟩ := h
    obtain ⟨h_18, h⟩ := h
    refine ru_go (t := (193, [some (.inr (some a0)), some (.inl x1), some (.inl x2), some (.inl x3)], [], sm_putI (sm_putI (sm_putI (sm_putI M b_3 (x1).toNatClampNeg 1) b_7 (x1).toNatClampNeg 8) b_11 (x1).toNatClampNeg 0) b_15 (x1).toNatClampNeg 0)) sm_a194_192 rfl rfl (st_iast h_17 h_18) ?_
    refine ru_go (t := (194, [some (.inr (some a0)), some (.inl x1), some (.inl x2), some (.inl x3)], [.inr (some a0)], sm_putI (sm_putI (sm_putI (sm_putI M b_3 (x1).toNatClampNeg 1) b_7 (x1).toNatClampNeg 8) b_11 (x1).toNatClampNeg 0) b_15 (x1).toNatClampNeg 0)) sm_a194_193 rfl rfl rfl ?_
    refine ru_go (t := (195, [some (.inr (some a0)), some (.inl x1), some (.inl x2), some (.inl x3)], [.inl x1, .inr (some a0)], sm_putI (sm_putI (sm_putI (sm_putI M b_3 (x1).toNatClampNeg 1) b_7 (x1).toNatClampNeg 8) b_11 (x1).toNatClampNeg 0) b_15 (x1).toNatClampNeg 0)) sm_a194_194 rfl rfl rfl ?_
    refine ru_go (t := (196, [some (.inr (some a0)), some (.inl x1), some (.inl x2), some (.inl x3)], [.inl 0, .inl x1, .inr (some a0)], sm_putI (sm_putI (sm_putI (sm_putI M b_3 (x1).toNatClampNeg 1) b_7 (x1).toNatClampNeg 8) b_11 (x1).toNatClampNeg 0) b_15 (x1).toNatClampNeg 0)) sm_a194_195 rfl rfl (st_iconst (by decide)) ?_
    exact ru_call (p := 199) sm_a194_196 rfl (sc_virt (Or.inl rfl) rfl rfl h_2 (Nat.le_of_ble_eq_true rfl)) rfl h
  · have h := h.2 hc_1
    refine ru_go (t := (131, [some (.inr (some a0)), some (.inl x1), some (.inl x2), some (.inl x3)], [.inr (some a0)], M)) sm_a194_130 rfl rfl rfl ?_
    obtain ⟨h_19, h⟩ := h
    refine ru_go (t := (134, [some (.inr (some a0)), some (.inl x1), some (.inl x2), some (.inl x3)], [.inr (sm_R M a0 13)], M)) sm_a194_131 rfl rfl (st_getR h_19 rfl rfl) ?_
    refine ru_go (t := (135, [some (.inr (some a0)), some (.inl x1), some (.inl x2), some (.inl x3)], [.inl x3, .inr (sm_R M a0 13)], M)) sm_a194_134 rfl rfl rfl ?_
    refine ru_go (t := (136, [some (.inr (some a0)), some (.inl x1), some (.inl x2), some (.inl x3)], [.inl 0, .inl x3, .inr (sm_R M a0 13)], M)) sm_a194_135 rfl rfl (st_iconst (by decide)) ?_
    obtain ⟨b_20, hb_21, h⟩ := h
    rw [hb_21]
    obtain ⟨h_22, h⟩ := h
    obtain ⟨h_23, h⟩ := h
    refine ru_go (t := (137, [some (.inr (some a0)), some (.inl x1), some (.inl x2), some (.inl x3)], [], sm_putI M b_20 (x3).toNatClampNeg 0)) sm_a194_136 rfl rfl (st_iast h_22 h_23) ?_
    refine ru_go (t := (138, [some (.inr (some a0)), some (.inl x1), some (.inl x2), some (.inl x3)], [.inr (some a0)], sm_putI M b_20 (x3).toNatClampNeg 0)) sm_a194_137 rfl rfl rfl ?_
    refine ru_go (t := (141, [some (.inr (some a0)), some (.inl x1), some (.inl x2), some (.inl x3)], [.inr (sm_R (sm_putI M b_20 (x3).toNatClampNeg 0) a0 14)], sm_putI M b_20 (x3).toNatClampNeg 0)) sm_a194_138 rfl rfl (st_getR h_19 rfl rfl) ?_
    refine ru_go (t := (142, [some (.inr (some a0)), some (.inl x1), some (.inl x2), some (.inl x3)], [.inl x3, .inr (sm_R (sm_putI M b_20 (x3).toNatClampNeg 0) a0 14)], sm_putI M b_20 (x3).toNatClampNeg 0)) sm_a194_141 rfl rfl rfl ?_
    refine ru_go (t := (143, [some (.inr (some a0)), some (.inl x1), some (.inl x2), some (.inl x3)], [.inl 0, .inl x3, .inr (sm_R (sm_putI M b_20 (x3).toNatClampNeg 0) a0 14)], sm_putI M b_20 (x3).toNatClampNeg 0)) sm_a194_142 rfl rfl (st_iconst (by decide)) ?_
    obtain ⟨b_24, hb_25, h⟩ := h
    rw [hb_25]
    obtain ⟨h_26, h⟩ := h
    obtain ⟨h_27, h⟩ := h
    refine ru_go (t := (144, [some (.inr (some a0)), some (.inl x1), some (.inl x2), some (.inl x3)], [], sm_putI (sm_putI M b_20 (x3).toNatClampNeg 0) b_24 (x3).toNatClampNeg 0)) sm_a194_143 rfl rfl (st_zast h_26 h_27 (by decide)) ?_
    refine ru_go (t := (145, [some (.inr (some a0)), some (.inl x1), some (.inl x2), some (.inl x3)], [.inr (some a0)], sm_putI (sm_putI M b_20 (x3).toNatClampNeg 0) b_24 (x3).toNatClampNeg 0)) sm_a194_144 rfl rfl rfl ?_
    refine ru_go (t := (148, [some (.inr (some a0)), some (.inl x1), some (.inl x2), some (.inl x3)], [.inr (sm_R (sm_putI (sm_putI M b_20 (x3).toNatClampNeg 0) b_24 (x3).toNatClampNeg 0) a0 15)], sm_putI (sm_putI M b_20 (x3).toNatClampNeg 0) b_24 (x3).toNatClampNeg 0)) sm_a194_145 rfl rfl (st_getR h_19 rfl rfl) ?_
    refine ru_go (t := (149, [some (.inr (some a0)), some (.inl x1), some (.inl x2), some (.inl x3)], [.inl x3, .inr (sm_R (sm_putI (sm_putI M b_20 (x3).toNatClampNeg 0) b_24 (x3).toNatClampNeg 0) a0 15)], sm_putI (sm_putI M b_20 (x3).toNatClampNeg 0) b_24 (x3).toNatClampNeg 0)) sm_a194_148 rfl rfl rfl ?_
    refine ru_go (t := (150, [some (.inr (some a0)), some (.inl x1), some (.inl x2), some (.inl x3)], [.inl 0, .inl x3, .inr (sm_R (sm_putI (sm_putI M b_20 (x3).toNatClampNeg 0) b_24 (x3).toNatClampNeg 0) a0 15)], sm_putI (sm_putI M b_20 (x3).toNatClampNeg 0) b_24 (x3).toNatClampNeg 0)) sm_a194_149 rfl rfl (st_iconst (by decide)) ?_
    obtain ⟨b_28, hb_29, h⟩ := h
    rw [hb_29]
    obtain ⟨h_30, h⟩ := h
    obtain ⟨h_31, h⟩ := h
    refine ru_go (t := (151, [some (.inr (some a0)), some (.inl x1), some (.inl x2), some (.inl x3)], [], sm_putI (sm_putI (sm_putI M b_20 (x3).toNatClampNeg 0) b_24 (x3).toNatClampNeg 0) b_28 (x3).toNatClampNeg 0)) sm_a194_150 rfl rfl (st_iast h_30 h_31) ?_
    refine ru_go (t := (152, [some (.inr (some a0)), some (.inl x1), some (.inl x2), some (.inl x3)], [.inr (some a0)], sm_putI (sm_putI (sm_putI M b_20 (x3).toNatClampNeg 0) b_24 (x3).toNatClampNeg 0) b_28 (x3).toNatClampNeg 0)) sm_a194_151 rfl rfl rfl ?_
    refine ru_go (t := (155, [some (.inr (some a0)), some (.inl x1), some (.inl x2), some (.inl x3)], [.inr (sm_R (sm_putI (sm_putI (sm_putI M b_20 (x3).toNatClampNeg 0) b_24 (x3).toNatClampNeg 0) b_28 (x3).toNatClampNeg 0) a0 16)], sm_putI (sm_putI (sm_putI M b_20 (x3).toNatClampNeg 0) b_24 (x3).toNatClampNeg 0) b_28 (x3).toNatClampNeg 0)) sm_a194_152 rfl rfl (st_getR h_19 rfl rfl) ?_
    refine ru_go (t := (156, [some (.inr (some a0)), some (.inl x1), some (.inl x2), some (.inl x3)], [.inl x3, .inr (sm_R (sm_putI (sm_putI (sm_putI M b_20 (x3).toNatClampNeg 0) b_24 (x3).toNatClampNeg 0) b_28 (x3).toNatClampNeg 0) a0 16)], sm_putI (sm_putI (sm_putI M b_20 (x3).toNatClampNeg 0) b_24 (x3).toNatClampNeg 0) b_28 (x3).toNatClampNeg 0)) sm_a194_155 rfl rfl rfl ?_
    refine ru_go (t := (157, [some (.inr (some a0)), some (.inl x1), some (.inl x2), some (.inl x3)], [.inl (-1), .inl x3, .inr (sm_R (sm_putI (sm_putI (sm_putI M b_20 (x3).toNatClampNeg 0) b_24 (x3).toNatClampNeg 0) b_28 (x3).toNatClampNeg 0) a0 16)], sm_putI (sm_putI (sm_putI M b_20 (x3).toNatClampNeg 0) b_24 (x3).toNatClampNeg 0) b_28 (x3).toNatClampNeg 0)) sm_a194_156 rfl rfl (st_iconst (by decide)) ?_
    obtain ⟨b_32, hb_33, h⟩ := h
    rw [hb_33]
    obtain ⟨h_34, h⟩ := h
    obtain ⟨h_35, h⟩ := h
    refine ru_go (t := (158, [some (.inr (some a0)), some (.inl x1), some (.inl x2), some (.inl x3)], [], sm_putI (sm_putI (sm_putI (sm_putI M b_20 (x3).toNatClampNeg 0) b_24 (x3).toNatClampNeg 0) b_28 (x3).toNatClampNeg 0) b_32 (x3).toNatClampNeg (-1))) sm_a194_157 rfl rfl (st_iast h_34 h_35) ?_
    refine ru_go (t := (161, [some (.inr (some a0)), some (.inl x1), some (.inl x2), some (.inl (x3 + 1))], [], sm_putI (sm_putI (sm_putI (sm_putI M b_20 (x3).toNatClampNeg 0) b_24 (x3).toNatClampNeg 0) b_28 (x3).toNatClampNeg 0) b_32 (x3).toNatClampNeg (-1))) sm_a194_158 rfl rfl (st_iinc rfl (by decide)) ?_
    refine ru_go (t := (119, [some (.inr (some a0)), some (.inl x1), some (.inl x2), some (.inl (x3 + 1))], [], sm_putI (sm_putI (sm_putI (sm_putI M b_20 (x3).toNatClampNeg 0) b_24 (x3).toNatClampNeg 0) b_28 (x3).toNatClampNeg 0) b_32 (x3).toNatClampNeg (-1))) sm_a194_161 rfl rfl (st_goto (pc := 161) (by decide)) ?_
    exact h
theorem bb_194_199 {d : Nat} {M : sm_M} {Q : Option sm_V → sm_M → Prop} {a0 : Nat} {x1 : Int32} {x2 : Int32} {x3 : Int32}
    (h : Q (some (.inl 1)) M) :
    sm_Run (d + 1) 194 199 [some (.inr (some a0)), some (.inl x1), some (.inl x2), some (.inl x3)] [] M Q := by
  refine ru_go (t := (200, [some (.inr (some a0)), some (.inl x1), some (.inl x2), some (.inl x3)], [.inl 1], M)) sm_a194_199 rfl rfl (st_iconst (by decide)) ?_
  exact ru_ret sm_a194_200 (sm_rvz rfl (by decide)) h

/-! WireBusModel.detach:(I)Z -/
theorem sm_a195_0 : sm_at 195 0 = some (.iload_n 1, 1, (0, 0, 0, 0)) := by decide +kernel
theorem sm_a195_1 : sm_at 195 1 = some (.ifCond .lt 30, 3, (0, 0, 0, 0)) := by decide +kernel
theorem sm_a195_4 : sm_at 195 4 = some (.iload_n 1, 1, (0, 0, 0, 0)) := by decide +kernel
theorem sm_a195_5 : sm_at 195 5 = some (.iconst 5, 1, (0, 0, 0, 0)) := by decide +kernel
theorem sm_a195_6 : sm_at 195 6 = some (.if_icmp .gt 25, 3, (0, 0, 0, 0)) := by decide +kernel
theorem sm_a195_9 : sm_at 195 9 = some (.aload_n 0, 1, (0, 0, 0, 0)) := by decide +kernel
theorem sm_a195_10 : sm_at 195 10 = some (.getfield 16, 3, (12, 4, 0, 1187)) := by decide +kernel
theorem sm_a195_13 : sm_at 195 13 = some (.iload_n 1, 1, (0, 0, 0, 0)) := by decide +kernel
theorem sm_a195_14 : sm_at 195 14 = some (.ifCond .lt 8, 3, (0, 0, 0, 0)) := by decide +kernel
theorem sm_a195_17 : sm_at 195 17 = some (.iload_n 1, 1, (0, 0, 0, 0)) := by decide +kernel
theorem sm_a195_18 : sm_at 195 18 = some (.iconst 5, 1, (0, 0, 0, 0)) := by decide +kernel
theorem sm_a195_19 : sm_at 195 19 = some (.if_icmp .le 7, 3, (0, 0, 0, 0)) := by decide +kernel
theorem sm_a195_22 : sm_at 195 22 = some (.iconst 0, 1, (0, 0, 0, 0)) := by decide +kernel
theorem sm_a195_23 : sm_at 195 23 = some (.goto 4, 3, (0, 0, 0, 0)) := by decide +kernel
theorem sm_a195_26 : sm_at 195 26 = some (.iload_n 1, 1, (0, 0, 0, 0)) := by decide +kernel
theorem sm_a195_27 : sm_at 195 27 = some (.iaload, 1, (0, 0, 0, 0)) := by decide +kernel
theorem sm_a195_28 : sm_at 195 28 = some (.ifCond .ne 5, 3, (0, 0, 0, 0)) := by decide +kernel
theorem sm_a195_31 : sm_at 195 31 = some (.iconst 0, 1, (0, 0, 0, 0)) := by decide +kernel
theorem sm_a195_32 : sm_at 195 32 = some (.ireturn, 1, (0, 0, 0, 0)) := by decide +kernel
theorem sm_a195_33 : sm_at 195 33 = some (.aload_n 0, 1, (0, 0, 0, 0)) := by decide +kernel
theorem sm_a195_34 : sm_at 195 34 = some (.getfield 16, 3, (12, 4, 0, 1187)) := by decide +kernel
theorem sm_a195_37 : sm_at 195 37 = some (.iload_n 1, 1, (0, 0, 0, 0)) := by decide +kernel
theorem sm_a195_38 : sm_at 195 38 = some (.iconst 0, 1, (0, 0, 0, 0)) := by decide +kernel
theorem sm_a195_39 : sm_at 195 39 = some (.iastore, 1, (1, 0, 0, 0)) := by decide +kernel
theorem sm_a195_40 : sm_at 195 40 = some (.aload_n 0, 1, (0, 0, 0, 0)) := by decide +kernel
theorem sm_a195_41 : sm_at 195 41 = some (.getfield 19, 3, (12, 5, 0, 1188)) := by decide +kernel
theorem sm_a195_44 : sm_at 195 44 = some (.iload_n 1, 1, (0, 0, 0, 0)) := by decide +kernel
theorem sm_a195_45 : sm_at 195 45 = some (.iconst 0, 1, (0, 0, 0, 0)) := by decide +kernel
theorem sm_a195_46 : sm_at 195 46 = some (.iastore, 1, (1, 0, 0, 0)) := by decide +kernel
theorem sm_a195_47 : sm_at 195 47 = some (.aload_n 0, 1, (0, 0, 0, 0)) := by decide +kernel
theorem sm_a195_48 : sm_at 195 48 = some (.getfield 149, 3, (12, 57, 0, 1240)) := by decide +kernel
theorem sm_a195_51 : sm_at 195 51 = some (.iload_n 1, 1, (0, 0, 0, 0)) := by decide +kernel
theorem sm_a195_52 : sm_at 195 52 = some (.iconst 0, 1, (0, 0, 0, 0)) := by decide +kernel
theorem sm_a195_53 : sm_at 195 53 = some (.iastore, 1, (1, 0, 0, 0)) := by decide +kernel
theorem sm_a195_54 : sm_at 195 54 = some (.aload_n 0, 1, (0, 0, 0, 0)) := by decide +kernel
theorem sm_a195_55 : sm_at 195 55 = some (.getfield 152, 3, (12, 58, 0, 1241)) := by decide +kernel
theorem sm_a195_58 : sm_at 195 58 = some (.iload_n 1, 1, (0, 0, 0, 0)) := by decide +kernel
theorem sm_a195_59 : sm_at 195 59 = some (.bipush 8, 2, (0, 0, 0, 0)) := by decide +kernel
theorem sm_a195_61 : sm_at 195 61 = some (.iastore, 1, (1, 0, 0, 0)) := by decide +kernel
theorem sm_a195_62 : sm_at 195 62 = some (.aload_n 0, 1, (0, 0, 0, 0)) := by decide +kernel
theorem sm_a195_63 : sm_at 195 63 = some (.getfield 155, 3, (12, 59, 0, 1242)) := by decide +kernel
theorem sm_a195_66 : sm_at 195 66 = some (.iload_n 1, 1, (0, 0, 0, 0)) := by decide +kernel
theorem sm_a195_67 : sm_at 195 67 = some (.iconst 0, 1, (0, 0, 0, 0)) := by decide +kernel
theorem sm_a195_68 : sm_at 195 68 = some (.iastore, 1, (1, 0, 0, 0)) := by decide +kernel
theorem sm_a195_69 : sm_at 195 69 = some (.aload_n 0, 1, (0, 0, 0, 0)) := by decide +kernel
theorem sm_a195_70 : sm_at 195 70 = some (.getfield 161, 3, (12, 61, 0, 1244)) := by decide +kernel
theorem sm_a195_73 : sm_at 195 73 = some (.iload_n 1, 1, (0, 0, 0, 0)) := by decide +kernel
theorem sm_a195_74 : sm_at 195 74 = some (.iconst 0, 1, (0, 0, 0, 0)) := by decide +kernel
theorem sm_a195_75 : sm_at 195 75 = some (.iastore, 1, (1, 0, 0, 0)) := by decide +kernel
theorem sm_a195_76 : sm_at 195 76 = some (.iconst 0, 1, (0, 0, 0, 0)) := by decide +kernel
theorem sm_a195_77 : sm_at 195 77 = some (.istore_n 2, 1, (0, 0, 0, 0)) := by decide +kernel
theorem sm_a195_78 : sm_at 195 78 = some (.iload_n 2, 1, (0, 0, 0, 0)) := by decide +kernel
theorem sm_a195_79 : sm_at 195 79 = some (.aload_n 0, 1, (0, 0, 0, 0)) := by decide +kernel
theorem sm_a195_80 : sm_at 195 80 = some (.getfield 332, 3, (12, 70, 0, 1253)) := by decide +kernel
theorem sm_a195_83 : sm_at 195 83 = some (.if_icmp .ge 44, 3, (0, 0, 0, 0)) := by decide +kernel
theorem sm_a195_86 : sm_at 195 86 = some (.aload_n 0, 1, (0, 0, 0, 0)) := by decide +kernel
theorem sm_a195_87 : sm_at 195 87 = some (.getfield 191, 3, (12, 73, 0, 1256)) := by decide +kernel
theorem sm_a195_90 : sm_at 195 90 = some (.iload_n 2, 1, (0, 0, 0, 0)) := by decide +kernel
theorem sm_a195_91 : sm_at 195 91 = some (.aload_n 0, 1, (0, 0, 0, 0)) := by decide +kernel
theorem sm_a195_92 : sm_at 195 92 = some (.getfield 191, 3, (12, 73, 0, 1256)) := by decide +kernel
theorem sm_a195_95 : sm_at 195 95 = some (.iload_n 2, 1, (0, 0, 0, 0)) := by decide +kernel
theorem sm_a195_96 : sm_at 195 96 = some (.iaload, 1, (0, 0, 0, 0)) := by decide +kernel
theorem sm_a195_97 : sm_at 195 97 = some (.ifCond .ne 17, 3, (0, 0, 0, 0)) := by decide +kernel
theorem sm_a195_100 : sm_at 195 100 = some (.aload_n 0, 1, (0, 0, 0, 0)) := by decide +kernel
theorem sm_a195_101 : sm_at 195 101 = some (.getfield 185, 3, (12, 71, 0, 1254)) := by decide +kernel
theorem sm_a195_104 : sm_at 195 104 = some (.iload_n 2, 1, (0, 0, 0, 0)) := by decide +kernel
theorem sm_a195_105 : sm_at 195 105 = some (.iaload, 1, (0, 0, 0, 0)) := by decide +kernel
theorem sm_a195_106 : sm_at 195 106 = some (.iload_n 1, 1, (0, 0, 0, 0)) := by decide +kernel
theorem sm_a195_107 : sm_at 195 107 = some (.if_icmp .ne 7, 3, (0, 0, 0, 0)) := by decide +kernel
theorem sm_a195_110 : sm_at 195 110 = some (.iconst 3, 1, (0, 0, 0, 0)) := by decide +kernel
theorem sm_a195_111 : sm_at 195 111 = some (.goto 9, 3, (0, 0, 0, 0)) := by decide +kernel
theorem sm_a195_114 : sm_at 195 114 = some (.aload_n 0, 1, (0, 0, 0, 0)) := by decide +kernel
theorem sm_a195_115 : sm_at 195 115 = some (.getfield 191, 3, (12, 73, 0, 1256)) := by decide +kernel
theorem sm_a195_118 : sm_at 195 118 = some (.iload_n 2, 1, (0, 0, 0, 0)) := by decide +kernel
theorem sm_a195_119 : sm_at 195 119 = some (.iaload, 1, (0, 0, 0, 0)) := by decide +kernel
theorem sm_a195_120 : sm_at 195 120 = some (.iastore, 1, (1, 0, 0, 0)) := by decide +kernel
theorem sm_a195_121 : sm_at 195 121 = some (.iinc 2 1, 3, (0, 0, 0, 0)) := by decide +kernel
theorem sm_a195_124 : sm_at 195 124 = some (.goto (-46), 3, (0, 0, 0, 0)) := by decide +kernel
theorem sm_a195_127 : sm_at 195 127 = some (.iconst 1, 1, (0, 0, 0, 0)) := by decide +kernel
theorem sm_a195_128 : sm_at 195 128 = some (.ireturn, 1, (0, 0, 0, 0)) := by decide +kernel
theorem bb_195_0 {d : Nat} {M : sm_M} {Q : Option sm_V → sm_M → Prop} {a0 : Nat} {x1 : Int32} {z2 : Option sm_V}
    (h : ((x1 < 0 → Q (some (.inl 0)) M) ∧ (¬ (x1 < 0) → ((5 < x1 → Q (some (.inl 0)) M) ∧ (¬ (5 < x1) → sm_K M a0 = 39 ∧ ((x1 ≤ 5 → ∃ b_5, sm_R M a0 4 = some b_5 ∧ sm_iA M b_5 ∧ sm_in_ M b_5 x1 ∧ ((¬ (sm_I M b_5 (x1).toNatClampNeg) = 0 → ∃ b_10, sm_R M a0 4 = some b_10 ∧ sm_wA 1 M b_10 ∧ sm_in_ M b_10 x1 ∧ ∃ b_14, sm_R (sm_putI M b_10 (x1).toNatClampNeg 0) a0 5 = some b_14 ∧ sm_wA 1 M b_14 ∧ sm_in_ M b_14 x1 ∧ ∃ b_18, sm_R (sm_putI (sm_putI M b_10 (x1).toNatClampNeg 0) b_14 (x1).toNatClampNeg 0) a0 57 = some b_18 ∧ sm_wA 1 M b_18 ∧ sm_in_ M b_18 x1 ∧ ∃ b_22, sm_R (sm_putI (sm_putI (sm_putI M b_10 (x1).toNatClampNeg 0) b_14 (x1).toNatClampNeg 0) b_18 (x1).toNatClampNeg 0) a0 58 = some b_22 ∧ sm_wA 1 M b_22 ∧ sm_in_ M b_22 x1 ∧ ∃ b_26, sm_R (sm_putI (sm_putI (sm_putI (sm_putI M b_10 (x1).toNatClampNeg 0) b_14 (x1).toNatClampNeg 0) b_18 (x1).toNatClampNeg 0) b_22 (x1).toNatClampNeg 8) a0 59 = some b_26 ∧ sm_wA 1 M b_26 ∧ sm_in_ M b_26 x1 ∧ ∃ b_30, sm_R (sm_putI (sm_putI (sm_putI (sm_putI (sm_putI M b_10 (x1).toNatClampNeg 0) b_14 (x1).toNatClampNeg 0) b_18 (x1).toNatClampNeg 0) b_22 (x1).toNatClampNeg 8) b_26 (x1).toNatClampNeg 0) a0 61 = some b_30 ∧ sm_wA 1 M b_30 ∧ sm_in_ M b_30 x1 ∧ sm_Run d 195 78 [some (.inr (some a0)), some (.inl x1), some (.inl 0)] [] (sm_putI (sm_putI (sm_putI (sm_putI (sm_putI (sm_putI M b_10 (x1).toNatClampNeg 0) b_14 (x1).toNatClampNeg 0) b_18 (x1).toNatClampNeg 0) b_22 (x1).toNatClampNeg 8) b_26 (x1).toNatClampNeg 0) b_30 (x1).toNatClampNeg 0) Q) ∧ (¬ (¬ (sm_I M b_5 (x1).toNatClampNeg) = 0) → Q (some (.inl 0)) M))) ∧ (¬ (x1 ≤ 5) → ∃ b_34, sm_R M a0 4 = some b_34 ∧ sm_iA M b_34 ∧ sm_in_ M b_34 0 ∧ ((¬ (sm_I M b_34 (0 : Int32).toNatClampNeg) = 0 → ∃ b_39, sm_R M a0 4 = some b_39 ∧ sm_wA 1 M b_39 ∧ sm_in_ M b_39 x1 ∧ ∃ b_43, sm_R (sm_putI M b_39 (x1).toNatClampNeg 0) a0 5 = some b_43 ∧ sm_wA 1 M b_43 ∧ sm_in_ M b_43 x1 ∧ ∃ b_47, sm_R (sm_putI (sm_putI M b_39 (x1).toNatClampNeg 0) b_43 (x1).toNatClampNeg 0) a0 57 = some b_47 ∧ sm_wA 1 M b_47 ∧ sm_in_ M b_47 x1 ∧ ∃ b_51, sm_R (sm_putI (sm_putI (sm_putI M b_39 (x1).toNatClampNeg 0) b_43 (x1).toNatClampNeg 0) b_47 (x1).toNatClampNeg 0) a0 58 = some b_51 ∧ sm_wA 1 M b_51 ∧ sm_in_ M b_51 x1 ∧ ∃ b_55, sm_R (sm_putI (sm_putI (sm_putI (sm_putI M b_39 (x1).toNatClampNeg 0) b_43 (x1).toNatClampNeg 0) b_47 (x1).toNatClampNeg 0) b_51 (x1).toNatClampNeg 8) a0 59 = some b_55 ∧ sm_wA 1 M b_55 ∧ sm_in_ M b_55 x1 ∧ ∃ b_59, sm_R (sm_putI (sm_putI (sm_putI (sm_putI (sm_putI M b_39 (x1).toNatClampNeg 0) b_43 (x1).toNatClampNeg 0) b_47 (x1).toNatClampNeg 0) b_51 (x1).toNatClampNeg 8) b_55 (x1).toNatClampNeg 0) a0 61 = some b_59 ∧ sm_wA 1 M b_59 ∧ sm_in_ M b_59 x1 ∧ sm_Run d 195 78 [some (.inr (some a0)), some (.inl x1), some (.inl 0)] [] (sm_putI (sm_putI (sm_putI (sm_putI (sm_putI (sm_putI M b_39 (x1).toNatClampNeg 0) b_43 (x1).toNatClampNeg 0) b_47 (x1).toNatClampNeg 0) b_51 (x1).toNatClampNeg 8) b_55 (x1).toNatClampNeg 0) b_59 (x1).toNatClampNeg 0) Q) ∧ (¬ (¬ (sm_I M b_34 (0 : Int32).toNatClampNeg) = 0) → Q (some (.inl 0)) M))))))))) :
    sm_Run d 195 0 [some (.inr (some a0)), some (.inl x1), z2] [] M Q := by
  refine ru_go (t := (1, [some (.inr (some a0)), some (.inl x1), z2], [.inl x1], M)) sm_a195_0 rfl rfl rfl ?_
  refine ru_if (pc := 1) (p := 31) (p2 := 4) sm_a195_1 (by decide) rfl ⟨fun hc_1 => ?_, fun hc_1 => ?_⟩
  · have h := h.1 hc_1
    refine ru_go (t := (32, [some (.inr (some a0)), some (.inl x1), z2], [.inl 0], M)) sm_a195_31 rfl rfl (st_iconst (by decide)) ?_
    exact ru_ret sm_a195_32 (sm_rvz rfl (by decide)) h
  · have h := h.2 hc_1
    refine ru_go (t := (5, [some (.inr (some a0)), some (.inl x1), z2], [.inl x1], M)) sm_a195_4 rfl rfl rfl ?_
    refine ru_go (t := (6, [some (.inr (some a0)), some (.inl x1), z2], [.inl 5, .inl x1], M)) sm_a195_5 rfl rfl (st_iconst (by decide)) ?_
    refine ru_icmp (pc := 6) (p := 31) (p2 := 9) sm_a195_6 (by decide) rfl ⟨fun hc_2 => ?_, fun hc_2 => ?_⟩
    · have h := h.1 hc_2
      refine ru_go (t := (32, [some (.inr (some a0)), some (.inl x1), z2], [.inl 0], M)) sm_a195_31 rfl rfl (st_iconst (by decide)) ?_
      exact ru_ret sm_a195_32 (sm_rvz rfl (by decide)) h
    · have h := h.2 hc_2
      refine ru_go (t := (10, [some (.inr (some a0)), some (.inl x1), z2], [.inr (some a0)], M)) sm_a195_9 rfl rfl rfl ?_
      obtain ⟨h_3, h⟩ := h
      refine ru_go (t := (13, [some (.inr (some a0)), some (.inl x1), z2], [.inr (sm_R M a0 4)], M)) sm_a195_10 rfl rfl (st_getR h_3 rfl rfl) ?_
      refine ru_go (t := (14, [some (.inr (some a0)), some (.inl x1), z2], [.inl x1, .inr (sm_R M a0 4)], M)) sm_a195_13 rfl rfl rfl ?_
      refine ru_if (pc := 14) (p := 22) (p2 := 17) sm_a195_14 (by decide) rfl ⟨fun hc => absurd hc hc_1, fun _ => ?_⟩
      refine ru_go (t := (18, [some (.inr (some a0)), some (.inl x1), z2], [.inl x1, .inr (sm_R M a0 4)], M)) sm_a195_17 rfl rfl rfl ?_
      refine ru_go (t := (19, [some (.inr (some a0)), some (.inl x1), z2], [.inl 5, .inl x1, .inr (sm_R M a0 4)], M)) sm_a195_18 rfl rfl (st_iconst (by decide)) ?_
      refine ru_icmp (pc := 19) (p := 26) (p2 := 22) sm_a195_19 (by decide) rfl ⟨fun hc_4 => ?_, fun hc_4 => ?_⟩
      · have h := h.1 hc_4
        refine ru_go (t := (27, [some (.inr (some a0)), some (.inl x1), z2], [.inl x1, .inr (sm_R M a0 4)], M)) sm_a195_26 rfl rfl rfl ?_
        obtain ⟨b_5, hb_6, h⟩ := h
        rw [hb_6]
        obtain ⟨h_7, h⟩ := h
        obtain ⟨h_8, h⟩ := h
        refine ru_go (t := (28, [some (.inr (some a0)), some (.inl x1), z2], [.inl (sm_I M b_5 (x1).toNatClampNeg)], M)) sm_a195_27 rfl rfl (st_iald h_7 h_8) ?_
        refine ru_if (pc := 28) (p := 33) (p2 := 31) sm_a195_28 (by decide) rfl ⟨fun hc_9 => ?_, fun hc_9 => ?_⟩
        · have h := h.1 hc_9
          refine ru_go (t := (34, [some (.inr (some a0)), some (.inl x1), z2], [.inr (some a0)], M)) sm_a195_33 rfl rfl rfl ?_
          refine ru_go (t := (37, [some (.inr (some a0)), some (.inl x1), z2], [.inr (sm_R M a0 4)], M)) sm_a195_34 rfl rfl (st_getR h_3 rfl rfl) ?_
          refine ru_go (t := (38, [some (.inr (some a0)), some (.inl x1), z2], [.inl x1, .inr (sm_R M a0 4)], M)) sm_a195_37 rfl rfl rfl ?_
          refine ru_go (t := (39, [some (.inr (some a0)), some (.inl x1), z2], [.inl 0, .inl x1, .inr (sm_R M a0 4)], M)) sm_a195_38 rfl rfl (st_iconst (by decide)) ?_
          obtain ⟨b_10, hb_11, h⟩ := h
          rw [hb_11]
          obtain ⟨h_12, h⟩ := h
          obtain ⟨h_13, h⟩ := h
          refine ru_go (t := (40, [some (.inr (some a0)), some (.inl x1), z2], [], sm_putI M b_10 (x1).toNatClampNeg 0)) sm_a195_39 rfl rfl (st_iast h_12 h_13) ?_
          refine ru_go (t := (41, [some (.inr (some a0)), some (.inl x1), z2], [.inr (some a0)], sm_putI M b_10 (x1).toNatClampNeg 0)) sm_a195_40 rfl rfl rfl ?_
          refine ru_go (t := (44, [some (.inr (some a0)), some (.inl x1), z2], [.inr (sm_R (sm_putI M b_10 (x1).toNatClampNeg 0) a0 5)], sm_putI M b_10 (x1).toNatClampNeg 0)) sm_a195_41 rfl rfl (st_getR h_3 rfl rfl) ?_
          refine ru_go (t := (45, [some (.inr (some a0)), some (.inl x1), z2], [.inl x1, .inr (sm_R (sm_putI M b_10 (x1).toNatClampNeg 0) a0 5)], sm_putI M b_10 (x1).toNatClampNeg 0)) sm_a195_44 rfl rfl rfl ?_
          refine ru_go (t := (46, [some (.inr (some a0)), some (.inl x1), z2], [.inl 0, .inl x1, .inr (sm_R (sm_putI M b_10 (x1).toNatClampNeg 0) a0 5)], sm_putI M b_10 (x1).toNatClampNeg 0)) sm_a195_45 rfl rfl (st_iconst (by decide)) ?_
          obtain ⟨b_14, hb_15, h⟩ := h
          rw [hb_15]
          obtain ⟨h_16, h⟩ := h
          obtain ⟨h_17, h⟩ := h
          refine ru_go (t := (47, [some (.inr (some a0)), some (.inl x1), z2], [], sm_putI (sm_putI M b_10 (x1).toNatClampNeg 0) b_14 (x1).toNatClampNeg 0)) sm_a195_46 rfl rfl (st_iast h_16 h_17) ?_
          refine ru_go (t := (48, [some (.inr (some a0)), some (.inl x1), z2], [.inr (some a0)], sm_putI (sm_putI M b_10 (x1).toNatClampNeg 0) b_14 (x1).toNatClampNeg 0)) sm_a195_47 rfl rfl rfl ?_
          refine ru_go (t := (51, [some (.inr (some a0)), some (.inl x1), z2], [.inr (sm_R (sm_putI (sm_putI M b_10 (x1).toNatClampNeg 0) b_14 (x1).toNatClampNeg 0) a0 57)], sm_putI (sm_putI M b_10 (x1).toNatClampNeg 0) b_14 (x1).toNatClampNeg 0)) sm_a195_48 rfl rfl (st_getR h_3 rfl rfl) ?_
          refine ru_go (t := (52, [some (.inr (some a0)), some (.inl x1), z2], [.inl x1, .inr (sm_R (sm_putI (sm_putI M b_10 (x1).toNatClampNeg 0) b_14 (x1).toNatClampNeg 0) a0 57)], sm_putI (sm_putI M b_10 (x1).toNatClampNeg 0) b_14 (x1).toNatClampNeg 0)) sm_a195_51 rfl rfl rfl ?_
          refine ru_go (t := (53, [some (.inr (some a0)), some (.inl x1), z2], [.inl 0, .inl x1, .inr (sm_R (sm_putI (sm_putI M b_10 (x1).toNatClampNeg 0) b_14 (x1).toNatClampNeg 0) a0 57)], sm_putI (sm_putI M b_10 (x1).toNatClampNeg 0) b_14 (x1).toNatClampNeg 0)) sm_a195_52 rfl rfl (st_iconst (by decide)) ?_
          obtain ⟨b_18, hb_19, h⟩ := h
          rw [hb_19]
          obtain ⟨h_20, h⟩ := h
          obtain ⟨h_21, h⟩ := h
          refine ru_go (t := (54, [some (.inr (some a0)), some (.inl x1), z2], [], sm_putI (sm_putI (sm_putI M b_10 (x1).toNatClampNeg 0) b_14 (x1).toNatClampNeg 0) b_18 (x1).toNatClampNeg 0)) sm_a195_53 rfl rfl (st_iast h_20 h_21) ?_
          refine ru_go (t := (55, [some (.inr (some a0)), some (.inl x1), z2], [.inr (some a0)], sm_putI (sm_putI (sm_putI M b_10 (x1).toNatClampNeg 0) b_14 (x1).toNatClampNeg 0) b_18 (x1).toNatClampNeg 0)) sm_a195_54 rfl rfl rfl ?_
          refine ru_go (t := (58, [some (.inr (some a0)), some (.inl x1), z2], [.inr (sm_R (sm_putI (sm_putI (sm_putI M b_10 (x1).toNatClampNeg 0) b_14 (x1).toNatClampNeg 0) b_18 (x1).toNatClampNeg 0) a0 58)], sm_putI (sm_putI (sm_putI M b_10 (x1).toNatClampNeg 0) b_14 (x1).toNatClampNeg 0) b_18 (x1).toNatClampNeg 0)) sm_a195_55 rfl rfl (st_getR h_3 rfl rfl) ?_
          refine ru_go (t := (59, [some (.inr (some a0)), some (.inl x1), z2], [.inl x1, .inr (sm_R (sm_putI (sm_putI (sm_putI M b_10 (x1).toNatClampNeg 0) b_14 (x1).toNatClampNeg 0) b_18 (x1).toNatClampNeg 0) a0 58)], sm_putI (sm_putI (sm_putI M b_10 (x1).toNatClampNeg 0) b_14 (x1).toNatClampNeg 0) b_18 (x1).toNatClampNeg 0)) sm_a195_58 rfl rfl rfl ?_
          refine ru_go (t := (61, [some (.inr (some a0)), some (.inl x1), z2], [.inl 8, .inl x1, .inr (sm_R (sm_putI (sm_putI (sm_putI M b_10 (x1).toNatClampNeg 0) b_14 (x1).toNatClampNeg 0) b_18 (x1).toNatClampNeg 0) a0 58)], sm_putI (sm_putI (sm_putI M b_10 (x1).toNatClampNeg 0) b_14 (x1).toNatClampNeg 0) b_18 (x1).toNatClampNeg 0)) sm_a195_59 rfl rfl (st_bipush (by decide)) ?_
          obtain ⟨b_22, hb_23, h⟩ := h
          rw [hb_23]
          obtain ⟨h_24, h⟩ := h
          obtain ⟨h_25, h⟩ := h
          refine ru_go (t := (62, [some (.inr (some a0)), some (.inl x1), z2], [], sm_putI (sm_putI (sm_putI (sm_putI M b_10 (x1).toNatClampNeg 0) b_14 (x1).toNatClampNeg 0) b_18 (x1).toNatClampNeg 0) b_22 (x1).toNatClampNeg 8)) sm_a195_61 rfl rfl (st_iast h_24 h_25) ?_
          refine ru_go (t := (63, [some (.inr (some a0)), some (.inl x1), z2], [.inr (some a0)], sm_putI (sm_putI (sm_putI (sm_putI M b_10 (x1).toNatClampNeg 0) b_14 (x1).toNatClampNeg 0) b_18 (x1).toNatClampNeg 0) b_22 (x1).toNatClampNeg 8)) sm_a195_62 rfl rfl rfl ?_
          refine ru_go (t := (66, [some (.inr (some a0)), some (.inl x1), z2], [.inr (sm_R (sm_putI (sm_putI (sm_putI (sm_putI M b_10 (x1).toNatClampNeg 0) b_14 (x1).toNatClampNeg 0) b_18 (x1).toNatClampNeg 0) b_22 (x1).toNatClampNeg 8) a0 59)], sm_putI (sm_putI (sm_putI (sm_putI M b_10 (x1).toNatClampNeg 0) b_14 (x1).toNatClampNeg 0) b_18 (x1).toNatClampNeg 0) b_22 (x1).toNatClampNeg 8)) sm_a195_63 rfl rfl (st_getR h_3 rfl rfl) ?_
          refine ru_go (t := (67, [some (.inr (some a0)), some (.inl x1), z2], [.inl x1, .inr (sm_R (sm_putI (sm_putI (sm_putI (sm_putI M b_10 (x1).toNatClampNeg 0) b_14 (x1).toNatClampNeg 0) b_18 (x1).toNatClampNeg 0) b_22 (x1).toNatClampNeg 8) a0 59)], sm_putI (sm_putI (sm_putI (sm_putI M b_10 (x1).toNatClampNeg 0) b_14 (x1).toNatClampNeg 0) b_18 (x1).toNatClampNeg 0) b_22 (x1).toNatClampNeg 8)) sm_a195_66 rfl rfl rfl ?_
          refine ru_go (t := (68, [some (.inr (some a0)), some (.inl x1), z2], [.inl 0, .inl x1, .inr (sm_R (sm_putI (sm_putI (sm_putI (sm_putI M b_10 (x1).toNatClampNeg 0) b_14 (x1).toNatClampNeg 0) b_18 (x1).toNatClampNeg 0) b_22 (x1).toNatClampNeg 8) a0 59)], sm_putI (sm_putI (sm_putI (sm_putI M b_10 (x1).toNatClampNeg 0) b_14 (x1).toNatClampNeg 0) b_18 (x1).toNatClampNeg 0) b_22 (x1).toNatClampNeg 8)) sm_a195_67 rfl rfl (st_iconst (by decide)) ?_
          obtain ⟨b_26, hb_27, h⟩ := h
          rw [hb_27]
          obtain ⟨h_28, h⟩ := h
          obtain ⟨h_29, h⟩ := h
          refine ru_go (t := (69, [some (.inr (some a0)), some (.inl x1), z2], [], sm_putI (sm_putI (sm_putI (sm_putI (sm_putI M b_10 (x1).toNatClampNeg 0) b_14 (x1).toNatClampNeg 0) b_18 (x1).toNatClampNeg 0) b_22 (x1).toNatClampNeg 8) b_26 (x1).toNatClampNeg 0)) sm_a195_68 rfl rfl (st_iast h_28 h_29) ?_
          refine ru_go (t := (70, [some (.inr (some a0)), some (.inl x1), z2], [.inr (some a0)], sm_putI (sm_putI (sm_putI (sm_putI (sm_putI M b_10 (x1).toNatClampNeg 0) b_14 (x1).toNatClampNeg 0) b_18 (x1).toNatClampNeg 0) b_22 (x1).toNatClampNeg 8) b_26 (x1).toNatClampNeg 0)) sm_a195_69 rfl rfl rfl ?_
          refine ru_go (t := (73, [some (.inr (some a0)), some (.inl x1), z2], [.inr (sm_R (sm_putI (sm_putI (sm_putI (sm_putI (sm_putI M b_10 (x1).toNatClampNeg 0) b_14 (x1).toNatClampNeg 0) b_18 (x1).toNatClampNeg 0) b_22 (x1).toNatClampNeg 8) b_26 (x1).toNatClampNeg 0) a0 61)], sm_putI (sm_putI (sm_putI (sm_putI (sm_putI M b_10 (x1).toNatClampNeg 0) b_14 (x1).toNatClampNeg 0) b_18 (x1).toNatClampNeg 0) b_22 (x1).toNatClampNeg 8) b_26 (x1).toNatClampNeg 0)) sm_a195_70 rfl rfl (st_getR h_3 rfl rfl) ?_
          refine ru_go (t := (74, [some (.inr (some a0)), some (.inl x1), z2], [.inl x1, .inr (sm_R (sm_putI (sm_putI (sm_putI (sm_putI (sm_putI M b_10 (x1).toNatClampNeg 0) b_14 (x1).toNatClampNeg 0) b_18 (x1).toNatClampNeg 0) b_22 (x1).toNatClampNeg 8) b_26 (x1).toNatClampNeg 0) a0 61)], sm_putI (sm_putI (sm_putI (sm_putI (sm_putI M b_10 (x1).toNatClampNeg 0) b_14 (x1).toNatClampNeg 0) b_18 (x1).toNatClampNeg 0) b_22 (x1).toNatClampNeg 8) b_26 (x1).toNatClampNeg 0)) sm_a195_73 rfl rfl rfl ?_
          refine ru_go (t := (75, [some (.inr (some a0)), some (.inl x1), z2], [.inl 0, .inl x1, .inr (sm_R (sm_putI (sm_putI (sm_putI (sm_putI (sm_putI M b_10 (x1).toNatClampNeg 0) b_14 (x1).toNatClampNeg 0) b_18 (x1).toNatClampNeg 0) b_22 (x1).toNatClampNeg 8) b_26 (x1).toNatClampNeg 0) a0 61)], sm_putI (sm_putI (sm_putI (sm_putI (sm_putI M b_10 (x1).toNatClampNeg 0) b_14 (x1).toNatClampNeg 0) b_18 (x1).toNatClampNeg 0) b_22 (x1).toNatClampNeg 8) b_26 (x1).toNatClampNeg 0)) sm_a195_74 rfl rfl (st_iconst (by decide)) ?_
          obtain ⟨b_30, hb_31, h⟩ := h
          rw [hb_31]
          obtain ⟨h_32, h⟩ := h
          obtain ⟨h_33, h⟩ := h
          refine ru_go (t := (76, [some (.inr (some a0)), some (.inl x1), z2], [], sm_putI (sm_putI (sm_putI (sm_putI (sm_putI (sm_putI M b_10 (x1).toNatClampNeg 0) b_14 (x1).toNatClampNeg 0) b_18 (x1).toNatClampNeg 0) b_22 (x1).toNatClampNeg 8) b_26 (x1).toNatClampNeg 0) b_30 (x1).toNatClampNeg 0)) sm_a195_75 rfl rfl (st_iast h_32 h_33) ?_
          refine ru_go (t := (77, [some (.inr (some a0)), some (.inl x1), z2], [.inl 0], sm_putI (sm_putI (sm_putI (sm_putI (sm_putI (sm_putI M b_10 (x1).toNatClampNeg 0) b_14 (x1).toNatClampNeg 0) b_18 (x1).toNatClampNeg 0) b_22 (x1).toNatClampNeg 8) b_26 (x1).toNatClampNeg 0) b_30 (x1).toNatClampNeg 0)) sm_a195_76 rfl rfl (st_iconst (by decide)) ?_
          refine ru_go (t := (78, [some (.inr (some a0)), some (.inl x1), some (.inl 0)], [], sm_putI (sm_putI (sm_putI (sm_putI (sm_putI (sm_putI M b_10 (x1).toNatClampNeg 0) b_14 (x1).toNatClampNeg 0) b_18 (x1).toNatClampNeg 0) b_22 (x1).toNatClampNeg 8) b_26 (x1).toNatClampNeg 0) b_30 (x1).toNatClampNeg 0)) sm_a195_77 rfl rfl rfl ?_
          exact h
        · have h := h.2 hc_9
          refine ru_go (t := (32, [some (.inr (some a0)), some (.inl x1), z2], [.inl 0], M)) sm_a195_31 rfl rfl (st_iconst (by decide)) ?_
          exact ru_ret sm_a195_32 (sm_rvz rfl (by decide)) h
      · have h := h.2 hc_4
        refine ru_go (t := (23, [some (.inr (some a0)), some (.inl x1), z2], [.inl 0, .inr (sm_R M a0 4)], M)) sm_a195_22 rfl rfl (st_iconst (by decide)) ?_
        refine ru_go (t := (27, [some (.inr (some a0)), some (.inl x1), z2], [.inl 0, .inr (sm_R M a0 4)], M)) sm_a195_23 rfl rfl (st_goto (pc := 23) (by decide)) ?_
        obtain ⟨b_34, hb_35, h⟩ := h
        rw [hb_35]
        obtain ⟨h_36, h⟩ := h
        obtain ⟨h_37, h⟩ := h
        refine ru_go (t := (28, [some (.inr (some a0)), some (.inl x1), z2], [.inl (sm_I M b_34 (0 : Int32).toNatClampNeg)], M)) sm_a195_27 rfl rfl (st_iald h_36 h_37) ?_
        refine ru_if (pc := 28) (p := 33) (p2 := 31) sm_a195_28 (by decide) rfl ⟨fun hc_38 => ?_, fun hc_38 => ?_⟩
        · have h := h.1 hc_38
          refine ru_go (t := (34, [some (.inr (some a0)), some (.inl x1), z2], [.inr (some a0)], M)) sm_a195_33 rfl rfl rfl ?_
          refine ru_go (t := (37, [some (.inr (some a0)), some (.inl x1), z2], [.inr (sm_R M a0 4)], M)) sm_a195_34 rfl rfl (st_getR h_3 rfl rfl) ?_
          refine ru_go (t := (38, [some (.inr (some a0)), some (.inl x1), z2], [.inl x1, .inr (sm_R M a0 4)], M)) sm_a195_37 rfl rfl rfl ?_
          refine ru_go (t := (39, [some (.inr (some a0)), some (.inl x1), z2], [.inl 0, .inl x1, .inr (sm_R M a0 4)], M)) sm_a195_38 rfl rfl (st_iconst (by decide)) ?_
          obtain ⟨b_39, hb_40, h⟩ := h
          rw [hb_40]
          obtain ⟨h_41, h⟩ := h
          obtain ⟨h_42, h⟩ := h
          refine ru_go (t := (40, [some (.inr (some a0)), some (.inl x1), z2], [], sm_putI M b_39 (x1).toNatClampNeg 0)) sm_a195_39 rfl rfl (st_iast h_41 h_42) ?_
          refine ru_go (t := (41, [some (.inr (some a0)), some (.inl x1), z2], [.inr (some a0)], sm_putI M b_39 (x1).toNatClampNeg 0)) sm_a195_40 rfl rfl rfl ?_
          refine ru_go (t := (44, [some (.inr (some a0)), some (.inl x1), z2], [.inr (sm_R (sm_putI M b_39 (x1).toNatClampNeg 0) a0 5)], sm_putI M b_39 (x1).toNatClampNeg 0)) sm_a195_41 rfl rfl (st_getR h_3 rfl rfl) ?_
          refine ru_go (t := (45, [some (.inr (some a0)), some (.inl x1), z2], [.inl x1, .inr (sm_R (sm_putI M b_39 (x1).toNatClampNeg 0) a0 5)], sm_putI M b_39 (x1).toNatClampNeg 0)) sm_a195_44 rfl rfl rfl ?_
          refine ru_go (t := (46, [some (.inr (some a0)), some (.inl x1), z2], [.inl 0, .inl x1, .inr (sm_R (sm_putI M b_39 (x1).toNatClampNeg 0) a0 5)], sm_putI M b_39 (x1).toNatClampNeg 0)) sm_a195_45 rfl rfl (st_iconst (by decide)) ?_
          obtain ⟨b_43, hb_44, h⟩ := h
          rw [hb_44]
          obtain ⟨h_45, h⟩ := h
          obtain ⟨h_46, h⟩ := h
          refine ru_go (t := (47, [some (.inr (some a0)), some (.inl x1), z2], [], sm_putI (sm_putI M b_39 (x1).toNatClampNeg 0) b_43 (x1).toNatClampNeg 0)) sm_a195_46 rfl rfl (st_iast h_45 h_46) ?_
          refine ru_go (t := (48, [some (.inr (some a0)), some (.inl x1), z2], [.inr (some a0)], sm_putI (sm_putI M b_39 (x1).toNatClampNeg 0) b_43 (x1).toNatClampNeg 0)) sm_a195_47 rfl rfl rfl ?_
          refine ru_go (t := (51, [some (.inr (some a0)), some (.inl x1), z2], [.inr (sm_R (sm_putI (sm_putI M b_39 (x1).toNatClampNeg 0) b_43 (x1).toNatClampNeg 0) a0 57)], sm_putI (sm_putI M b_39 (x1).toNatClampNeg 0) b_43 (x1).toNatClampNeg 0)) sm_a195_48 rfl rfl (st_getR h_3 rfl rfl) ?_
          refine ru_go (t := (52, [some (.inr (some a0)), some (.inl x1), z2], [.inl x1, .inr (sm_R (sm_putI (sm_putI M b_39 (x1).toNatClampNeg 0) b_43 (x1).toNatClampNeg 0) a0 57)], sm_putI (sm_putI M b_39 (x1).toNatClampNeg 0) b_43 (x1).toNatClampNeg 0)) sm_a195_51 rfl rfl rfl ?_
          refine ru_go (t := (53, [some (.inr (some a0)), some (.inl x1), z2], [.inl 0, .inl x1, .inr (sm_R (sm_putI (sm_putI M b_39 (x1).toNatClampNeg 0) b_43 (x1).toNatClampNeg 0) a0 57)], sm_putI (sm_putI M b_39 (x1).toNatClampNeg 0) b_43 (x1).toNatClampNeg 0)) sm_a195_52 rfl rfl (st_iconst (by decide)) ?_
          obtain ⟨b_47, hb_48, h⟩ := h
          rw [hb_48]
          obtain ⟨h_49, h⟩ := h
          obtain ⟨h_50, h⟩ := h
          refine ru_go (t := (54, [some (.inr (some a0)), some (.inl x1), z2], [], sm_putI (sm_putI (sm_putI M b_39 (x1).toNatClampNeg 0) b_43 (x1).toNatClampNeg 0) b_47 (x1).toNatClampNeg 0)) sm_a195_53 rfl rfl (st_iast h_49 h_50) ?_
          refine ru_go (t := (55, [some (.inr (some a0)), some (.inl x1), z2], [.inr (some a0)], sm_putI (sm_putI (sm_putI M b_39 (x1).toNatClampNeg 0) b_43 (x1).toNatClampNeg 0) b_47 (x1).toNatClampNeg 0)) sm_a195_54 rfl rfl rfl ?_
          refine ru_go (t := (58, [some (.inr (some a0)), some (.inl x1), z2], [.inr (sm_R (sm_putI (sm_putI (sm_putI M b_39 (x1).toNatClampNeg 0) b_43 (x1).toNatClampNeg 0) b_47 (x1).toNatClampNeg 0) a0 58)], sm_putI (sm_putI (sm_putI M b_39 (x1).toNatClampNeg 0) b_43 (x1).toNatClampNeg 0) b_47 (x1).toNatClampNeg 0)) sm_a195_55 rfl rfl (st_getR h_3 rfl rfl) ?_
          refine ru_go (t := (59, [some (.inr (some a0)), some (.inl x1), z2], [.inl x1, .inr (sm_R (sm_putI (sm_putI (sm_putI M b_39 (x1).toNatClampNeg 0) b_43 (x1).toNatClampNeg 0) b_47 (x1).toNatClampNeg 0) a0 58)], sm_putI (sm_putI (sm_putI M b_39 (x1).toNatClampNeg 0) b_43 (x1).toNatClampNeg 0) b_47 (x1).toNatClampNeg 0)) sm_a195_58 rfl rfl rfl ?_
          refine ru_go (t := (61, [some (.inr (some a0)), some (.inl x1), z2], [.inl 8, .inl x1, .inr (sm_R (sm_putI (sm_putI (sm_putI M b_39 (x1).toNatClampNeg 0) b_43 (x1).toNatClampNeg 0) b_47 (x1).toNatClampNeg 0) a0 58)], sm_putI (sm_putI (sm_putI M b_39 (x1).toNatClampNeg 0) b_43 (x1).toNatClampNeg 0) b_47 (x1).toNatClampNeg 0)) sm_a195_59 rfl rfl (st_bipush (by decide)) ?_
          obtain ⟨b_51, hb_52, h⟩ := h
          rw [hb_52]
          obtain ⟨h_53, h⟩ := h
          obtain ⟨h_54, h⟩ := h
          refine ru_go (t := (62, [some (.inr (some a0)), some (.inl x1), z2], [], sm_putI (sm_putI (sm_putI (sm_putI M b_39 (x1).toNatClampNeg 0) b_43 (x1).toNatClampNeg 0) b_47 (x1).toNatClampNeg 0) b_51 (x1).toNatClampNeg 8)) sm_a195_61 rfl rfl (st_iast h_53 h_54) ?_
          refine ru_go (t := (63, [some (.inr (some a0)), some (.inl x1), z2], [.inr (some a0)], sm_putI (sm_putI (sm_putI (sm_putI M b_39 (x1).toNatClampNeg 0) b_43 (x1).toNatClampNeg 0) b_47 (x1).toNatClampNeg 0) b_51 (x1).toNatClampNeg 8)) sm_a195_62 rfl rfl rfl ?_
          refine ru_go (t := (66, [some (.inr (some a0)), some (.inl x1), z2], [.inr (sm_R (sm_putI (sm_putI (sm_putI (sm_putI M b_39 (x1).toNatClampNeg 0) b_43 (x1).toNatClampNeg 0) b_47 (x1).toNatClampNeg 0) b_51 (x1).toNatClampNeg 8) a0 59)], sm_putI (sm_putI (sm_putI (sm_putI M b_39 (x1).toNatClampNeg 0) b_43 (x1).toNatClampNeg 0) b_47 (x1).toNatClampNeg 0) b_51 (x1).toNatClampNeg 8)) sm_a195_63 rfl rfl (st_getR h_3 rfl rfl) ?_
          refine ru_go (t := (67, [some (.inr (some a0)), some (.inl x1), z2], [.inl x1, .inr (sm_R (sm_putI (sm_putI (sm_putI (sm_putI M b_39 (x1).toNatClampNeg 0) b_43 (x1).toNatClampNeg 0) b_47 (x1).toNatClampNeg 0) b_51 (x1).toNatClampNeg 8) a0 59)], sm_putI (sm_putI (sm_putI (sm_putI M b_39 (x1).toNatClampNeg 0) b_43 (x1).toNatClampNeg 0) b_47 (x1).toNatClampNeg 0) b_51 (x1).toNatClampNeg 8)) sm_a195_66 rfl rfl rfl ?_
          refine ru_go (t := (68, [some (.inr (some a0)), some (.inl x1), z2], [.inl 0, .inl x1, .inr (sm_R (sm_putI (sm_putI (sm_putI (sm_putI M b_39 (x1).toNatClampNeg 0) b_43 (x1).toNatClampNeg 0) b_47 (x1).toNatClampNeg 0) b_51 (x1).toNatClampNeg 8) a0 59)], sm_putI (sm_putI (sm_putI (sm_putI M b_39 (x1).toNatClampNeg 0) b_43 (x1).toNatClampNeg 0) b_47 (x1).toNatClampNeg 0) b_51 (x1).toNatClampNeg 8)) sm_a195_67 rfl rfl (st_iconst (by decide)) ?_
          obtain ⟨b_55, hb_56, h⟩ := h
          rw [hb_56]
          obtain ⟨h_57, h⟩ := h
          obtain ⟨h_58, h⟩ := h
          refine ru_go (t := (69, [some (.inr (some a0)), some (.inl x1), z2], [], sm_putI (sm_putI (sm_putI (sm_putI (sm_putI M b_39 (x1).toNatClampNeg 0) b_43 (x1).toNatClampNeg 0) b_47 (x1).toNatClampNeg 0) b_51 (x1).toNatClampNeg 8) b_55 (x1).toNatClampNeg 0)) sm_a195_68 rfl rfl (st_iast h_57 h_58) ?_
          refine ru_go (t := (70, [some (.inr (some a0)), some (.inl x1), z2], [.inr (some a0)], sm_putI (sm_putI (sm_putI (sm_putI (sm_putI M b_39 (x1).toNatClampNeg 0) b_43 (x1).toNatClampNeg 0) b_47 (x1).toNatClampNeg 0) b_51 (x1).toNatClampNeg 8) b_55 (x1).toNatClampNeg 0)) sm_a195_69 rfl rfl rfl ?_
          refine ru_go (t := (73, [some (.inr (some a0)), some (.inl x1), z2], [.inr (sm_R (sm_putI (sm_putI (sm_putI (sm_putI (sm_putI M b_39 (x1).toNatClampNeg 0) b_43 (x1).toNatClampNeg 0) b_47 (x1).toNatClampNeg 0) b_51 (x1).toNatClampNeg 8) b_55 (x1).toNatClampNeg 0) a0 61)], sm_putI (sm_putI (sm_putI (sm_putI (sm_putI M b_39 (x1).toNatClampNeg 0) b_43 (x1).toNatClampNeg 0) b_47 (x1).toNatClampNeg 0) b_51 (x1).toNatClampNeg 8) b_55 (x1).toNatClampNeg 0)) sm_a195_70 rfl rfl (st_getR h_3 rfl rfl) ?_
          refine ru_go (t := (74, [some (.inr (some a0)), some (.inl x1), z2], [.inl x1, .inr (sm_R (sm_putI (sm_putI (sm_putI (sm_putI (sm_putI M b_39 (x1).toNatClampNeg 0) b_43 (x1).toNatClampNeg 0) b_47 (x1).toNatClampNeg 0) b_51 (x1).toNatClampNeg 8) b_55 (x1).toNatClampNeg 0) a0 61)], sm_putI (sm_putI (sm_putI (sm_putI (sm_putI M b_39 (x1).toNatClampNeg 0) b_43 (x1).toNatClampNeg 0) b_47 (x1).toNatClampNeg 0) b_51 (x1).toNatClampNeg 8) b_55 (x1).toNatClampNeg 0)) sm_a195_73 rfl rfl rfl ?_
          refine ru_go (t := (75, [some (.inr (some a0)), some (.inl x1), z2], [.inl 0, .inl x1, .inr (sm_R (sm_putI (sm_putI (sm_putI (sm_putI (sm_putI M b_39 (x1).toNatClampNeg 0) b_43 (x1).toNatClampNeg 0) b_47 (x1).toNatClampNeg 0) b_51 (x1).toNatClampNeg 8) b_55 (x1).toNatClampNeg 0) a0 61)], sm_putI (sm_putI (sm_putI (sm_putI (sm_putI M b_39 (x1).toNatClampNeg 0) b_43 (x1).toNatClampNeg 0) b_47 (x1).toNatClampNeg 0) b_51 (x1).toNatClampNeg 8) b_55 (x1).toNatClampNeg 0)) sm_a195_74 rfl rfl (st_iconst (by decide)) ?_
          obtain ⟨b_59, hb_60, h⟩ := h
          rw [hb_60]
          obtain ⟨h_61, h⟩ := h
          obtain ⟨h_62, h⟩ := h
          refine ru_go (t := (76, [some (.inr (some a0)), some (.inl x1), z2], [], sm_putI (sm_putI (sm_putI (sm_putI (sm_putI (sm_putI M b_39 (x1).toNatClampNeg 0) b_43 (x1).toNatClampNeg 0) b_47 (x1).toNatClampNeg 0) b_51 (x1).toNatClampNeg 8) b_55 (x1).toNatClampNeg 0) b_59 (x1).toNatClampNeg 0)) sm_a195_75 rfl rfl (st_iast h_61 h_62) ?_
          refine ru_go (t := (77, [some (.inr (some a0)), some (.inl x1), z2], [.inl 0], sm_putI (sm_putI (sm_putI (sm_putI (sm_putI (sm_putI M b_39 (x1).toNatClampNeg 0) b_43 (x1).toNatClampNeg 0) b_47 (x1).toNatClampNeg 0) b_51 (x1).toNatClampNeg 8) b_55 (x1).toNatClampNeg 0) b_59 (x1).toNatClampNeg 0)) sm_a195_76 rfl rfl (st_iconst (by decide)) ?_
          refine ru_go (t := (78, [some (.inr (some a0)), some (.inl x1), some (.inl 0)], [], sm_putI (sm_putI (sm_putI (sm_putI (sm_putI (sm_putI M b_39 (x1).toNatClampNeg 0) b_43 (x1).toNatClampNeg 0) b_47 (x1).toNatClampNeg 0) b_51 (x1).toNatClampNeg 8) b_55 (x1).toNatClampNeg 0) b_59 (x1).toNatClampNeg 0)) sm_a195_77 rfl rfl rfl ?_
          exact h
        · have h := h.2 hc_38
          refine ru_go (t := (32, [some (.inr (some a0)), some (.inl x1), z2], [.inl 0], M)) sm_a195_31 rfl rfl (st_iconst (by decide)) ?_
          exact ru_ret sm_a195_32 (sm_rvz rfl (by decide)) h
theorem bb_195_78 {d : Nat} {M : sm_M} {Q : Option sm_V → sm_M → Prop} {a0 : Nat} {x1 : Int32} {x2 : Int32}
    (h : sm_K M a0 = 39 ∧ (((sm_I M a0 70) ≤ x2 → Q (some (.inl 1)) M) ∧ (¬ ((sm_I M a0 70) ≤ x2) → ∃ b_3, sm_R M a0 73 = some b_3 ∧ sm_iA M b_3 ∧ sm_in_ M b_3 x2 ∧ ((¬ (sm_I M b_3 (x2).toNatClampNeg) = 0 → ∃ b_8, sm_R M a0 73 = some b_8 ∧ sm_iA M b_8 ∧ sm_in_ M b_8 x2 ∧ sm_wA 1 M b_3 ∧ sm_Run d 195 78 [some (.inr (some a0)), some (.inl x1), some (.inl (x2 + 1))] [] (sm_putI M b_3 (x2).toNatClampNeg (sm_I M b_8 (x2).toNatClampNeg)) Q) ∧ (¬ (¬ (sm_I M b_3 (x2).toNatClampNeg) = 0) → ∃ b_13, sm_R M a0 71 = some b_13 ∧ sm_iA M b_13 ∧ sm_in_ M b_13 x2 ∧ ((¬ (sm_I M b_13 (x2).toNatClampNeg) = x1 → ∃ b_18, sm_R M a0 73 = some b_18 ∧ sm_iA M b_18 ∧ sm_in_ M b_18 x2 ∧ sm_wA 1 M b_3 ∧ sm_Run d 195 78 [some (.inr (some a0)), some (.inl x1), some (.inl (x2 + 1))] [] (sm_putI M b_3 (x2).toNatClampNeg (sm_I M b_18 (x2).toNatClampNeg)) Q) ∧ (¬ (¬ (sm_I M b_13 (x2).toNatClampNeg) = x1) → sm_wA 1 M b_3 ∧ sm_Run d 195 78 [some (.inr (some a0)), some (.inl x1), some (.inl (x2 + 1))] [] (sm_putI M b_3 (x2).toNatClampNeg 3) Q))))))) :
    sm_Run d 195 78 [some (.inr (some a0)), some (.inl x1), some (.inl x2)] [] M Q := by
  refine ru_go (t := (79, [some (.inr (some a0)), some (.inl x1), some (.inl x2)], [.inl x2], M)) sm_a195_78 rfl rfl rfl ?_
  refine ru_go (t := (80, [some (.inr (some a0)), some (.inl x1), some (.inl x2)], [.inr (some a0), .inl x2], M)) sm_a195_79 rfl rfl rfl ?_
  obtain ⟨h_1, h⟩ := h
  refine ru_go (t := (83, [some (.inr (some a0)), some (.inl x1), some (.inl x2)], [.inl (sm_I M a0 70), .inl x2], M)) sm_a195_80 rfl rfl (st_getI h_1 rfl) ?_
  refine ru_icmp (pc := 83) (p := 127) (p2 := 86) sm_a195_83 (by decide) rfl ⟨fun hc_2 => ?_, fun hc_2 => ?_⟩
  · have h := h.1 hc_2
    refine ru_go (t := (128, [some (.inr (some a0)), some (.inl x1), some (.inl x2)], [.inl 1], M)) sm_a195_127 rfl rfl (st_iconst (by decide)) ?_
    exact ru_ret sm_a195_128 (sm_rvz rfl (by decide)) h
  · have h := h.2 hc_2
    refine ru_go (t := (87, [some (.inr (some a0)), some (.inl x1), some (.inl x2)], [.inr (some a0)], M)) sm_a195_86 rfl rfl rfl ?_
    refine ru_go (t := (90, [some (.inr (some a0)), some (.inl x1), some (.inl x2)], [.inr (sm_R M a0 73)], M)) sm_a195_87 rfl rfl (st_getR h_1 rfl rfl) ?_
    refine ru_go (t := (91, [some (.inr (some a0)), some (.inl x1), some (.inl x2)], [.inl x2, .inr (sm_R M a0 73)], M)) sm_a195_90 rfl rfl rfl ?_
    refine ru_go (t := (92, [some (.inr (some a0)), some (.inl x1), some (.inl x2)], [.inr (some a0), .inl x2, .inr (sm_R M a0 73)], M)) sm_a195_91 rfl rfl rfl ?_
    refine ru_go (t := (95, [some (.inr (some a0)), some (.inl x1), some (.inl x2)], [.inr (sm_R M a0 73), .inl x2, .inr (sm_R M a0 73)], M)) sm_a195_92 rfl rfl (st_getR h_1 rfl rfl) ?_
    refine ru_go (t := (96, [some (.inr (some a0)), some (.inl x1), some (.inl x2)], [.inl x2, .inr (sm_R M a0 73), .inl x2, .inr (sm_R M a0 73)], M)) sm_a195_95 rfl rfl rfl ?_
    obtain ⟨b_3, hb_4, h⟩ := h
    rw [hb_4]
    obtain ⟨h_5, h⟩ := h
    obtain ⟨h_6, h⟩ := h
    refine ru_go (t := (97, [some (.inr (some a0)), some (.inl x1), some (.inl x2)], [.inl (sm_I M b_3 (x2).toNatClampNeg), .inl x2, .inr (some b_3)], M)) sm_a195_96 rfl rfl (st_iald h_5 h_6) ?_
    refine ru_if (pc := 97) (p := 114) (p2 := 100) sm_a195_97 (by decide) rfl ⟨fun hc_7 => ?_, fun hc_7 => ?_⟩
    · have h := h.1 hc_7
      refine ru_go (t := (115, [some (.inr (some a0)), some (.inl x1), some (.inl x2)], [.inr (some a0), .inl x2, .inr (some b_3)], M)) sm_a195_114 rfl rfl rfl ?_
      refine ru_go (t := (118, [some (.inr (some a0)), some (.inl x1), some (.inl x2)], [.inr (sm_R M a0 73), .inl x2, .inr (some b_3)], M)) sm_a195_115 rfl rfl (st_getR h_1 rfl rfl) ?_
      refine ru_go (t := (119, [some (.inr (some a0)), some (.inl x1), some (.inl x2)], [.inl x2, .inr (sm_R M a0 73), .inl x2, .inr (some b_3)], M)) sm_a195_118 rfl rfl rfl ?_
      obtain ⟨b_8, hb_9, h⟩ := h
      rw [hb_9]
      obtain ⟨h_10, h⟩ := h
      obtain ⟨h_11, h⟩ := h
      refine ru_go (t := (120, [some (.inr (some a0)), some (.inl x1), some (.inl x2)], [.inl (sm_I M b_8 (x2).toNatClampNeg), .inl x2, .inr (some b_3)], M)) sm_a195_119 rfl rfl (st_iald h_10 h_11) ?_
      obtain ⟨h_12, h⟩ := h
      refine ru_go (t := (121, [some (.inr (some a0)), some (.inl x1), some (.inl x2)], [], sm_putI M b_3 (x2).toNatClampNeg (sm_I M b_8 (x2).toNatClampNeg))) sm_a195_120 rfl rfl (st_iast h_12 h_6) ?_
      refine ru_go (t := (124, [some (.inr (some a0)), some (.inl x1), some (.inl (x2 + 1))], [], sm_putI M b_3 (x2).toNatClampNeg (sm_I M b_8 (x2).toNatClampNeg))) sm_a195_121 rfl rfl (st_iinc rfl (by decide)) ?_
      refine ru_go (t := (78, [some (.inr (some a0)), some (.inl x1), some (.inl (x2 + 1))], [], sm_putI M b_3 (x2).toNatClampNeg (sm_I M b_8 (x2).toNatClampNeg))) sm_a195_124 rfl rfl (st_goto (pc := 124) (by decide)) ?_
      exact h
    · have h := h.2 hc_7
      refine ru_go (t := (101, [some (.inr (some a0)), some (.inl x1), some (.inl x2)], [.inr (some a0), .inl x2, .inr (some b_3)], M)) sm_a195_100 rfl rfl rfl ?_
      refine ru_go (t := (104, [some (.inr (some a0)), some (.inl x1), some (.inl x2)], [.inr (sm_R M a0 71), .inl x2, .inr (some b_3)], M)) sm_a195_101 rfl rfl (st_getR h_1 rfl rfl) ?_
      refine ru_go (t := (105, [some (.inr (some a0)), some (.inl x1), some (.inl x2)], [.inl x2, .inr (sm_R M a0 71), .inl x2, .inr (some b_3)], M)) sm_a195_104 rfl rfl rfl ?_
      obtain ⟨b_13, hb_14, h⟩ := h
      rw [hb_14]
      obtain ⟨h_15, h⟩ := h
      obtain ⟨h_16, h⟩ := h
      refine ru_go (t := (106, [some (.inr (some a0)), some (.inl x1), some (.inl x2)], [.inl (sm_I M b_13 (x2).toNatClampNeg), .inl x2, .inr (some b_3)], M)) sm_a195_105 rfl rfl (st_iald h_15 h_16) ?_
      refine ru_go (t := (107, [some (.inr (some a0)), some (.inl x1), some (.inl x2)], [.inl x1, .inl (sm_I M b_13 (x2).toNatClampNeg), .inl x2, .inr (some b_3)], M)) sm_a195_106 rfl rfl rfl ?_
      refine ru_icmp (pc := 107) (p := 114) (p2 := 110) sm_a195_107 (by decide) rfl ⟨fun hc_17 => ?_, fun hc_17 => ?_⟩
      · have h := h.1 hc_17
        refine ru_go (t := (115, [some (.inr (some a0)), some (.inl x1), some (.inl x2)], [.inr (some a0), .inl x2, .inr (some b_3)], M)) sm_a195_114 rfl rfl rfl ?_
        refine ru_go (t := (118, [some (.inr (some a0)), some (.inl x1), some (.inl x2)], [.inr (sm_R M a0 73), .inl x2, .inr (some b_3)], M)) sm_a195_115 rfl rfl (st_getR h_1 rfl rfl) ?_
        refine ru_go (t := (119, [some (.inr (some a0)), some (.inl x1), some (.inl x2)], [.inl x2, .inr (sm_R M a0 73), .inl x2, .inr (some b_3)], M)) sm_a195_118 rfl rfl rfl ?_
        obtain ⟨b_18, hb_19, h⟩ := h
        rw [hb_19]
        obtain ⟨h_20, h⟩ := h
        obtain ⟨h_21, h⟩ := h
        refine ru_go (t := (120, [some (.inr (some a0)), some (.inl x1), some (.inl x2)], [.inl (sm_I M b_18 (x2).toNatClampNeg), .inl x2, .inr (some b_3)], M)) sm_a195_119 rfl rfl (st_iald h_20 h_21) ?_
        obtain ⟨h_22, h⟩ := h
        refine ru_go (t := (121, [some (.inr (some a0)), some (.inl x1), some (.inl x2)], [], sm_putI M b_3 (x2).toNatClampNeg (sm_I M b_18 (x2).toNatClampNeg))) sm_a195_120 rfl rfl (st_iast h_22 h_6) ?_
        refine ru_go (t := (124, [some (.inr (some a0)), some (.inl x1), some (.inl (x2 + 1))], [], sm_putI M b_3 (x2).toNatClampNeg (sm_I M b_18 (x2).toNatClampNeg))) sm_a195_121 rfl rfl (st_iinc rfl (by decide)) ?_
        refine ru_go (t := (78, [some (.inr (some a0)), some (.inl x1), some (.inl (x2 + 1))], [], sm_putI M b_3 (x2).toNatClampNeg (sm_I M b_18 (x2).toNatClampNeg))) sm_a195_124 rfl rfl (st_goto (pc := 124) (by decide)) ?_
        exact h
      · have h := h.2 hc_17
        refine ru_go (t := (111, [some (.inr (some a0)), some (.inl x1), some (.inl x2)], [.inl 3, .inl x2, .inr (some b_3)], M)) sm_a195_110 rfl rfl (st_iconst (by decide)) ?_
        refine ru_go (t := (120, [some (.inr (some a0)), some (.inl x1), some (.inl x2)], [.inl 3, .inl x2, .inr (some b_3)], M)) sm_a195_111 rfl rfl (st_goto (pc := 111) (by decide)) ?_
        obtain ⟨h_23, h⟩ := h
        refine ru_go (t := (121, [some (.inr (some a0)), some (.inl x1), some (.inl x2)], [], sm_putI M b_3 (x2).toNatClampNeg 3)) sm_a195_120 rfl rfl (st_iast h_23 h_6) ?_
        refine ru_go (t := (124, [some (.inr (some a0)), some (.inl x1), some (.inl (x2 + 1))], [], sm_putI M b_3 (x2).toNatClampNeg 3)) sm_a195_121 rfl rfl (st_iinc rfl (by decide)) ?_
        refine ru_go (t := (78, [some (.inr (some a0)), some (.inl x1), some (.inl (x2 + 1))], [], sm_putI M b_3 (x2).toNatClampNeg 3)) sm_a195_124 rfl rfl (st_goto (pc := 124) (by decide)) ?_
        exact h

/-! WireBusModel.send:(III)I -/
theorem sm_a196_0 : sm_at 196 0 = some (.aload_n 0, 1, (0, 0, 0, 0)) := by decide +kernel
theorem sm_a196_1 : sm_at 196 1 = some (.iload_n 1, 1, (0, 0, 0, 0)) := by decide +kernel
theorem sm_a196_2 : sm_at 196 2 = some (.iload_n 2, 1, (0, 0, 0, 0)) := by decide +kernel
theorem sm_a196_3 : sm_at 196 3 = some (.invokevirtual 385, 3, (10, 177, 12, 1498)) := by decide +kernel
theorem sm_a196_6 : sm_at 196 6 = some (.istore 4, 2, (0, 0, 0, 0)) := by decide +kernel
theorem sm_a196_8 : sm_at 196 8 = some (.iload_n 3, 1, (0, 0, 0, 0)) := by decide +kernel
theorem sm_a196_9 : sm_at 196 9 = some (.ifCond .lt 40, 3, (0, 0, 0, 0)) := by decide +kernel
theorem sm_a196_12 : sm_at 196 12 = some (.iload_n 3, 1, (0, 0, 0, 0)) := by decide +kernel
theorem sm_a196_13 : sm_at 196 13 = some (.bipush 100, 2, (0, 0, 0, 0)) := by decide +kernel
theorem sm_a196_15 : sm_at 196 15 = some (.if_icmp .gt 34, 3, (0, 0, 0, 0)) := by decide +kernel
theorem sm_a196_18 : sm_at 196 18 = some (.iload_n 3, 1, (0, 0, 0, 0)) := by decide +kernel
theorem sm_a196_19 : sm_at 196 19 = some (.aload_n 0, 1, (0, 0, 0, 0)) := by decide +kernel
theorem sm_a196_20 : sm_at 196 20 = some (.getfield 239, 3, (12, 3, 0, 1186)) := by decide +kernel
theorem sm_a196_23 : sm_at 196 23 = some (.if_icmp .gt 26, 3, (0, 0, 0, 0)) := by decide +kernel
theorem sm_a196_26 : sm_at 196 26 = some (.iload 4, 2, (0, 0, 0, 0)) := by decide +kernel
theorem sm_a196_28 : sm_at 196 28 = some (.iconst (-1), 1, (0, 0, 0, 0)) := by decide +kernel
theorem sm_a196_29 : sm_at 196 29 = some (.if_icmp .eq 20, 3, (0, 0, 0, 0)) := by decide +kernel
theorem sm_a196_32 : sm_at 196 32 = some (.iload_n 2, 1, (0, 0, 0, 0)) := by decide +kernel
theorem sm_a196_33 : sm_at 196 33 = some (.sipush 128, 3, (0, 0, 0, 0)) := by decide +kernel
theorem sm_a196_36 : sm_at 196 36 = some (.if_icmp .ge 13, 3, (0, 0, 0, 0)) := by decide +kernel
theorem sm_a196_39 : sm_at 196 39 = some (.aload_n 0, 1, (0, 0, 0, 0)) := by decide +kernel
theorem sm_a196_40 : sm_at 196 40 = some (.getfield 332, 3, (12, 70, 0, 1253)) := by decide +kernel
theorem sm_a196_43 : sm_at 196 43 = some (.sipush 300, 3, (0, 0, 0, 0)) := by decide +kernel
theorem sm_a196_46 : sm_at 196 46 = some (.if_icmp .lt 5, 3, (0, 0, 0, 0)) := by decide +kernel
theorem sm_a196_49 : sm_at 196 49 = some (.iconst (-1), 1, (0, 0, 0, 0)) := by decide +kernel
theorem sm_a196_50 : sm_at 196 50 = some (.ireturn, 1, (0, 0, 0, 0)) := by decide +kernel
theorem sm_a196_51 : sm_at 196 51 = some (.aload_n 0, 1, (0, 0, 0, 0)) := by decide +kernel
theorem sm_a196_52 : sm_at 196 52 = some (.getfield 179, 3, (12, 67, 0, 1250)) := by decide +kernel
theorem sm_a196_55 : sm_at 196 55 = some (.iload 4, 2, (0, 0, 0, 0)) := by decide +kernel
theorem sm_a196_57 : sm_at 196 57 = some (.baload, 1, (0, 0, 0, 0)) := by decide +kernel
theorem sm_a196_58 : sm_at 196 58 = some (.ifCond .ne 5, 3, (0, 0, 0, 0)) := by decide +kernel
theorem sm_a196_61 : sm_at 196 61 = some (.iconst (-1), 1, (0, 0, 0, 0)) := by decide +kernel
theorem sm_a196_62 : sm_at 196 62 = some (.ireturn, 1, (0, 0, 0, 0)) := by decide +kernel
theorem sm_a196_63 : sm_at 196 63 = some (.aload_n 0, 1, (0, 0, 0, 0)) := by decide +kernel
theorem sm_a196_64 : sm_at 196 64 = some (.iload_n 1, 1, (0, 0, 0, 0)) := by decide +kernel
theorem sm_a196_65 : sm_at 196 65 = some (.iload_n 2, 1, (0, 0, 0, 0)) := by decide +kernel
theorem sm_a196_66 : sm_at 196 66 = some (.iload_n 3, 1, (0, 0, 0, 0)) := by decide +kernel
theorem sm_a196_67 : sm_at 196 67 = some (.invokevirtual 335, 3, (10, 175, 12, 1486)) := by decide +kernel
theorem sm_a196_70 : sm_at 196 70 = some (.istore 5, 2, (0, 0, 0, 0)) := by decide +kernel
theorem sm_a196_72 : sm_at 196 72 = some (.iconst 0, 1, (0, 0, 0, 0)) := by decide +kernel
theorem sm_a196_73 : sm_at 196 73 = some (.istore 6, 2, (0, 0, 0, 0)) := by decide +kernel
theorem sm_a196_75 : sm_at 196 75 = some (.iload 6, 2, (0, 0, 0, 0)) := by decide +kernel
theorem sm_a196_77 : sm_at 196 77 = some (.iload_n 3, 1, (0, 0, 0, 0)) := by decide +kernel
theorem sm_a196_78 : sm_at 196 78 = some (.if_icmp .ge 29, 3, (0, 0, 0, 0)) := by decide +kernel
theorem sm_a196_81 : sm_at 196 81 = some (.aload_n 0, 1, (0, 0, 0, 0)) := by decide +kernel
theorem sm_a196_82 : sm_at 196 82 = some (.getfield 216, 3, (12, 81, 0, 1264)) := by decide +kernel
theorem sm_a196_85 : sm_at 196 85 = some (.bipush 100, 2, (0, 0, 0, 0)) := by decide +kernel
theorem sm_a196_87 : sm_at 196 87 = some (.iload 5, 2, (0, 0, 0, 0)) := by decide +kernel
theorem sm_a196_89 : sm_at 196 89 = some (.imul, 1, (0, 0, 0, 0)) := by decide +kernel
theorem sm_a196_90 : sm_at 196 90 = some (.iload 6, 2, (0, 0, 0, 0)) := by decide +kernel
theorem sm_a196_92 : sm_at 196 92 = some (.iadd, 1, (0, 0, 0, 0)) := by decide +kernel
theorem sm_a196_93 : sm_at 196 93 = some (.aload_n 0, 1, (0, 0, 0, 0)) := by decide +kernel
theorem sm_a196_94 : sm_at 196 94 = some (.getfield 13, 3, (12, 2, 0, 1185)) := by decide +kernel
theorem sm_a196_97 : sm_at 196 97 = some (.iload 6, 2, (0, 0, 0, 0)) := by decide +kernel
theorem sm_a196_99 : sm_at 196 99 = some (.iaload, 1, (0, 0, 0, 0)) := by decide +kernel
theorem sm_a196_100 : sm_at 196 100 = some (.iastore, 1, (1, 0, 0, 0)) := by decide +kernel
theorem sm_a196_101 : sm_at 196 101 = some (.iinc 6 1, 3, (0, 0, 0, 0)) := by decide +kernel
theorem sm_a196_104 : sm_at 196 104 = some (.goto (-29), 3, (0, 0, 0, 0)) := by decide +kernel
theorem sm_a196_107 : sm_at 196 107 = some (.aload_n 0, 1, (0, 0, 0, 0)) := by decide +kernel
theorem sm_a196_108 : sm_at 196 108 = some (.iload_n 3, 1, (0, 0, 0, 0)) := by decide +kernel
theorem sm_a196_109 : sm_at 196 109 = some (.invokevirtual 416, 3, (10, 154, 12, 1502)) := by decide +kernel
theorem sm_a196_112 : sm_at 196 112 = some (.iload 5, 2, (0, 0, 0, 0)) := by decide +kernel
theorem sm_a196_114 : sm_at 196 114 = some (.ireturn, 1, (0, 0, 0, 0)) := by decide +kernel
theorem bb_196_0 {d : Nat} {M : sm_M} {Q : Option sm_V → sm_M → Prop} {a0 : Nat} {x1 : Int32} {x2 : Int32} {x3 : Int32} {z4 : Option sm_V} {z5 : Option sm_V} {z6 : Option sm_V}
    (h : sm_K M a0 = 39 ∧ sm_Run d 177 0 (sm_ent 177 [.inr (some a0), .inl x1, .inl x2]) [] M (fun v M1 => sm_Run (d + 1) 196 6 [some (.inr (some a0)), some (.inl x1), some (.inl x2), some (.inl x3), z4, z5, z6] (v.toList ++ []) M1 Q)) :
    sm_Run (d + 1) 196 0 [some (.inr (some a0)), some (.inl x1), some (.inl x2), some (.inl x3), z4, z5, z6] [] M Q := by
  refine ru_go (t := (1, [some (.inr (some a0)), some (.inl x1), some (.inl x2), some (.inl x3), z4, z5, z6], [.inr (some a0)], M)) sm_a196_0 rfl rfl rfl ?_
  refine ru_go (t := (2, [some (.inr (some a0)), some (.inl x1), some (.inl x2), some (.inl x3), z4, z5, z6], [.inl x1, .inr (some a0)], M)) sm_a196_1 rfl rfl rfl ?_
  refine ru_go (t := (3, [some (.inr (some a0)), some (.inl x1), some (.inl x2), some (.inl x3), z4, z5, z6], [.inl x2, .inl x1, .inr (some a0)], M)) sm_a196_2 rfl rfl rfl ?_
  obtain ⟨h_1, h⟩ := h
  exact ru_call (p := 6) sm_a196_3 rfl (sc_virt (Or.inl rfl) rfl rfl h_1 (Nat.le_of_ble_eq_true rfl)) rfl h
theorem bb_196_6 {d : Nat} {M : sm_M} {Q : Option sm_V → sm_M → Prop} {a0 : Nat} {x1 : Int32} {x2 : Int32} {x3 : Int32} {z4 : Option sm_V} {z5 : Option sm_V} {z6 : Option sm_V} {y0 : Int32}
    (h : ((x3 < 0 → Q (some (.inl (-1))) M) ∧ (¬ (x3 < 0) → ((100 < x3 → Q (some (.inl (-1))) M) ∧ (¬ (100 < x3) → sm_K M a0 = 39 ∧ (((sm_I M a0 3) < x3 → Q (some (.inl (-1))) M) ∧ (¬ ((sm_I M a0 3) < x3) → ((y0 = (-1) → Q (some (.inl (-1))) M) ∧ (¬ (y0 = (-1)) → ((128 ≤ x2 → Q (some (.inl (-1))) M) ∧ (¬ (128 ≤ x2) → (((sm_I M a0 70) < 300 → ∃ b_8, sm_R M a0 67 = some b_8 ∧ sm_wZ 1 M b_8 ∧ sm_in_ M b_8 y0 ∧ ((¬ (sm_I M b_8 (y0).toNatClampNeg) = 0 → sm_Run d 175 0 (sm_ent 175 [.inr (some a0), .inl x1, .inl x2, .inl x3]) [] M (fun v M1 => sm_Run (d + 1) 196 70 [some (.inr (some a0)), some (.inl x1), some (.inl x2), some (.inl x3), some (.inl y0), z5, z6] (v.toList ++ []) M1 Q)) ∧ (¬ (¬ (sm_I M b_8 (y0).toNatClampNeg) = 0) → Q (some (.inl (-1))) M))) ∧ (¬ ((sm_I M a0 70) < 300) → Q (some (.inl (-1))) M))))))))))))) :
    sm_Run (d + 1) 196 6 [some (.inr (some a0)), some (.inl x1), some (.inl x2), some (.inl x3), z4, z5, z6] [.inl y0] M Q := by
  refine ru_go (t := (8, [some (.inr (some a0)), some (.inl x1), some (.inl x2), some (.inl x3), some (.inl y0), z5, z6], [], M)) sm_a196_6 rfl rfl rfl ?_
  refine ru_go (t := (9, [some (.inr (some a0)), some (.inl x1), some (.inl x2), some (.inl x3), some (.inl y0), z5, z6], [.inl x3], M)) sm_a196_8 rfl rfl rfl ?_
  refine ru_if (pc := 9) (p := 49) (p2 := 12) sm_a196_9 (by decide) rfl ⟨fun hc_1 => ?_, fun hc_1 => ?_⟩
  · have h := h.1 hc_1
    refine ru_go (t := (50, [some (.inr (some a0)), some (.inl x1), some (.inl x2), some (.inl x3), some (.inl y0), z5, z6], [.inl (-1)], M)) sm_a196_49 rfl rfl (st_iconst (by decide)) ?_
    exact ru_ret sm_a196_50 rfl h
  · have h := h.2 hc_1
    refine ru_go (t := (13, [some (.inr (some a0)), some (.inl x1), some (.inl x2), some (.inl x3), some (.inl y0), z5, z6], [.inl x3], M)) sm_a196_12 rfl rfl rfl ?_
    refine ru_go (t := (15, [some (.inr (some a0)), some (.inl x1), some (.inl x2), some (.inl x3), some (.inl y0), z5, z6], [.inl 100, .inl x3], M)) sm_a196_13 rfl rfl (st_bipush (by decide)) ?_
    refine ru_icmp (pc := 15) (p := 49) (p2 := 18) sm_a196_15 (by decide) rfl ⟨fun hc_2 => ?_, fun hc_2 => ?_⟩
    · have h := h.1 hc_2
      refine ru_go (t := (50, [some (.inr (some a0)), some (.inl x1), some (.inl x2), some (.inl x3), some (.inl y0), z5, z6], [.inl (-1)], M)) sm_a196_49 rfl rfl (st_iconst (by decide)) ?_
      exact ru_ret sm_a196_50 rfl h
    · have h := h.2 hc_2
      refine ru_go (t := (19, [some (.inr (some a0)), some (.inl x1), some (.inl x2), some (.inl x3), some (.inl y0), z5, z6], [.inl x3], M)) sm_a196_18 rfl rfl rfl ?_
      refine ru_go (t := (20, [some (.inr (some a0)), some (.inl x1), some (.inl x2), some (.inl x3), some (.inl y0), z5, z6], [.inr (some a0), .inl x3], M)) sm_a196_19 rfl rfl rfl ?_
      obtain ⟨h_3, h⟩ := h
      refine ru_go (t := (23, [some (.inr (some a0)), some (.inl x1), some (.inl x2), some (.inl x3), some (.inl y0), z5, z6], [.inl (sm_I M a0 3), .inl x3], M)) sm_a196_20 rfl rfl (st_getI h_3 rfl) ?_
      refine ru_icmp (pc := 23) (p := 49) (p2 := 26) sm_a196_23 (by decide) rfl ⟨fun hc_4 => ?_, fun hc_4 => ?_⟩
      · have h := h.1 hc_4
        refine ru_go (t := (50, [some (.inr (some a0)), some (.inl x1), some (.inl x2), some (.inl x3), some (.inl y0), z5, z6], [.inl (-1)], M)) sm_a196_49 rfl rfl (st_iconst (by decide)) ?_
        exact ru_ret sm_a196_50 rfl h
      · have h := h.2 hc_4
        refine ru_go (t := (28, [some (.inr (some a0)), some (.inl x1), some (.inl x2), some (.inl x3), some (.inl y0), z5, z6], [.inl y0], M)) sm_a196_26 rfl rfl rfl ?_
        refine ru_go (t := (29, [some (.inr (some a0)), some (.inl x1), some (.inl x2), some (.inl x3), some (.inl y0), z5, z6], [.inl (-1), .inl y0], M)) sm_a196_28 rfl rfl (st_iconst (by decide)) ?_
        refine ru_icmp (pc := 29) (p := 49) (p2 := 32) sm_a196_29 (by decide) rfl ⟨fun hc_5 => ?_, fun hc_5 => ?_⟩
        · have h := h.1 hc_5
          refine ru_go (t := (50, [some (.inr (some a0)), some (.inl x1), some (.inl x2), some (.inl x3), some (.inl y0), z5, z6], [.inl (-1)], M)) sm_a196_49 rfl rfl (st_iconst (by decide)) ?_
          exact ru_ret sm_a196_50 rfl h
        · have h := h.2 hc_5
          refine ru_go (t := (33, [some (.inr (some a0)), some (.inl x1), some (.inl x2), some (.inl x3), some (.inl y0), z5, z6], [.inl x2], M)) sm_a196_32 rfl rfl rfl ?_
          refine ru_go (t := (36, [some (.inr (some a0)), some (.inl x1), some (.inl x2), some (.inl x3), some (.inl y0), z5, z6], [.inl 128, .inl x2], M)) sm_a196_33 rfl rfl (st_sipush (by decide)) ?_
          refine ru_icmp (pc := 36) (p := 49) (p2 := 39) sm_a196_36 (by decide) rfl ⟨fun hc_6 => ?_, fun hc_6 => ?_⟩
          · have h := h.1 hc_6
            refine ru_go (t := (50, [some (.inr (some a0)), some (.inl x1), some (.inl x2), some (.inl x3), some (.inl y0), z5, z6], [.inl (-1)], M)) sm_a196_49 rfl rfl (st_iconst (by decide)) ?_
            exact ru_ret sm_a196_50 rfl h
          · have h := h.2 hc_6
            refine ru_go (t := (40, [some (.inr (some a0)), some (.inl x1), some (.inl x2), some (.inl x3), some (.inl y0), z5, z6], [.inr (some a0)], M)) sm_a196_39 rfl rfl rfl ?_
            refine ru_go (t := (43, [some (.inr (some a0)), some (.inl x1), some (.inl x2), some (.inl x3), some (.inl y0), z5, z6], [.inl (sm_I M a0 70)], M)) sm_a196_40 rfl rfl (st_getI h_3 rfl) ?_
            refine ru_go (t := (46, [some (.inr (some a0)), some (.inl x1), some (.inl x2), some (.inl x3), some (.inl y0), z5, z6], [.inl 300, .inl (sm_I M a0 70)], M)) sm_a196_43 rfl rfl (st_sipush (by decide)) ?_
            refine ru_icmp (pc := 46) (p := 51) (p2 := 49) sm_a196_46 (by decide) rfl ⟨fun hc_7 => ?_, fun hc_7 => ?_⟩
            · have h := h.1 hc_7
              refine ru_go (t := (52, [some (.inr (some a0)), some (.inl x1), some (.inl x2), some (.inl x3), some (.inl y0), z5, z6], [.inr (some a0)], M)) sm_a196_51 rfl rfl rfl ?_
              refine ru_go (t := (55, [some (.inr (some a0)), some (.inl x1), some (.inl x2), some (.inl x3), some (.inl y0), z5, z6], [.inr (sm_R M a0 67)], M)) sm_a196_52 rfl rfl (st_getR h_3 rfl rfl) ?_
              refine ru_go (t := (57, [some (.inr (some a0)), some (.inl x1), some (.inl x2), some (.inl x3), some (.inl y0), z5, z6], [.inl y0, .inr (sm_R M a0 67)], M)) sm_a196_55 rfl rfl rfl ?_
              obtain ⟨b_8, hb_9, h⟩ := h
              rw [hb_9]
              obtain ⟨h_10, h⟩ := h
              obtain ⟨h_11, h⟩ := h
              refine ru_go (t := (58, [some (.inr (some a0)), some (.inl x1), some (.inl x2), some (.inl x3), some (.inl y0), z5, z6], [.inl (sm_I M b_8 (y0).toNatClampNeg)], M)) sm_a196_57 rfl rfl (st_zald h_10 h_11) ?_
              refine ru_if (pc := 58) (p := 63) (p2 := 61) sm_a196_58 (by decide) rfl ⟨fun hc_12 => ?_, fun hc_12 => ?_⟩
              · have h := h.1 hc_12
                refine ru_go (t := (64, [some (.inr (some a0)), some (.inl x1), some (.inl x2), some (.inl x3), some (.inl y0), z5, z6], [.inr (some a0)], M)) sm_a196_63 rfl rfl rfl ?_
                refine ru_go (t := (65, [some (.inr (some a0)), some (.inl x1), some (.inl x2), some (.inl x3), some (.inl y0), z5, z6], [.inl x1, .inr (some a0)], M)) sm_a196_64 rfl rfl rfl ?_
                refine ru_go (t := (66, [some (.inr (some a0)), some (.inl x1), some (.inl x2), some (.inl x3), some (.inl y0), z5, z6], [.inl x2, .inl x1, .inr (some a0)], M)) sm_a196_65 rfl rfl rfl ?_
                refine ru_go (t := (67, [some (.inr (some a0)), some (.inl x1), some (.inl x2), some (.inl x3), some (.inl y0), z5, z6], [.inl x3, .inl x2, .inl x1, .inr (some a0)], M)) sm_a196_66 rfl rfl rfl ?_
                exact ru_call (p := 70) sm_a196_67 rfl (sc_virt (Or.inl rfl) rfl rfl h_3 (Nat.le_of_ble_eq_true rfl)) rfl h
              · have h := h.2 hc_12
                refine ru_go (t := (62, [some (.inr (some a0)), some (.inl x1), some (.inl x2), some (.inl x3), some (.inl y0), z5, z6], [.inl (-1)], M)) sm_a196_61 rfl rfl (st_iconst (by decide)) ?_
                exact ru_ret sm_a196_62 rfl h
            · have h := h.2 hc_7
              refine ru_go (t := (50, [some (.inr (some a0)), some (.inl x1), some (.inl x2), some (.inl x3), some (.inl y0), z5, z6], [.inl (-1)], M)) sm_a196_49 rfl rfl (st_iconst (by decide)) ?_
              exact ru_ret sm_a196_50 rfl h
theorem bb_196_70 {d : Nat} {M : sm_M} {Q : Option sm_V → sm_M → Prop} {a0 : Nat} {x1 : Int32} {x2 : Int32} {x3 : Int32} {x4 : Int32} {z5 : Option sm_V} {z6 : Option sm_V} {y0 : Int32}
    (h : sm_Run (d + 1) 196 75 [some (.inr (some a0)), some (.inl x1), some (.inl x2), some (.inl x3), some (.inl x4), some (.inl y0), some (.inl 0)] [] M Q) :
    sm_Run (d + 1) 196 70 [some (.inr (some a0)), some (.inl x1), some (.inl x2), some (.inl x3), some (.inl x4), z5, z6] [.inl y0] M Q := by
  refine ru_go (t := (72, [some (.inr (some a0)), some (.inl x1), some (.inl x2), some (.inl x3), some (.inl x4), some (.inl y0), z6], [], M)) sm_a196_70 rfl rfl rfl ?_
  refine ru_go (t := (73, [some (.inr (some a0)), some (.inl x1), some (.inl x2), some (.inl x3), some (.inl x4), some (.inl y0), z6], [.inl 0], M)) sm_a196_72 rfl rfl (st_iconst (by decide)) ?_
  refine ru_go (t := (75, [some (.inr (some a0)), some (.inl x1), some (.inl x2), some (.inl x3), some (.inl x4), some (.inl y0), some (.inl 0)], [], M)) sm_a196_73 rfl rfl rfl ?_
  exact h
theorem bb_196_75 {d : Nat} {M : sm_M} {Q : Option sm_V → sm_M → Prop} {a0 : Nat} {x1 : Int32} {x2 : Int32} {x3 : Int32} {x4 : Int32} {x5 : Int32} {x6 : Int32}
    (h : ((x3 ≤ x6 → sm_K M a0 = 39 ∧ sm_Run d 154 0 (sm_ent 154 [.inr (some a0), .inl x3]) [] M (fun v M1 => sm_Run (d + 1) 196 112 [some (.inr (some a0)), some (.inl x1), some (.inl x2), some (.inl x3), some (.inl x4), some (.inl x5), some (.inl x6)] (v.toList ++ []) M1 Q)) ∧ (¬ (x3 ≤ x6) → sm_K M a0 = 39 ∧ ∃ b_4, sm_R M a0 2 = some b_4 ∧ sm_iA M b_4 ∧ sm_in_ M b_4 x6 ∧ ∃ b_8, sm_R M a0 81 = some b_8 ∧ sm_wA 1 M b_8 ∧ sm_in_ M b_8 ((100 * x5) + x6) ∧ sm_Run (d + 1) 196 75 [some (.inr (some a0)), some (.inl x1), some (.inl x2), some (.inl x3), some (.inl x4), some (.inl x5), some (.inl (x6 + 1))] [] (sm_putI M b_8 ((100 * x5) + x6).toNatClampNeg (sm_I M b_4 (x6).toNatClampNeg)) Q))) :
    sm_Run (d + 1) 196 75 [some (.inr (some a0)), some (.inl x1), some (.inl x2), some (.inl x3), some (.inl x4), some (.inl x5), some (.inl x6)] [] M Q := by
  refine ru_go (t := (77, [some (.inr (some a0)), some (.inl x1), some (.inl x2), some (.inl x3), some (.inl x4), some (.inl x5), some (.inl x6)], [.inl x6], M)) sm_a196_75 rfl rfl rfl ?_
  refine ru_go (t := (78, [some (.inr (some a0)), some (.inl x1), some (.inl x2), some (.inl x3), some (.inl x4), some (.inl x5), some (.inl x6)], [.inl x3, .inl x6], M)) sm_a196_77 rfl rfl rfl ?_
  refine ru_icmp (pc := 78) (p := 107) (p2 := 81) sm_a196_78 (by decide) rfl ⟨fun hc_1 => ?_, fun hc_1 => ?_⟩
  · have h := h.1 hc_1
    refine ru_go (t := (108, [some (.inr (some a0)), some (.inl x1), some (.inl x2), some (.inl x3), some (.inl x4), some (.inl x5), some (.inl x6)], [.inr (some a0)], M)) sm_a196_107 rfl rfl rfl ?_
    refine ru_go (t := (109, [some (.inr (some a0)), some (.inl x1), some (.inl x2), some (.inl x3), some (.inl x4), some (.inl x5), some (.inl x6)], [.inl x3, .inr (some a0)], M)) sm_a196_108 rfl rfl rfl ?_
    obtain ⟨h_2, h⟩ := h
    exact ru_call (p := 112) sm_a196_109 rfl (sc_virt (Or.inl rfl) rfl rfl h_2 (Nat.le_of_ble_eq_true rfl)) rfl h
  · have h := h.2 hc_1
    refine ru_go (t := (82, [some (.inr (some a0)), some (.inl x1), some (.inl x2), some (.inl x3), some (.inl x4), some (.inl x5), some (.inl x6)], [.inr (some a0)], M)) sm_a196_81 rfl rfl rfl ?_
    obtain ⟨h_3, h⟩ := h
    refine ru_go (t := (85, [some (.inr (some a0)), some (.inl x1), some (.inl x2), some (.inl x3), some (.inl x4), some (.inl x5), some (.inl x6)], [.inr (sm_R M a0 81)], M)) sm_a196_82 rfl rfl (st_getR h_3 rfl rfl) ?_
    refine ru_go (t := (87, [some (.inr (some a0)), some (.inl x1), some (.inl x2), some (.inl x3), some (.inl x4), some (.inl x5), some (.inl x6)], [.inl 100, .inr (sm_R M a0 81)], M)) sm_a196_85 rfl rfl (st_bipush (by decide)) ?_
    refine ru_go (t := (89, [some (.inr (some a0)), some (.inl x1), some (.inl x2), some (.inl x3), some (.inl x4), some (.inl x5), some (.inl x6)], [.inl x5, .inl 100, .inr (sm_R M a0 81)], M)) sm_a196_87 rfl rfl rfl ?_
    refine ru_go (t := (90, [some (.inr (some a0)), some (.inl x1), some (.inl x2), some (.inl x3), some (.inl x4), some (.inl x5), some (.inl x6)], [.inl (100 * x5), .inr (sm_R M a0 81)], M)) sm_a196_89 rfl rfl rfl ?_
    refine ru_go (t := (92, [some (.inr (some a0)), some (.inl x1), some (.inl x2), some (.inl x3), some (.inl x4), some (.inl x5), some (.inl x6)], [.inl x6, .inl (100 * x5), .inr (sm_R M a0 81)], M)) sm_a196_90 rfl rfl rfl ?_
    refine ru_go (t := (93, [some (.inr (some a0)), some (.inl x1), some (.inl x2), some (.inl x3), some (.inl x4), some (.inl x5), some (.inl x6)], [.inl ((100 * x5) + x6), .inr (sm_R M a0 81)], M)) sm_a196_92 rfl rfl rfl ?_
    refine ru_go (t := (94, [some (.inr (some a0)), some (.inl x1), some (.inl x2), some (.inl x3), some (.inl x4), some (.inl x5), some (.inl x6)], [.inr (some a0), .inl ((100 * x5) + x6), .inr (sm_R M a0 81)], M)) sm_a196_93 rfl rfl rfl ?_
    refine ru_go (t := (97, [some (.inr (some a0)), some (.inl x1), some (.inl x2), some (.inl x3), some (.inl x4), some (.inl x5), some (.inl x6)], [.inr (sm_R M a0 2), .inl ((100 * x5) + x6), .inr (sm_R M a0 81)], M)) sm_a196_94 rfl rfl (st_getR h_3 rfl rfl) ?_
    refine ru_go (t := (99, [some (.inr (some a0)), some (.inl x1), some (.inl x2), some (.inl x3), some (.inl x4), some (.inl x5), some (.inl x6)], [.inl x6, .inr (sm_R M a0 2), .inl ((100 * x5) + x6), .inr (sm_R M a0 81)], M)) sm_a196_97 rfl rfl rfl ?_
    obtain ⟨b_4, hb_5, h⟩ := h
    rw [hb_5]
    obtain ⟨h_6, h⟩ := h
    obtain ⟨h_7, h⟩ := h
    refine ru_go (t := (100, [some (.inr (some a0)), some (.inl x1), some (.inl x2), some (.inl x3), some (.inl x4), some (.inl x5), some (.inl x6)], [.inl (sm_I M b_4 (x6).toNatClampNeg), .inl ((100 * x5) + x6), .inr (sm_R M a0 81)], M)) sm_a196_99 rfl rfl (st_iald h_6 h_7) ?_
    obtain ⟨b_8, hb_9, h⟩ := h
    rw [hb_9]
    obtain ⟨h_10, h⟩ := h
    obtain ⟨h_11, h⟩ := h
    refine ru_go (t := (101, [some (.inr (some a0)), some (.inl x1), some (.inl x2), some (.inl x3), some (.inl x4), some (.inl x5), some (.inl x6)], [], sm_putI M b_8 ((100 * x5) + x6).toNatClampNeg (sm_I M b_4 (x6).toNatClampNeg))) sm_a196_100 rfl rfl (st_iast h_10 h_11) ?_
    refine ru_go (t := (104, [some (.inr (some a0)), some (.inl x1), some (.inl x2), some (.inl x3), some (.inl x4), some (.inl x5), some (.inl (x6 + 1))], [], sm_putI M b_8 ((100 * x5) + x6).toNatClampNeg (sm_I M b_4 (x6).toNatClampNeg))) sm_a196_101 rfl rfl (st_iinc rfl (by decide)) ?_
    refine ru_go (t := (75, [some (.inr (some a0)), some (.inl x1), some (.inl x2), some (.inl x3), some (.inl x4), some (.inl x5), some (.inl (x6 + 1))], [], sm_putI M b_8 ((100 * x5) + x6).toNatClampNeg (sm_I M b_4 (x6).toNatClampNeg))) sm_a196_104 rfl rfl (st_goto (pc := 104) (by decide)) ?_
    exact h
theorem bb_196_112 {d : Nat} {M : sm_M} {Q : Option sm_V → sm_M → Prop} {a0 : Nat} {x1 : Int32} {x2 : Int32} {x3 : Int32} {x4 : Int32} {x5 : Int32} {x6 : Int32}
    (h : Q (some (.inl x5)) M) :
    sm_Run (d + 1) 196 112 [some (.inr (some a0)), some (.inl x1), some (.inl x2), some (.inl x3), some (.inl x4), some (.inl x5), some (.inl x6)] [] M Q := by
  refine ru_go (t := (114, [some (.inr (some a0)), some (.inl x1), some (.inl x2), some (.inl x3), some (.inl x4), some (.inl x5), some (.inl x6)], [.inl x5], M)) sm_a196_112 rfl rfl rfl ?_
  exact ru_ret sm_a196_114 rfl h

/-! WireBusModel.receive:(III)I -/
theorem sm_a197_0 : sm_at 197 0 = some (.aload_n 0, 1, (0, 0, 0, 0)) := by decide +kernel
theorem sm_a197_1 : sm_at 197 1 = some (.iload_n 1, 1, (0, 0, 0, 0)) := by decide +kernel
theorem sm_a197_2 : sm_at 197 2 = some (.iload_n 2, 1, (0, 0, 0, 0)) := by decide +kernel
theorem sm_a197_3 : sm_at 197 3 = some (.invokevirtual 385, 3, (10, 177, 12, 1498)) := by decide +kernel
theorem sm_a197_6 : sm_at 197 6 = some (.istore 4, 2, (0, 0, 0, 0)) := by decide +kernel
theorem sm_a197_8 : sm_at 197 8 = some (.iload_n 3, 1, (0, 0, 0, 0)) := by decide +kernel
theorem sm_a197_9 : sm_at 197 9 = some (.iconst 1, 1, (0, 0, 0, 0)) := by decide +kernel
theorem sm_a197_10 : sm_at 197 10 = some (.if_icmp .lt 32, 3, (0, 0, 0, 0)) := by decide +kernel
theorem sm_a197_13 : sm_at 197 13 = some (.iload_n 3, 1, (0, 0, 0, 0)) := by decide +kernel
theorem sm_a197_14 : sm_at 197 14 = some (.bipush 100, 2, (0, 0, 0, 0)) := by decide +kernel
theorem sm_a197_16 : sm_at 197 16 = some (.if_icmp .gt 26, 3, (0, 0, 0, 0)) := by decide +kernel
theorem sm_a197_19 : sm_at 197 19 = some (.iload 4, 2, (0, 0, 0, 0)) := by decide +kernel
theorem sm_a197_21 : sm_at 197 21 = some (.iconst (-1), 1, (0, 0, 0, 0)) := by decide +kernel
theorem sm_a197_22 : sm_at 197 22 = some (.if_icmp .eq 20, 3, (0, 0, 0, 0)) := by decide +kernel
theorem sm_a197_25 : sm_at 197 25 = some (.iload_n 2, 1, (0, 0, 0, 0)) := by decide +kernel
theorem sm_a197_26 : sm_at 197 26 = some (.sipush 128, 3, (0, 0, 0, 0)) := by decide +kernel
theorem sm_a197_29 : sm_at 197 29 = some (.if_icmp .lt 13, 3, (0, 0, 0, 0)) := by decide +kernel
theorem sm_a197_32 : sm_at 197 32 = some (.aload_n 0, 1, (0, 0, 0, 0)) := by decide +kernel
theorem sm_a197_33 : sm_at 197 33 = some (.getfield 332, 3, (12, 70, 0, 1253)) := by decide +kernel
theorem sm_a197_36 : sm_at 197 36 = some (.sipush 300, 3, (0, 0, 0, 0)) := by decide +kernel
theorem sm_a197_39 : sm_at 197 39 = some (.if_icmp .lt 5, 3, (0, 0, 0, 0)) := by decide +kernel
theorem sm_a197_42 : sm_at 197 42 = some (.iconst (-1), 1, (0, 0, 0, 0)) := by decide +kernel
theorem sm_a197_43 : sm_at 197 43 = some (.ireturn, 1, (0, 0, 0, 0)) := by decide +kernel
theorem sm_a197_44 : sm_at 197 44 = some (.aload_n 0, 1, (0, 0, 0, 0)) := by decide +kernel
theorem sm_a197_45 : sm_at 197 45 = some (.getfield 179, 3, (12, 67, 0, 1250)) := by decide +kernel
theorem sm_a197_48 : sm_at 197 48 = some (.iload 4, 2, (0, 0, 0, 0)) := by decide +kernel
theorem sm_a197_50 : sm_at 197 50 = some (.baload, 1, (0, 0, 0, 0)) := by decide +kernel
theorem sm_a197_51 : sm_at 197 51 = some (.ifCond .eq 13, 3, (0, 0, 0, 0)) := by decide +kernel
theorem sm_a197_54 : sm_at 197 54 = some (.aload_n 0, 1, (0, 0, 0, 0)) := by decide +kernel
theorem sm_a197_55 : sm_at 197 55 = some (.iload_n 1, 1, (0, 0, 0, 0)) := by decide +kernel
theorem sm_a197_56 : sm_at 197 56 = some (.iload_n 2, 1, (0, 0, 0, 0)) := by decide +kernel
theorem sm_a197_57 : sm_at 197 57 = some (.iload_n 3, 1, (0, 0, 0, 0)) := by decide +kernel
theorem sm_a197_58 : sm_at 197 58 = some (.invokevirtual 335, 3, (10, 175, 12, 1486)) := by decide +kernel
theorem sm_a197_61 : sm_at 197 61 = some (.goto 4, 3, (0, 0, 0, 0)) := by decide +kernel
theorem sm_a197_64 : sm_at 197 64 = some (.iconst (-1), 1, (0, 0, 0, 0)) := by decide +kernel
theorem sm_a197_65 : sm_at 197 65 = some (.ireturn, 1, (0, 0, 0, 0)) := by decide +kernel
theorem bb_197_0 {d : Nat} {M : sm_M} {Q : Option sm_V → sm_M → Prop} {a0 : Nat} {x1 : Int32} {x2 : Int32} {x3 : Int32} {z4 : Option sm_V}
    (h : sm_K M a0 = 39 ∧ sm_Run d 177 0 (sm_ent 177 [.inr (some a0), .inl x1, .inl x2]) [] M (fun v M1 => sm_Run (d + 1) 197 6 [some (.inr (some a0)), some (.inl x1), some (.inl x2), some (.inl x3), z4] (v.toList ++ []) M1 Q)) :
    sm_Run (d + 1) 197 0 [some (.inr (some a0)), some (.inl x1), some (.inl x2), some (.inl x3), z4] [] M Q := by
  refine ru_go (t := (1, [some (.inr (some a0)), some (.inl x1), some (.inl x2), some (.inl x3), z4], [.inr (some a0)], M)) sm_a197_0 rfl rfl rfl ?_
  refine ru_go (t := (2, [some (.inr (some a0)), some (.inl x1), some (.inl x2), some (.inl x3), z4], [.inl x1, .inr (some a0)], M)) sm_a197_1 rfl rfl rfl ?_
  refine ru_go (t := (3, [some (.inr (some a0)), some (.inl x1), some (.inl x2), some (.inl x3), z4], [.inl x2, .inl x1, .inr (some a0)], M)) sm_a197_2 rfl rfl rfl ?_
  obtain ⟨h_1, h⟩ := h
  exact ru_call (p := 6) sm_a197_3 rfl (sc_virt (Or.inl rfl) rfl rfl h_1 (Nat.le_of_ble_eq_true rfl)) rfl h
theorem bb_197_6 {d : Nat} {M : sm_M} {Q : Option sm_V → sm_M → Prop} {a0 : Nat} {x1 : Int32} {x2 : Int32} {x3 : Int32} {z4 : Option sm_V} {y0 : Int32}
    (h : ((x3 < 1 → Q (some (.inl (-1))) M) ∧ (¬ (x3 < 1) → ((100 < x3 → Q (some (.inl (-1))) M) ∧ (¬ (100 < x3) → ((y0 = (-1) → Q (some (.inl (-1))) M) ∧ (¬ (y0 = (-1)) → ((x2 < 128 → Q (some (.inl (-1))) M) ∧ (¬ (x2 < 128) → sm_K M a0 = 39 ∧ (((sm_I M a0 70) < 300 → ∃ b_7, sm_R M a0 67 = some b_7 ∧ sm_wZ 1 M b_7 ∧ sm_in_ M b_7 y0 ∧ (((sm_I M b_7 (y0).toNatClampNeg) = 0 → Q (some (.inl (-1))) M) ∧ (¬ ((sm_I M b_7 (y0).toNatClampNeg) = 0) → sm_Run d 175 0 (sm_ent 175 [.inr (some a0), .inl x1, .inl x2, .inl x3]) [] M (fun v M1 => sm_Run (d + 1) 197 61 [some (.inr (some a0)), some (.inl x1), some (.inl x2), some (.inl x3), some (.inl y0)] (v.toList ++ []) M1 Q)))) ∧ (¬ ((sm_I M a0 70) < 300) → Q (some (.inl (-1))) M))))))))))) :
    sm_Run (d + 1) 197 6 [some (.inr (some a0)), some (.inl x1), some (.inl x2), some (.inl x3), z4] [.inl y0] M Q := by
  refine ru_go (t := (8, [some (.inr (some a0)), some (.inl x1), some (.inl x2), some (.inl x3), some (.inl y0)], [], M)) sm_a197_6 rfl rfl rfl ?_
  refine ru_go (t := (9, [some (.inr (some a0)), some (.inl x1), some (.inl x2), some (.inl x3), some (.inl y0)], [.inl x3], M)) sm_a197_8 rfl rfl rfl ?_
  refine ru_go (t := (10, [some (.inr (some a0)), some (.inl x1), some (.inl x2), some (.inl x3), some (.inl y0)], [.inl 1, .inl x3], M)) sm_a197_9 rfl rfl (st_iconst (by decide)) ?_
  refine ru_icmp (pc := 10) (p := 42) (p2 := 13) sm_a197_10 (by decide) rfl ⟨fun hc_1 => ?_, fun hc_1 => ?_⟩
  · have h := h.1 hc_1
    refine ru_go (t := (43, [some (.inr (some a0)), some (.inl x1), some (.inl x2), some (.inl x3), some (.inl y0)], [.inl (-1)], M)) sm_a197_42 rfl rfl (st_iconst (by decide)) ?_
    exact ru_ret sm_a197_43 rfl h
  · have h := h.2 hc_1
    refine ru_go (t := (14, [some (.inr (some a0)), some (.inl x1), some (.inl x2), some (.inl x3), some (.inl y0)], [.inl x3], M)) sm_a197_13 rfl rfl rfl ?_
    refine ru_go (t := (16, [some (.inr (some a0)), some (.inl x1), some (.inl x2), some (.inl x3), some (.inl y0)], [.inl 100, .inl x3], M)) sm_a197_14 rfl rfl (st_bipush (by decide)) ?_
    refine ru_icmp (pc := 16) (p := 42) (p2 := 19) sm_a197_16 (by decide) rfl ⟨fun hc_2 => ?_, fun hc_2 => ?_⟩
    · have h := h.1 hc_2
      refine ru_go (t := (43, [some (.inr (some a0)), some (.inl x1), some (.inl x2), some (.inl x3), some (.inl y0)], [.inl (-1)], M)) sm_a197_42 rfl rfl (st_iconst (by decide)) ?_
      exact ru_ret sm_a197_43 rfl h
    · have h := h.2 hc_2
      refine ru_go (t := (21, [some (.inr (some a0)), some (.inl x1), some (.inl x2), some (.inl x3), some (.inl y0)], [.inl y0], M)) sm_a197_19 rfl rfl rfl ?_
      refine ru_go (t := (22, [some (.inr (some a0)), some (.inl x1), some (.inl x2), some (.inl x3), some (.inl y0)], [.inl (-1), .inl y0], M)) sm_a197_21 rfl rfl (st_iconst (by decide)) ?_
      refine ru_icmp (pc := 22) (p := 42) (p2 := 25) sm_a197_22 (by decide) rfl ⟨fun hc_3 => ?_, fun hc_3 => ?_⟩
      · have h := h.1 hc_3
        refine ru_go (t := (43, [some (.inr (some a0)), some (.inl x1), some (.inl x2), some (.inl x3), some (.inl y0)], [.inl (-1)], M)) sm_a197_42 rfl rfl (st_iconst (by decide)) ?_
        exact ru_ret sm_a197_43 rfl h
      · have h := h.2 hc_3
        refine ru_go (t := (26, [some (.inr (some a0)), some (.inl x1), some (.inl x2), some (.inl x3), some (.inl y0)], [.inl x2], M)) sm_a197_25 rfl rfl rfl ?_
        refine ru_go (t := (29, [some (.inr (some a0)), some (.inl x1), some (.inl x2), some (.inl x3), some (.inl y0)], [.inl 128, .inl x2], M)) sm_a197_26 rfl rfl (st_sipush (by decide)) ?_
        refine ru_icmp (pc := 29) (p := 42) (p2 := 32) sm_a197_29 (by decide) rfl ⟨fun hc_4 => ?_, fun hc_4 => ?_⟩
        · have h := h.1 hc_4
          refine ru_go (t := (43, [some (.inr (some a0)), some (.inl x1), some (.inl x2), some (.inl x3), some (.inl y0)], [.inl (-1)], M)) sm_a197_42 rfl rfl (st_iconst (by decide)) ?_
          exact ru_ret sm_a197_43 rfl h
        · have h := h.2 hc_4
          refine ru_go (t := (33, [some (.inr (some a0)), some (.inl x1), some (.inl x2), some (.inl x3), some (.inl y0)], [.inr (some a0)], M)) sm_a197_32 rfl rfl rfl ?_
          obtain ⟨h_5, h⟩ := h
          refine ru_go (t := (36, [some (.inr (some a0)), some (.inl x1), some (.inl x2), some (.inl x3), some (.inl y0)], [.inl (sm_I M a0 70)], M)) sm_a197_33 rfl rfl (st_getI h_5 rfl) ?_
          refine ru_go (t := (39, [some (.inr (some a0)), some (.inl x1), some (.inl x2), some (.inl x3), some (.inl y0)], [.inl 300, .inl (sm_I M a0 70)], M)) sm_a197_36 rfl rfl (st_sipush (by decide)) ?_
          refine ru_icmp (pc := 39) (p := 44) (p2 := 42) sm_a197_39 (by decide) rfl ⟨fun hc_6 => ?_, fun hc_6 => ?_⟩
          · have h := h.1 hc_6
            refine ru_go (t := (45, [some (.inr (some a0)), some (.inl x1), some (.inl x2), some (.inl x3), some (.inl y0)], [.inr (some a0)], M)) sm_a197_44 rfl rfl rfl ?_
            refine ru_go (t := (48, [some (.inr (some a0)), some (.inl x1), some (.inl x2), some (.inl x3), some (.inl y0)], [.inr (sm_R M a0 67)], M)) sm_a197_45 rfl rfl (st_getR h_5 rfl rfl) ?_
            refine ru_go (t := (50, [some (.inr (some a0)), some (.inl x1), some (.inl x2), some (.inl x3), some (.inl y0)], [.inl y0, .inr (sm_R M a0 67)], M)) sm_a197_48 rfl rfl rfl ?_
            obtain ⟨b_7, hb_8, h⟩ := h
            rw [hb_8]
            obtain ⟨h_9, h⟩ := h
            obtain ⟨h_10, h⟩ := h
            refine ru_go (t := (51, [some (.inr (some a0)), some (.inl x1), some (.inl x2), some (.inl x3), some (.inl y0)], [.inl (sm_I M b_7 (y0).toNatClampNeg)], M)) sm_a197_50 rfl rfl (st_zald h_9 h_10) ?_
            refine ru_if (pc := 51) (p := 64) (p2 := 54) sm_a197_51 (by decide) rfl ⟨fun hc_11 => ?_, fun hc_11 => ?_⟩
            · have h := h.1 hc_11
              refine ru_go (t := (65, [some (.inr (some a0)), some (.inl x1), some (.inl x2), some (.inl x3), some (.inl y0)], [.inl (-1)], M)) sm_a197_64 rfl rfl (st_iconst (by decide)) ?_
              exact ru_ret sm_a197_65 rfl h
            · have h := h.2 hc_11
              refine ru_go (t := (55, [some (.inr (some a0)), some (.inl x1), some (.inl x2), some (.inl x3), some (.inl y0)], [.inr (some a0)], M)) sm_a197_54 rfl rfl rfl ?_
              refine ru_go (t := (56, [some (.inr (some a0)), some (.inl x1), some (.inl x2), some (.inl x3), some (.inl y0)], [.inl x1, .inr (some a0)], M)) sm_a197_55 rfl rfl rfl ?_
              refine ru_go (t := (57, [some (.inr (some a0)), some (.inl x1), some (.inl x2), some (.inl x3), some (.inl y0)], [.inl x2, .inl x1, .inr (some a0)], M)) sm_a197_56 rfl rfl rfl ?_
              refine ru_go (t := (58, [some (.inr (some a0)), some (.inl x1), some (.inl x2), some (.inl x3), some (.inl y0)], [.inl x3, .inl x2, .inl x1, .inr (some a0)], M)) sm_a197_57 rfl rfl rfl ?_
              exact ru_call (p := 61) sm_a197_58 rfl (sc_virt (Or.inl rfl) rfl rfl h_5 (Nat.le_of_ble_eq_true rfl)) rfl h
          · have h := h.2 hc_6
            refine ru_go (t := (43, [some (.inr (some a0)), some (.inl x1), some (.inl x2), some (.inl x3), some (.inl y0)], [.inl (-1)], M)) sm_a197_42 rfl rfl (st_iconst (by decide)) ?_
            exact ru_ret sm_a197_43 rfl h
theorem bb_197_61 {d : Nat} {M : sm_M} {Q : Option sm_V → sm_M → Prop} {a0 : Nat} {x1 : Int32} {x2 : Int32} {x3 : Int32} {x4 : Int32} {y0 : Int32}
    (h : Q (some (.inl y0)) M) :
    sm_Run (d + 1) 197 61 [some (.inr (some a0)), some (.inl x1), some (.inl x2), some (.inl x3), some (.inl x4)] [.inl y0] M Q := by
  refine ru_go (t := (65, [some (.inr (some a0)), some (.inl x1), some (.inl x2), some (.inl x3), some (.inl x4)], [.inl y0], M)) sm_a197_61 rfl rfl (st_goto (pc := 61) (by decide)) ?_
  exact ru_ret sm_a197_65 rfl h

/-! WireBusModel.control:(IIIII)I -/
theorem sm_a198_0 : sm_at 198 0 = some (.iload_n 2, 1, (0, 0, 0, 0)) := by decide +kernel
theorem sm_a198_1 : sm_at 198 1 = some (.ldc_w 415, 3, (65535, 0, 0, 1465)) := by decide +kernel
theorem sm_a198_4 : sm_at 198 4 = some (.iand, 1, (0, 0, 0, 0)) := by decide +kernel
theorem sm_a198_5 : sm_at 198 5 = some (.istore 6, 2, (0, 0, 0, 0)) := by decide +kernel
theorem sm_a198_7 : sm_at 198 7 = some (.iload_n 1, 1, (0, 0, 0, 0)) := by decide +kernel
theorem sm_a198_8 : sm_at 198 8 = some (.ifCond .lt 53, 3, (0, 0, 0, 0)) := by decide +kernel
theorem sm_a198_11 : sm_at 198 11 = some (.iload_n 1, 1, (0, 0, 0, 0)) := by decide +kernel
theorem sm_a198_12 : sm_at 198 12 = some (.iconst 5, 1, (0, 0, 0, 0)) := by decide +kernel
theorem sm_a198_13 : sm_at 198 13 = some (.if_icmp .gt 48, 3, (0, 0, 0, 0)) := by decide +kernel
theorem sm_a198_16 : sm_at 198 16 = some (.iload 6, 2, (0, 0, 0, 0)) := by decide +kernel
theorem sm_a198_18 : sm_at 198 18 = some (.iconst 5, 1, (0, 0, 0, 0)) := by decide +kernel
theorem sm_a198_19 : sm_at 198 19 = some (.if_icmp .eq 42, 3, (0, 0, 0, 0)) := by decide +kernel
theorem sm_a198_22 : sm_at 198 22 = some (.iload 5, 2, (0, 0, 0, 0)) := by decide +kernel
theorem sm_a198_24 : sm_at 198 24 = some (.ifCond .lt 37, 3, (0, 0, 0, 0)) := by decide +kernel
theorem sm_a198_27 : sm_at 198 27 = some (.iload 5, 2, (0, 0, 0, 0)) := by decide +kernel
theorem sm_a198_29 : sm_at 198 29 = some (.bipush 100, 2, (0, 0, 0, 0)) := by decide +kernel
theorem sm_a198_31 : sm_at 198 31 = some (.if_icmp .gt 30, 3, (0, 0, 0, 0)) := by decide +kernel
theorem sm_a198_34 : sm_at 198 34 = some (.aload_n 0, 1, (0, 0, 0, 0)) := by decide +kernel
theorem sm_a198_35 : sm_at 198 35 = some (.getfield 332, 3, (12, 70, 0, 1253)) := by decide +kernel
theorem sm_a198_38 : sm_at 198 38 = some (.sipush 300, 3, (0, 0, 0, 0)) := by decide +kernel
theorem sm_a198_41 : sm_at 198 41 = some (.if_icmp .ge 20, 3, (0, 0, 0, 0)) := by decide +kernel
theorem sm_a198_44 : sm_at 198 44 = some (.iload 6, 2, (0, 0, 0, 0)) := by decide +kernel
theorem sm_a198_46 : sm_at 198 46 = some (.ldc_w 318, 3, (32768, 0, 0, 1514)) := by decide +kernel
theorem sm_a198_49 : sm_at 198 49 = some (.if_icmp .ge 14, 3, (0, 0, 0, 0)) := by decide +kernel
theorem sm_a198_52 : sm_at 198 52 = some (.iload 5, 2, (0, 0, 0, 0)) := by decide +kernel
theorem sm_a198_54 : sm_at 198 54 = some (.aload_n 0, 1, (0, 0, 0, 0)) := by decide +kernel
theorem sm_a198_55 : sm_at 198 55 = some (.getfield 239, 3, (12, 3, 0, 1186)) := by decide +kernel
theorem sm_a198_58 : sm_at 198 58 = some (.if_icmp .le 5, 3, (0, 0, 0, 0)) := by decide +kernel
theorem sm_a198_61 : sm_at 198 61 = some (.iconst (-1), 1, (0, 0, 0, 0)) := by decide +kernel
theorem sm_a198_62 : sm_at 198 62 = some (.ireturn, 1, (0, 0, 0, 0)) := by decide +kernel
theorem sm_a198_63 : sm_at 198 63 = some (.aload_n 0, 1, (0, 0, 0, 0)) := by decide +kernel
theorem sm_a198_64 : sm_at 198 64 = some (.getfield 149, 3, (12, 57, 0, 1240)) := by decide +kernel
theorem sm_a198_67 : sm_at 198 67 = some (.iload_n 1, 1, (0, 0, 0, 0)) := by decide +kernel
theorem sm_a198_68 : sm_at 198 68 = some (.iaload, 1, (0, 0, 0, 0)) := by decide +kernel
theorem sm_a198_69 : sm_at 198 69 = some (.iconst 2, 1, (0, 0, 0, 0)) := by decide +kernel
theorem sm_a198_70 : sm_at 198 70 = some (.if_icmp .eq 24, 3, (0, 0, 0, 0)) := by decide +kernel
theorem sm_a198_73 : sm_at 198 73 = some (.aload_n 0, 1, (0, 0, 0, 0)) := by decide +kernel
theorem sm_a198_74 : sm_at 198 74 = some (.getfield 149, 3, (12, 57, 0, 1240)) := by decide +kernel
theorem sm_a198_77 : sm_at 198 77 = some (.iload_n 1, 1, (0, 0, 0, 0)) := by decide +kernel
theorem sm_a198_78 : sm_at 198 78 = some (.iaload, 1, (0, 0, 0, 0)) := by decide +kernel
theorem sm_a198_79 : sm_at 198 79 = some (.iconst 3, 1, (0, 0, 0, 0)) := by decide +kernel
theorem sm_a198_80 : sm_at 198 80 = some (.if_icmp .ne 12, 3, (0, 0, 0, 0)) := by decide +kernel
theorem sm_a198_83 : sm_at 198 83 = some (.aload_n 0, 1, (0, 0, 0, 0)) := by decide +kernel
theorem sm_a198_84 : sm_at 198 84 = some (.getfield 155, 3, (12, 59, 0, 1242)) := by decide +kernel
theorem sm_a198_87 : sm_at 198 87 = some (.iload_n 1, 1, (0, 0, 0, 0)) := by decide +kernel
theorem sm_a198_88 : sm_at 198 88 = some (.iaload, 1, (0, 0, 0, 0)) := by decide +kernel
theorem sm_a198_89 : sm_at 198 89 = some (.ifCond .gt 5, 3, (0, 0, 0, 0)) := by decide +kernel
theorem sm_a198_92 : sm_at 198 92 = some (.iconst (-1), 1, (0, 0, 0, 0)) := by decide +kernel
theorem sm_a198_93 : sm_at 198 93 = some (.ireturn, 1, (0, 0, 0, 0)) := by decide +kernel
theorem sm_a198_94 : sm_at 198 94 = some (.aload_n 0, 1, (0, 0, 0, 0)) := by decide +kernel
theorem sm_a198_95 : sm_at 198 95 = some (.iload_n 1, 1, (0, 0, 0, 0)) := by decide +kernel
theorem sm_a198_96 : sm_at 198 96 = some (.iload 6, 2, (0, 0, 0, 0)) := by decide +kernel
theorem sm_a198_98 : sm_at 198 98 = some (.bipush 8, 2, (0, 0, 0, 0)) := by decide +kernel
theorem sm_a198_100 : sm_at 198 100 = some (.ishr, 1, (0, 0, 0, 0)) := by decide +kernel
theorem sm_a198_101 : sm_at 198 101 = some (.iload 6, 2, (0, 0, 0, 0)) := by decide +kernel
theorem sm_a198_103 : sm_at 198 103 = some (.sipush 255, 3, (0, 0, 0, 0)) := by decide +kernel
theorem sm_a198_106 : sm_at 198 106 = some (.iand, 1, (0, 0, 0, 0)) := by decide +kernel
theorem sm_a198_107 : sm_at 198 107 = some (.iload_n 3, 1, (0, 0, 0, 0)) := by decide +kernel
theorem sm_a198_108 : sm_at 198 108 = some (.ldc_w 415, 3, (65535, 0, 0, 1465)) := by decide +kernel
theorem sm_a198_111 : sm_at 198 111 = some (.iand, 1, (0, 0, 0, 0)) := by decide +kernel
theorem sm_a198_112 : sm_at 198 112 = some (.iload 4, 2, (0, 0, 0, 0)) := by decide +kernel
theorem sm_a198_114 : sm_at 198 114 = some (.ldc_w 415, 3, (65535, 0, 0, 1465)) := by decide +kernel
theorem sm_a198_117 : sm_at 198 117 = some (.iand, 1, (0, 0, 0, 0)) := by decide +kernel
theorem sm_a198_118 : sm_at 198 118 = some (.iload 5, 2, (0, 0, 0, 0)) := by decide +kernel
theorem sm_a198_120 : sm_at 198 120 = some (.invokevirtual 378, 3, (10, 176, 12, 1482)) := by decide +kernel
theorem sm_a198_123 : sm_at 198 123 = some (.istore 7, 2, (0, 0, 0, 0)) := by decide +kernel
theorem sm_a198_125 : sm_at 198 125 = some (.iload 6, 2, (0, 0, 0, 0)) := by decide +kernel
theorem sm_a198_127 : sm_at 198 127 = some (.ldc_w 318, 3, (32768, 0, 0, 1514)) := by decide +kernel
theorem sm_a198_130 : sm_at 198 130 = some (.if_icmp .ge 45, 3, (0, 0, 0, 0)) := by decide +kernel
theorem sm_a198_133 : sm_at 198 133 = some (.iconst 0, 1, (0, 0, 0, 0)) := by decide +kernel
theorem sm_a198_134 : sm_at 198 134 = some (.istore 8, 2, (0, 0, 0, 0)) := by decide +kernel
theorem sm_a198_136 : sm_at 198 136 = some (.iload 8, 2, (0, 0, 0, 0)) := by decide +kernel
theorem sm_a198_138 : sm_at 198 138 = some (.iload 5, 2, (0, 0, 0, 0)) := by decide +kernel
theorem sm_a198_140 : sm_at 198 140 = some (.if_icmp .ge 29, 3, (0, 0, 0, 0)) := by decide +kernel
theorem sm_a198_143 : sm_at 198 143 = some (.aload_n 0, 1, (0, 0, 0, 0)) := by decide +kernel
theorem sm_a198_144 : sm_at 198 144 = some (.getfield 216, 3, (12, 81, 0, 1264)) := by decide +kernel
theorem sm_a198_147 : sm_at 198 147 = some (.bipush 100, 2, (0, 0, 0, 0)) := by decide +kernel
theorem sm_a198_149 : sm_at 198 149 = some (.iload 7, 2, (0, 0, 0, 0)) := by decide +kernel
theorem sm_a198_151 : sm_at 198 151 = some (.imul, 1, (0, 0, 0, 0)) := by decide +kernel
theorem sm_a198_152 : sm_at 198 152 = some (.iload 8, 2, (0, 0, 0, 0)) := by decide +kernel
theorem sm_a198_154 : sm_at 198 154 = some (.iadd, 1, (0, 0, 0, 0)) := by decide +kernel
theorem sm_a198_155 : sm_at 198 155 = some (.aload_n 0, 1, (0, 0, 0, 0)) := by decide +kernel
theorem sm_a198_156 : sm_at 198 156 = some (.getfield 13, 3, (12, 2, 0, 1185)) := by decide +kernel
theorem sm_a198_159 : sm_at 198 159 = some (.iload 8, 2, (0, 0, 0, 0)) := by decide +kernel
theorem sm_a198_161 : sm_at 198 161 = some (.iaload, 1, (0, 0, 0, 0)) := by decide +kernel
theorem sm_a198_162 : sm_at 198 162 = some (.iastore, 1, (1, 0, 0, 0)) := by decide +kernel
theorem sm_a198_163 : sm_at 198 163 = some (.iinc 8 1, 3, (0, 0, 0, 0)) := by decide +kernel
theorem sm_a198_166 : sm_at 198 166 = some (.goto (-30), 3, (0, 0, 0, 0)) := by decide +kernel
theorem sm_a198_169 : sm_at 198 169 = some (.aload_n 0, 1, (0, 0, 0, 0)) := by decide +kernel
theorem sm_a198_170 : sm_at 198 170 = some (.iload 5, 2, (0, 0, 0, 0)) := by decide +kernel
theorem sm_a198_172 : sm_at 198 172 = some (.invokevirtual 416, 3, (10, 154, 12, 1502)) := by decide +kernel
theorem sm_a198_175 : sm_at 198 175 = some (.iload 7, 2, (0, 0, 0, 0)) := by decide +kernel
theorem sm_a198_177 : sm_at 198 177 = some (.ireturn, 1, (0, 0, 0, 0)) := by decide +kernel
theorem bb_198_0 {d : Nat} {M : sm_M} {Q : Option sm_V → sm_M → Prop} {a0 : Nat} {x1 : Int32} {x2 : Int32} {x3 : Int32} {x4 : Int32} {x5 : Int32} {z6 : Option sm_V} {z7 : Option sm_V} {z8 : Option sm_V}
    (h : ((x1 < 0 → Q (some (.inl (-1))) M) ∧ (¬ (x1 < 0) → ((5 < x1 → Q (some (.inl (-1))) M) ∧ (¬ (5 < x1) → (((x2 &&& 65535) = 5 → Q (some (.inl (-1))) M) ∧ (¬ ((x2 &&& 65535) = 5) → ((x5 < 0 → Q (some (.inl (-1))) M) ∧ (¬ (x5 < 0) → ((100 < x5 → Q (some (.inl (-1))) M) ∧ (¬ (100 < x5) → sm_K M a0 = 39 ∧ ((300 ≤ (sm_I M a0 70) → Q (some (.inl (-1))) M) ∧ (¬ (300 ≤ (sm_I M a0 70)) → ((32768 ≤ (x2 &&& 65535) → sm_Run (d + 1) 198 63 [some (.inr (some a0)), some (.inl x1), some (.inl x2), some (.inl x3), some (.inl x4), some (.inl x5), some (.inl (x2 &&& 65535)), z7, z8] [] M Q) ∧ (¬ (32768 ≤ (x2 &&& 65535)) → ((x5 ≤ (sm_I M a0 3) → sm_Run (d + 1) 198 63 [some (.inr (some a0)), some (.inl x1), some (.inl x2), some (.inl x3), some (.inl x4), some (.inl x5), some (.inl (x2 &&& 65535)), z7, z8] [] M Q) ∧ (¬ (x5 ≤ (sm_I M a0 3)) → Q (some (.inl (-1))) M))))))))))))))))) :
    sm_Run (d + 1) 198 0 [some (.inr (some a0)), some (.inl x1), some (.inl x2), some (.inl x3), some (.inl x4), some (.inl x5), z6, z7, z8] [] M Q := by
  refine ru_go (t := (1, [some (.inr (some a0)), some (.inl x1), some (.inl x2), some (.inl x3), some (.inl x4), some (.inl x5), z6, z7, z8], [.inl x2], M)) sm_a198_0 rfl rfl rfl ?_
  refine ru_go (t := (4, [some (.inr (some a0)), some (.inl x1), some (.inl x2), some (.inl x3), some (.inl x4), some (.inl x5), z6, z7, z8], [.inl 65535, .inl x2], M)) sm_a198_1 rfl rfl (st_ldc_w (by decide)) ?_
  refine ru_go (t := (5, [some (.inr (some a0)), some (.inl x1), some (.inl x2), some (.inl x3), some (.inl x4), some (.inl x5), z6, z7, z8], [.inl (x2 &&& 65535)], M)) sm_a198_4 rfl rfl rfl ?_
  refine ru_go (t := (7, [some (.inr (some a0)), some (.inl x1), some (.inl x2), some (.inl x3), some (.inl x4), some (.inl x5), some (.inl (x2 &&& 65535)), z7, z8], [], M)) sm_a198_5 rfl rfl rfl ?_
  refine ru_go (t := (8, [some (.inr (some a0)), some (.inl x1), some (.inl x2), some (.inl x3), some (.inl x4), some (.inl x5), some (.inl (x2 &&& 65535)), z7, z8], [.inl x1], M)) sm_a198_7 rfl rfl rfl ?_
  refine ru_if (pc := 8) (p := 61) (p2 := 11) sm_a198_8 (by decide) rfl ⟨fun hc_1 => ?_, fun hc_1 => ?_⟩
  · have h := h.1 hc_1
    refine ru_go (t := (62, [some (.inr (some a0)), some (.inl x1), some (.inl x2), some (.inl x3), some (.inl x4), some (.inl x5), some (.inl (x2 &&& 65535)), z7, z8], [.inl (-1)], M)) sm_a198_61 rfl rfl (st_iconst (by decide)) ?_
    exact ru_ret sm_a198_62 rfl h
  · have h := h.2 hc_1
    refine ru_go (t := (12, [some (.inr (some a0)), some (.inl x1), some (.inl x2), some (.inl x3), some (.inl x4), some (.inl x5), some (.inl (x2 &&& 65535)), z7, z8], [.inl x1], M)) sm_a198_11 rfl rfl rfl ?_
    refine ru_go (t := (13, [some (.inr (some a0)), some (.inl x1), some (.inl x2), some (.inl x3), some (.inl x4), some (.inl x5), some (.inl (x2 &&& 65535)), z7, z8], [.inl 5, .inl x1], M)) sm_a198_12 rfl rfl (st_iconst (by decide)) ?_
    refine ru_icmp (pc := 13) (p := 61) (p2 := 16) sm_a198_13 (by decide) rfl ⟨fun hc_2 => ?_, fun hc_2 => ?_⟩
    · have h := h.1 hc_2
      refine ru_go (t := (62, [some (.inr (some a0)), some (.inl x1), some (.inl x2), some (.inl x3), some (.inl x4), some (.inl x5), some (.inl (x2 &&& 65535)), z7, z8], [.inl (-1)], M)) sm_a198_61 rfl rfl (st_iconst (by decide)) ?_
      exact ru_ret sm_a198_62 rfl h
    · have h := h.2 hc_2
      refine ru_go (t := (18, [some (.inr (some a0)), some (.inl x1), some (.inl x2), some (.inl x3), some (.inl x4), some (.inl x5), some (.inl (x2 &&& 65535)), z7, z8], [.inl (x2 &&& 65535)], M)) sm_a198_16 rfl rfl rfl ?_
      refine ru_go (t := (19, [some (.inr (some a0)), some (.inl x1), some (.inl x2), some (.inl x3), some (.inl x4), some (.inl x5), some (.inl (x2 &&& 65535)), z7, z8], [.inl 5, .inl (x2 &&& 65535)], M)) sm_a198_18 rfl rfl (st_iconst (by decide)) ?_
      refine ru_icmp (pc := 19) (p := 61) (p2 := 22) sm_a198_19 (by decide) rfl ⟨fun hc_3 => ?_, fun hc_3 => ?_⟩
      · have h := h.1 hc_3
        refine ru_go (t := (62, [some (.inr (some a0)), some (.inl x1), some (.inl x2), some (.inl x3), some (.inl x4), some (.inl x5), some (.inl (x2 &&& 65535)), z7, z8], [.inl (-1)], M)) sm_a198_61 rfl rfl (st_iconst (by decide)) ?_
        exact ru_ret sm_a198_62 rfl h
      · have h := h.2 hc_3
        refine ru_go (t := (24, [some (.inr (some a0)), some (.inl x1), some (.inl x2), some (.inl x3), some (.inl x4), some (.inl x5), some (.inl (x2 &&& 65535)), z7, z8], [.inl x5], M)) sm_a198_22 rfl rfl rfl ?_
        refine ru_if (pc := 24) (p := 61) (p2 := 27) sm_a198_24 (by decide) rfl ⟨fun hc_4 => ?_, fun hc_4 => ?_⟩
        · have h := h.1 hc_4
          refine ru_go (t := (62, [some (.inr (some a0)), some (.inl x1), some (.inl x2), some (.inl x3), some (.inl x4), some (.inl x5), some (.inl (x2 &&& 65535)), z7, z8], [.inl (-1)], M)) sm_a198_61 rfl rfl (st_iconst (by decide)) ?_
          exact ru_ret sm_a198_62 rfl h
        · have h := h.2 hc_4
          refine ru_go (t := (29, [some (.inr (some a0)), some (.inl x1), some (.inl x2), some (.inl x3), some (.inl x4), some (.inl x5), some (.inl (x2 &&& 65535)), z7, z8], [.inl x5], M)) sm_a198_27 rfl rfl rfl ?_
          refine ru_go (t := (31, [some (.inr (some a0)), some (.inl x1), some (.inl x2), some (.inl x3), some (.inl x4), some (.inl x5), some (.inl (x2 &&& 65535)), z7, z8], [.inl 100, .inl x5], M)) sm_a198_29 rfl rfl (st_bipush (by decide)) ?_
          refine ru_icmp (pc := 31) (p := 61) (p2 := 34) sm_a198_31 (by decide) rfl ⟨fun hc_5 => ?_, fun hc_5 => ?_⟩
          · have h := h.1 hc_5
            refine ru_go (t := (62, [some (.inr (some a0)), some (.inl x1), some (.inl x2), some (.inl x3), some (.inl x4), some (.inl x5), some (.inl (x2 &&& 65535)), z7, z8], [.inl (-1)], M)) sm_a198_61 rfl rfl (st_iconst (by decide)) ?_
            exact ru_ret sm_a198_62 rfl h
          · have h := h.2 hc_5
            refine ru_go (t := (35, [some (.inr (some a0)), some (.inl x1), some (.inl x2), some (.inl x3), some (.inl x4), some (.inl x5), some (.inl (x2 &&& 65535)), z7, z8], [.inr (some a0)], M)) sm_a198_34 rfl rfl rfl ?_
            obtain ⟨h_6, h⟩ := h
            refine ru_go (t := (38, [some (.inr (some a0)), some (.inl x1), some (.inl x2), some (.inl x3), some (.inl x4), some (.inl x5), some (.inl (x2 &&& 65535)), z7, z8], [.inl (sm_I M a0 70)], M)) sm_a198_35 rfl rfl (st_getI h_6 rfl) ?_
            refine ru_go (t := (41, [some (.inr (some a0)), some (.inl x1), some (.inl x2), some (.inl x3), some (.inl x4), some (.inl x5), some (.inl (x2 &&& 65535)), z7, z8], [.inl 300, .inl (sm_I M a0 70)], M)) sm_a198_38 rfl rfl (st_sipush (by decide)) ?_
            refine ru_icmp (pc := 41) (p := 61) (p2 := 44) sm_a198_41 (by decide) rfl ⟨fun hc_7 => ?_, fun hc_7 => ?_⟩
            · have h := h.1 hc_7
              refine ru_go (t := (62, [some (.inr (some a0)), some (.inl x1), some (.inl x2), some (.inl x3), some (.inl x4), some (.inl x5), some (.inl (x2 &&& 65535)), z7, z8], [.inl (-1)], M)) sm_a198_61 rfl rfl (st_iconst (by decide)) ?_
              exact ru_ret sm_a198_62 rfl h
            · have h := h.2 hc_7
              refine ru_go (t := (46, [some (.inr (some a0)), some (.inl x1), some (.inl x2), some (.inl x3), some (.inl x4), some (.inl x5), some (.inl (x2 &&& 65535)), z7, z8], [.inl (x2 &&& 65535)], M)) sm_a198_44 rfl rfl rfl ?_
              refine ru_go (t := (49, [some (.inr (some a0)), some (.inl x1), some (.inl x2), some (.inl x3), some (.inl x4), some (.inl x5), some (.inl (x2 &&& 65535)), z7, z8], [.inl 32768, .inl (x2 &&& 65535)], M)) sm_a198_46 rfl rfl (st_ldc_w (by decide)) ?_
              refine ru_icmp (pc := 49) (p := 63) (p2 := 52) sm_a198_49 (by decide) rfl ⟨fun hc_8 => ?_, fun hc_8 => ?_⟩
              · have h := h.1 hc_8
                exact h
              · have h := h.2 hc_8
                refine ru_go (t := (54, [some (.inr (some a0)), some (.inl x1), some (.inl x2), some (.inl x3), some (.inl x4), some (.inl x5), some (.inl (x2 &&& 65535)), z7, z8], [.inl x5], M)) sm_a198_52 rfl rfl rfl ?_
                refine ru_go (t := (55, [some (.inr (some a0)), some (.inl x1), some (.inl x2), some (.inl x3), some (.inl x4), some (.inl x5), some (.inl (x2 &&& 65535)), z7, z8], [.inr (some a0), .inl x5], M)) sm_a198_54 rfl rfl rfl ?_
                refine ru_go (t := (58, [some (.inr (some a0)), some (.inl x1), some (.inl x2), some (.inl x3), some (.inl x4), some (.inl x5), some (.inl (x2 &&& 65535)), z7, z8], [.inl (sm_I M a0 3), .inl x5], M)) sm_a198_55 rfl rfl (st_getI h_6 rfl) ?_
                refine ru_icmp (pc := 58) (p := 63) (p2 := 61) sm_a198_58 (by decide) rfl ⟨fun hc_9 => ?_, fun hc_9 => ?_⟩
                · have h := h.1 hc_9
                  exact h
                · have h := h.2 hc_9
                  refine ru_go (t := (62, [some (.inr (some a0)), some (.inl x1), some (.inl x2), some (.inl x3), some (.inl x4), some (.inl x5), some (.inl (x2 &&& 65535)), z7, z8], [.inl (-1)], M)) sm_a198_61 rfl rfl (st_iconst (by decide)) ?_
                  exact ru_ret sm_a198_62 rfl h
theorem bb_198_63 {d : Nat} {M : sm_M} {Q : Option sm_V → sm_M → Prop} {a0 : Nat} {x1 : Int32} {x2 : Int32} {x3 : Int32} {x4 : Int32} {x5 : Int32} {x6 : Int32} {z7 : Option sm_V} {z8 : Option sm_V}
    (h : sm_K M a0 = 39 ∧ ∃ b_2, sm_R M a0 57 = some b_2 ∧ sm_iA M b_2 ∧ sm_in_ M b_2 x1 ∧ (((sm_I M b_2 (x1).toNatClampNeg) = 2 → sm_Run (d + 1) 198 94 [some (.inr (some a0)), some (.inl x1), some (.inl x2), some (.inl x3), some (.inl x4), some (.inl x5), some (.inl x6), z7, z8] [] M Q) ∧ (¬ ((sm_I M b_2 (x1).toNatClampNeg) = 2) → ∃ b_7, sm_R M a0 57 = some b_7 ∧ sm_iA M b_7 ∧ sm_in_ M b_7 x1 ∧ ((¬ (sm_I M b_7 (x1).toNatClampNeg) = 3 → Q (some (.inl (-1))) M) ∧ (¬ (¬ (sm_I M b_7 (x1).toNatClampNeg) = 3) → ∃ b_12, sm_R M a0 59 = some b_12 ∧ sm_iA M b_12 ∧ sm_in_ M b_12 x1 ∧ ((0 < (sm_I M b_12 (x1).toNatClampNeg) → sm_Run (d + 1) 198 94 [some (.inr (some a0)), some (.inl x1), some (.inl x2), some (.inl x3), some (.inl x4), some (.inl x5), some (.inl x6), z7, z8] [] M Q) ∧ (¬ (0 < (sm_I M b_12 (x1).toNatClampNeg)) → Q (some (.inl (-1))) M))))))) :
    sm_Run (d + 1) 198 63 [some (.inr (some a0)), some (.inl x1), some (.inl x2), some (.inl x3), some (.inl x4), some (.inl x5), some (.inl x6), z7, z8] [] M Q := by
  refine ru_go (t := (64, [some (.inr (some a0)), some (.inl x1), some (.inl x2), some (.inl x3), some (.inl x4), some (.inl x5), some (.inl x6), z7, z8], [.inr (some a0)], M)) sm_a198_63 rfl rfl rfl ?_
  obtain ⟨h_1, h⟩ := h
  refine ru_go (t := (67, [some (.inr (some a0)), some (.inl x1), some (.inl x2), some (.inl x3), some (.inl x4), some (.inl x5), some (.inl x6), z7, z8], [.inr (sm_R M a0 57)], M)) sm_a198_64 rfl rfl (st_getR h_1 rfl rfl) ?_
  refine ru_go (t := (68, [some (.inr (some a0)), some (.inl x1), some (.inl x2), some (.inl x3), some (.inl x4), some (.inl x5), some (.inl x6), z7, z8], [.inl x1, .inr (sm_R M a0 57)], M)) sm_a198_67 rfl rfl rfl ?_
  obtain ⟨b_2, hb_3, h⟩ := h
  rw [hb_3]
  obtain ⟨h_4, h⟩ := h
  obtain ⟨h_5, h⟩ := h
  refine ru_go (t := (69, [some (.inr (some a0)), some (.inl x1), some (.inl x2), some (.inl x3), some (.inl x4), some (.inl x5), some (.inl x6), z7, z8], [.inl (sm_I M b_2 (x1).toNatClampNeg)], M)) sm_a198_68 rfl rfl (st_iald h_4 h_5) ?_
  refine ru_go (t := (70, [some (.inr (some a0)), some (.inl x1), some (.inl x2), some (.inl x3), some (.inl x4), some (.inl x5), some (.inl x6), z7, z8], [.inl 2, .inl (sm_I M b_2 (x1).toNatClampNeg)], M)) sm_a198_69 rfl rfl (st_iconst (by decide)) ?_
  refine ru_icmp (pc := 70) (p := 94) (p2 := 73) sm_a198_70 (by decide) rfl ⟨fun hc_6 => ?_, fun hc_6 => ?_⟩
  · have h := h.1 hc_6
    exact h
  · have h := h.2 hc_6
    refine ru_go (t := (74, [some (.inr (some a0)), some (.inl x1), some (.inl x2), some (.inl x3), some (.inl x4), some (.inl x5), some (.inl x6), z7, z8], [.inr (some a0)], M)) sm_a198_73 rfl rfl rfl ?_
    refine ru_go (t := (77, [some (.inr (some a0)), some (.inl x1), some (.inl x2), some (.inl x3), some (.inl x4), some (.inl x5), some (.inl x6), z7, z8], [.inr (sm_R M a0 57)], M)) sm_a198_74 rfl rfl (st_getR h_1 rfl rfl) ?_
    refine ru_go (t := (78, [some (.inr (some a0)), some (.inl x1), some (.inl x2), some (.inl x3), some (.inl x4), some (.inl x5), some (.inl x6), z7, z8], [.inl x1, .inr (sm_R M a0 57)], M)) sm_a198_77 rfl rfl rfl ?_
    obtain ⟨b_7, hb_8, h⟩ := h
    rw [hb_8]
    obtain ⟨h_9, h⟩ := h
    obtain ⟨h_10, h⟩ := h
    refine ru_go (t := (79, [some (.inr (some a0)), some (.inl x1), some (.inl x2), some (.inl x3), some (.inl x4), some (.inl x5), some (.inl x6), z7, z8], [.inl (sm_I M b_7 (x1).toNatClampNeg)], M)) sm_a198_78 rfl rfl (st_iald h_9 h_10) ?_
    refine ru_go (t := (80, [some (.inr (some a0)), some (.inl x1), some (.inl x2), some (.inl x3), some (.inl x4), some (.inl x5), some (.inl x6), z7, z8], [.inl 3, .inl (sm_I M b_7 (x1).toNatClampNeg)], M)) sm_a198_79 rfl rfl (st_iconst (by decide)) ?_
    refine ru_icmp (pc := 80) (p := 92) (p2 := 83) sm_a198_80 (by decide) rfl ⟨fun hc_11 => ?_, fun hc_11 => ?_⟩
    · have h := h.1 hc_11
      refine ru_go (t := (93, [some (.inr (some a0)), some (.inl x1), some (.inl x2), some (.inl x3), some (.inl x4), some (.inl x5), some (.inl x6), z7, z8], [.inl (-1)], M)) sm_a198_92 rfl rfl (st_iconst (by decide)) ?_
      exact ru_ret sm_a198_93 rfl h
    · have h := h.2 hc_11
      refine ru_go (t := (84, [some (.inr (some a0)), some (.inl x1), some (.inl x2), some (.inl x3), some (.inl x4), some (.inl x5), some (.inl x6), z7, z8], [.inr (some a0)], M)) sm_a198_83 rfl rfl rfl ?_
      refine ru_go (t := (87, [some (.inr (some a0)), some (.inl x1), some (.inl x2), some (.inl x3), some (.inl x4), some (.inl x5), some (.inl x6), z7, z8], [.inr (sm_R M a0 59)], M)) sm_a198_84 rfl rfl (st_getR h_1 rfl rfl) ?_
      refine ru_go (t := (88, [some (.inr (some a0)), some (.inl x1), some (.inl x2), some (.inl x3), some (.inl x4), some (.inl x5), some (.inl x6), z7, z8], [.inl x1, .inr (sm_R M a0 59)], M)) sm_a198_87 rfl rfl rfl ?_
      obtain ⟨b_12, hb_13, h⟩ := h
      rw [hb_13]
      obtain ⟨h_14, h⟩ := h
      obtain ⟨h_15, h⟩ := h
      refine ru_go (t := (89, [some (.inr (some a0)), some (.inl x1), some (.inl x2), some (.inl x3), some (.inl x4), some (.inl x5), some (.inl x6), z7, z8], [.inl (sm_I M b_12 (x1).toNatClampNeg)], M)) sm_a198_88 rfl rfl (st_iald h_14 h_15) ?_
      refine ru_if (pc := 89) (p := 94) (p2 := 92) sm_a198_89 (by decide) rfl ⟨fun hc_16 => ?_, fun hc_16 => ?_⟩
      · have h := h.1 hc_16
        exact h
      · have h := h.2 hc_16
        refine ru_go (t := (93, [some (.inr (some a0)), some (.inl x1), some (.inl x2), some (.inl x3), some (.inl x4), some (.inl x5), some (.inl x6), z7, z8], [.inl (-1)], M)) sm_a198_92 rfl rfl (st_iconst (by decide)) ?_
        exact ru_ret sm_a198_93 rfl h
theorem bb_198_94 {d : Nat} {M : sm_M} {Q : Option sm_V → sm_M → Prop} {a0 : Nat} {x1 : Int32} {x2 : Int32} {x3 : Int32} {x4 : Int32} {x5 : Int32} {x6 : Int32} {z7 : Option sm_V} {z8 : Option sm_V}
    (h : sm_K M a0 = 39 ∧ sm_Run d 176 0 (sm_ent 176 [.inr (some a0), .inl x1, .inl (x6 >>> (8 &&& 31)), .inl (x6 &&& 255), .inl (x3 &&& 65535), .inl (x4 &&& 65535), .inl x5]) [] M (fun v M1 => sm_Run (d + 1) 198 123 [some (.inr (some a0)), some (.inl x1), some (.inl x2), some (.inl x3), some (.inl x4), some (.inl x5), some (.inl x6), z7, z8] (v.toList ++ []) M1 Q)) :
    sm_Run (d + 1) 198 94 [some (.inr (some a0)), some (.inl x1), some (.inl x2), some (.inl x3), some (.inl x4), some (.inl x5), some (.inl x6), z7, z8] [] M Q := by
  refine ru_go (t := (95, [some (.inr (some a0)), some (.inl x1), some (.inl x2), some (.inl x3), some (.inl x4), some (.inl x5), some (.inl x6), z7, z8], [.inr (some a0)], M)) sm_a198_94 rfl rfl rfl ?_
  refine ru_go (t := (96, [some (.inr (some a0)), some (.inl x1), some (.inl x2), some (.inl x3), some (.inl x4), some (.inl x5), some (.inl x6), z7, z8], [.inl x1, .inr (some a0)], M)) sm_a198_95 rfl rfl rfl ?_
  refine ru_go (t := (98, [some (.inr (some a0)), some (.inl x1), some (.inl x2), some (.inl x3), some (.inl x4), some (.inl x5), some (.inl x6), z7, z8], [.inl x6, .inl x1, .inr (some a0)], M)) sm_a198_96 rfl rfl rfl ?_
  refine ru_go (t := (100, [some (.inr (some a0)), some (.inl x1), some (.inl x2), some (.inl x3), some (.inl x4), some (.inl x5), some (.inl x6), z7, z8], [.inl 8, .inl x6, .inl x1, .inr (some a0)], M)) sm_a198_98 rfl rfl (st_bipush (by decide)) ?_
  refine ru_go (t := (101, [some (.inr (some a0)), some (.inl x1), some (.inl x2), some (.inl x3), some (.inl x4), some (.inl x5), some (.inl x6), z7, z8], [.inl (x6 >>> (8 &&& 31)), .inl x1, .inr (some a0)], M)) sm_a198_100 rfl rfl rfl ?_
  refine ru_go (t := (103, [some (.inr (some a0)), some (.inl x1), some (.inl x2), some (.inl x3), some (.inl x4), some (.inl x5), some (.inl x6), z7, z8], [.inl x6, .inl (x6 >>> (8 &&& 31)), .inl x1, .inr (some a0)], M)) sm_a198_101 rfl rfl rfl ?_
  refine ru_go (t := (106, [some (.inr (some a0)), some (.inl x1), some (.inl x2), some (.inl x3), some (.inl x4), some (.inl x5), some (.inl x6), z7, z8], [.inl 255, .inl x6, .inl (x6 >>> (8 &&& 31)), .inl x1, .inr (some a0)], M)) sm_a198_103 rfl rfl (st_sipush (by decide)) ?_
  refine ru_go (t := (107, [some (.inr (some a0)), some (.inl x1), some (.inl x2), some (.inl x3), some (.inl x4), some (.inl x5), some (.inl x6), z7, z8], [.inl (x6 &&& 255), .inl (x6 >>> (8 &&& 31)), .inl x1, .inr (some a0)], M)) sm_a198_106 rfl rfl rfl ?_
  refine ru_go (t := (108, [some (.inr (some a0)), some (.inl x1), some (.inl x2), some (.inl x3), some (.inl x4), some (.inl x5), some (.inl x6), z7, z8], [.inl x3, .inl (x6 &&& 255), .inl (x6 >>> (8 &&& 31)), .inl x1, .inr (some a0)], M)) sm_a198_107 rfl rfl rfl ?_
  refine ru_go (t := (111, [some (.inr (some a0)), some (.inl x1), some (.inl x2), some (.inl x3), some (.inl x4), some (.inl x5), some (.inl x6), z7, z8], [.inl 65535, .inl x3, .inl (x6 &&& 255), .inl (x6 >>> (8 &&& 31)), .inl x1, .inr (some a0)], M)) sm_a198_108 rfl rfl (st_ldc_w (by decide)) ?_
  refine ru_go (t := (112, [some (.inr (some a0)), some (.inl x1), some (.inl x2), some (.inl x3), some (.inl x4), some (.inl x5), some (.inl x6), z7, z8], [.inl (x3 &&& 65535), .inl (x6 &&& 255), .inl (x6 >>> (8 &&& 31)), .inl x1, .inr (some a0)], M)) sm_a198_111 rfl rfl rfl ?_
  refine ru_go (t := (114, [some (.inr (some a0)), some (.inl x1), some (.inl x2), some (.inl x3), some (.inl x4), some (.inl x5), some (.inl x6), z7, z8], [.inl x4, .inl (x3 &&& 65535), .inl (x6 &&& 255), .inl (x6 >>> (8 &&& 31)), .inl x1, .inr (some a0)], M)) sm_a198_112 rfl rfl rfl ?_
  refine ru_go (t := (117, [some (.inr (some a0)), some (.inl x1), some (.inl x2), some (.inl x3), some (.inl x4), some (.inl x5), some (.inl x6), z7, z8], [.inl 65535, .inl x4, .inl (x3 &&& 65535), .inl (x6 &&& 255), .inl (x6 >>> (8 &&& 31)), .inl x1, .inr (some a0)], M)) sm_a198_114 rfl rfl (st_ldc_w (by decide)) ?_
  refine ru_go (t := (118, [some (.inr (some a0)), some (.inl x1), some (.inl x2), some (.inl x3), some (.inl x4), some (.inl x5), some (.inl x6), z7, z8], [.inl (x4 &&& 65535), .inl (x3 &&& 65535), .inl (x6 &&& 255), .inl (x6 >>> (8 &&& 31)), .inl x1, .inr (some a0)], M)) sm_a198_117 rfl rfl rfl ?_
  refine ru_go (t := (120, [some (.inr (some a0)), some (.inl x1), some (.inl x2), some (.inl x3), some (.inl x4), some (.inl x5), some (.inl x6), z7, z8], [.inl x5, .inl (x4 &&& 65535), .inl (x3 &&& 65535), .inl (x6 &&& 255), .inl (x6 >>> (8 &&& 31)), .inl x1, .inr (some a0)], M)) sm_a198_118 rfl rfl rfl ?_
  obtain ⟨h_1, h⟩ := h
  exact ru_call (p := 123) sm_a198_120 rfl (sc_virt (Or.inl rfl) rfl rfl h_1 (Nat.le_of_ble_eq_true rfl)) rfl h
theorem bb_198_123 {d : Nat} {M : sm_M} {Q : Option sm_V → sm_M → Prop} {a0 : Nat} {x1 : Int32} {x2 : Int32} {x3 : Int32} {x4 : Int32} {x5 : Int32} {x6 : Int32} {z7 : Option sm_V} {z8 : Option sm_V} {y0 : Int32}
    (h : ((32768 ≤ x6 → Q (some (.inl y0)) M) ∧ (¬ (32768 ≤ x6) → sm_Run (d + 1) 198 136 [some (.inr (some a0)), some (.inl x1), some (.inl x2), some (.inl x3), some (.inl x4), some (.inl x5), some (.inl x6), some (.inl y0), some (.inl 0)] [] M Q))) :
    sm_Run (d + 1) 198 123 [some (.inr (some a0)), some (.inl x1), some (.inl x2), some (.inl x3), some (.inl x4), some (.inl x5), some (.inl x6), z7, z8] [.inl y0] M Q := by
  refine ru_go (t := (125, [some (.inr (some a0)), some (.inl x1), some (.inl x2), some (.inl x3), some (.inl x4), some (.inl x5), some (.inl x6), some (.inl y0), z8], [], M)) sm_a198_123 rfl rfl rfl ?_
  refine ru_go (t := (127, [some (.inr (some a0)), some (.inl x1), some (.inl x2), some (.inl x3), some (.inl x4), some (.inl x5), some (.inl x6), some (.inl y0), z8], [.inl x6], M)) sm_a198_125 rfl rfl rfl ?_
  refine ru_go (t := (130, [some (.inr (some a0)), some (.inl x1), some (.inl x2), some (.inl x3), some (.inl x4), some (.inl x5), some (.inl x6), some (.inl y0), z8], [.inl 32768, .inl x6], M)) sm_a198_127 rfl rfl (st_ldc_w (by decide)) ?_
  refine ru_icmp (pc := 130) (p := 175) (p2 := 133) sm_a198_130 (by decide) rfl ⟨fun hc_1 => ?_, fun hc_1 => ?_⟩
  · have h := h.1 hc_1
    refine ru_go (t := (177, [some (.inr (some a0)), some (.inl x1), some (.inl x2), some (.inl x3), some (.inl x4), some (.inl x5), some (.inl x6), some (.inl y0), z8], [.inl y0], M)) sm_a198_175 rfl rfl rfl ?_
    exact ru_ret sm_a198_177 rfl h
  · have h := h.2 hc_1
    refine ru_go (t := (134, [some (.inr (some a0)), some (.inl x1), some (.inl x2), some (.inl x3), some (.inl x4), some (.inl x5), some (.inl x6), some (.inl y0), z8], [.inl 0], M)) sm_a198_133 rfl rfl (st_iconst (by decide)) ?_
    refine ru_go (t := (136, [some (.inr (some a0)), some (.inl x1), some (.inl x2), some (.inl x3), some (.inl x4), some (.inl x5), some (.inl x6), some (.inl y0), some (.inl 0)], [], M)) sm_a198_134 rfl rfl rfl ?_
    exact h
theorem bb_198_136 {d : Nat} {M : sm_M} {Q : Option sm_V → sm_M → Prop} {a0 : Nat} {x1 : Int32} {x2 : Int32} {x3 : Int32} {x4 : Int32} {x5 : Int32} {x6 : Int32} {x7 : Int32} {x8 : Int32}
    (h : ((x5 ≤ x8 → sm_K M a0 = 39 ∧ sm_Run d 154 0 (sm_ent 154 [.inr (some a0), .inl x5]) [] M (fun v M1 => sm_Run (d + 1) 198 175 [some (.inr (some a0)), some (.inl x1), some (.inl x2), some (.inl x3), some (.inl x4), some (.inl x5), some (.inl x6), some (.inl x7), some (.inl x8)] (v.toList ++ []) M1 Q)) ∧ (¬ (x5 ≤ x8) → sm_K M a0 = 39 ∧ ∃ b_4, sm_R M a0 2 = some b_4 ∧ sm_iA M b_4 ∧ sm_in_ M b_4 x8 ∧ ∃ b_8, sm_R M a0 81 = some b_8 ∧ sm_wA 1 M b_8 ∧ sm_in_ M b_8 ((100 * x7) + x8) ∧ sm_Run (d + 1) 198 136 [some (.inr (some a0)), some (.inl x1), some (.inl x2), some (.inl x3), some (.inl x4), some (.inl x5), some (.inl x6), some (.inl x7), some (.inl (x8 + 1))] [] (sm_putI M b_8 ((100 * x7) + x8).toNatClampNeg (sm_I M b_4 (x8).toNatClampNeg)) Q))) :
    sm_Run (d + 1) 198 136 [some (.inr (some a0)), some (.inl x1), some (.inl x2), some (.inl x3), some (.inl x4), some (.inl x5), some (.inl x6), some (.inl x7), some (.inl x8)] [] M Q := by
  refine ru_go (t := (138, [some (.inr (some a0)), some (.inl x1), some (.inl x2), some (.inl x3), some (.inl x4), some (.inl x5), some (.inl x6), some (.inl x7), some (.inl x8)], [.inl x8], M)) sm_a198_136 rfl rfl rfl ?_
  refine ru_go (t := (140, [some (.inr (some a0)), some (.inl x1), some (.inl x2), some (.inl x3), some (.inl x4), some (.inl x5), some (.inl x6), some (.inl x7), some (.inl x8)], [.inl x5, .inl x8], M)) sm_a198_138 rfl rfl rfl ?_
  refine ru_icmp (pc := 140) (p := 169) (p2 := 143) sm_a198_140 (by decide) rfl ⟨fun hc_1 => ?_, fun hc_1 => ?_⟩
  · have h := h.1 hc_1
    refine ru_go (t := (170, [some (.inr (some a0)), some (.inl x1), some (.inl x2), some (.inl x3), some (.inl x4), some (.inl x5), some (.inl x6), some (.inl x7), some (.inl x8)], [.inr (some a0)], M)) sm_a198_169 rfl rfl rfl ?_
    refine ru_go (t := (172, [some (.inr (some a0)), some (.inl x1), some (.inl x2), some (.inl x3), some (.inl x4), some (.inl x5), some (.inl x6), some (.inl x7), some (.inl x8)], [.inl x5, .inr (some a0)], M)) sm_a198_170 rfl rfl rfl ?_
    obtain ⟨h_2, h⟩ := h
    exact ru_call (p := 175) sm_a198_172 rfl (sc_virt (Or.inl rfl) rfl rfl h_2 (Nat.le_of_ble_eq_true rfl)) rfl h
  · have h := h.2 hc_1
    refine ru_go (t := (144, [some (.inr (some a0)), some (.inl x1), some (.inl x2), some (.inl x3), some (.inl x4), some (.inl x5), some (.inl x6), some (.inl x7), some (.inl x8)], [.inr (some a0)], M)) sm_a198_143 rfl rfl rfl ?_
    obtain ⟨h_3, h⟩ := h
    refine ru_go (t := (147, [some (.inr (some a0)), some (.inl x1), some (.inl x2), some (.inl x3), some (.inl x4), some (.inl x5), some (.inl x6), some (.inl x7), some (.inl x8)], [.inr (sm_R M a0 81)], M)) sm_a198_144 rfl rfl (st_getR h_3 rfl rfl) ?_
    refine ru_go (t := (149, [some (.inr (some a0)), some (.inl x1), some (.inl x2), some (.inl x3), some (.inl x4), some (.inl x5), some (.inl x6), some (.inl x7), some (.inl x8)], [.inl 100, .inr (sm_R M a0 81)], M)) sm_a198_147 rfl rfl (st_bipush (by decide)) ?_
    refine ru_go (t := (151, [some (.inr (some a0)), some (.inl x1), some (.inl x2), some (.inl x3), some (.inl x4), some (.inl x5), some (.inl x6), some (.inl x7), some (.inl x8)], [.inl x7, .inl 100, .inr (sm_R M a0 81)], M)) sm_a198_149 rfl rfl rfl ?_
    refine ru_go (t := (152, [some (.inr (some a0)), some (.inl x1), some (.inl x2), some (.inl x3), some (.inl x4), some (.inl x5), some (.inl x6), some (.inl x7), some (.inl x8)], [.inl (100 * x7), .inr (sm_R M a0 81)], M)) sm_a198_151 rfl rfl rfl ?_
    refine ru_go (t := (154, [some (.inr (some a0)), some (.inl x1), some (.inl x2), some (.inl x3), some (.inl x4), some (.inl x5), some (.inl x6), some (.inl x7), some (.inl x8)], [.inl x8, .inl (100 * x7), .inr (sm_R M a0 81)], M)) sm_a198_152 rfl rfl rfl ?_
    refine ru_go (t := (155, [some (.inr (some a0)), some (.inl x1), some (.inl x2), some (.inl x3), some (.inl x4), some (.inl x5), some (.inl x6), some (.inl x7), some (.inl x8)], [.inl ((100 * x7) + x8), .inr (sm_R M a0 81)], M)) sm_a198_154 rfl rfl rfl ?_
    refine ru_go (t := (156, [some (.inr (some a0)), some (.inl x1), some (.inl x2), some (.inl x3), some (.inl x4), some (.inl x5), some (.inl x6), some (.inl x7), some (.inl x8)], [.inr (some a0), .inl ((100 * x7) + x8), .inr (sm_R M a0 81)], M)) sm_a198_155 rfl rfl rfl ?_
    refine ru_go (t := (159, [some (.inr (some a0)), some (.inl x1), some (.inl x2), some (.inl x3), some (.inl x4), some (.inl x5), some (.inl x6), some (.inl x7), some (.inl x8)], [.inr (sm_R M a0 2), .inl ((100 * x7) + x8), .inr (sm_R M a0 81)], M)) sm_a198_156 rfl rfl (st_getR h_3 rfl rfl) ?_
    refine ru_go (t := (161, [some (.inr (some a0)), some (.inl x1), some (.inl x2), some (.inl x3), some (.inl x4), some (.inl x5), some (.inl x6), some (.inl x7), some (.inl x8)], [.inl x8, .inr (sm_R M a0 2), .inl ((100 * x7) + x8), .inr (sm_R M a0 81)], M)) sm_a198_159 rfl rfl rfl ?_
    obtain ⟨b_4, hb_5, h⟩ := h
    rw [hb_5]
    obtain ⟨h_6, h⟩ := h
    obtain ⟨h_7, h⟩ := h
    refine ru_go (t := (162, [some (.inr (some a0)), some (.inl x1), some (.inl x2), some (.inl x3), some (.inl x4), some (.inl x5), some (.inl x6), some (.inl x7), some (.inl x8)], [.inl (sm_I M b_4 (x8).toNatClampNeg), .inl ((100 * x7) + x8), .inr (sm_R M a0 81)], M)) sm_a198_161 rfl rfl (st_iald h_6 h_7) ?_
    obtain ⟨b_8, hb_9, h⟩ := h
    rw [hb_9]
    obtain ⟨h_10, h⟩ := h
    obtain ⟨h_11, h⟩ := h
    refine ru_go (t := (163, [some (.inr (some a0)), some (.inl x1), some (.inl x2), some (.inl x3), some (.inl x4), some (.inl x5), some (.inl x6), some (.inl x7), some (.inl x8)], [], sm_putI M b_8 ((100 * x7) + x8).toNatClampNeg (sm_I M b_4 (x8).toNatClampNeg))) sm_a198_162 rfl rfl (st_iast h_10 h_11) ?_
    refine ru_go (t := (166, [some (.inr (some a0)), some (.inl x1), some (.inl x2), some (.inl x3), some (.inl x4), some (.inl x5), some (.inl x6), some (.inl x7), some (.inl (x8 + 1))], [], sm_putI M b_8 ((100 * x7) + x8).toNatClampNeg (sm_I M b_4 (x8).toNatClampNeg))) sm_a198_163 rfl rfl (st_iinc rfl (by decide)) ?_
    refine ru_go (t := (136, [some (.inr (some a0)), some (.inl x1), some (.inl x2), some (.inl x3), some (.inl x4), some (.inl x5), some (.inl x6), some (.inl x7), some (.inl (x8 + 1))], [], sm_putI M b_8 ((100 * x7) + x8).toNatClampNeg (sm_I M b_4 (x8).toNatClampNeg))) sm_a198_166 rfl rfl (st_goto (pc := 166) (by decide)) ?_
    exact h
theorem bb_198_175 {d : Nat} {M : sm_M} {Q : Option sm_V → sm_M → Prop} {a0 : Nat} {x1 : Int32} {x2 : Int32} {x3 : Int32} {x4 : Int32} {x5 : Int32} {x6 : Int32} {x7 : Int32} {z8 : Option sm_V}
    (h : Q (some (.inl x7)) M) :
    sm_Run (d + 1) 198 175 [some (.inr (some a0)), some (.inl x1), some (.inl x2), some (.inl x3), some (.inl x4), some (.inl x5), some (.inl x6), some (.inl x7), z8] [] M Q := by
  refine ru_go (t := (177, [some (.inr (some a0)), some (.inl x1), some (.inl x2), some (.inl x3), some (.inl x4), some (.inl x5), some (.inl x6), some (.inl x7), z8], [.inl x7], M)) sm_a198_175 rfl rfl rfl ?_
  exact ru_ret sm_a198_177 rfl h

/-! WireBusModel.frames:(I)I -/
theorem sm_a199_0 : sm_at 199 0 = some (.iload_n 1, 1, (0, 0, 0, 0)) := by decide +kernel
theorem sm_a199_1 : sm_at 199 1 = some (.iconst 1, 1, (0, 0, 0, 0)) := by decide +kernel
theorem sm_a199_2 : sm_at 199 2 = some (.if_icmp .lt 10, 3, (0, 0, 0, 0)) := by decide +kernel
theorem sm_a199_5 : sm_at 199 5 = some (.iload_n 1, 1, (0, 0, 0, 0)) := by decide +kernel
theorem sm_a199_6 : sm_at 199 6 = some (.sipush 200, 3, (0, 0, 0, 0)) := by decide +kernel
theorem sm_a199_9 : sm_at 199 9 = some (.if_icmp .le 5, 3, (0, 0, 0, 0)) := by decide +kernel
theorem sm_a199_12 : sm_at 199 12 = some (.iconst (-1), 1, (0, 0, 0, 0)) := by decide +kernel
theorem sm_a199_13 : sm_at 199 13 = some (.ireturn, 1, (0, 0, 0, 0)) := by decide +kernel
theorem sm_a199_14 : sm_at 199 14 = some (.aload_n 0, 1, (0, 0, 0, 0)) := by decide +kernel
theorem sm_a199_15 : sm_at 199 15 = some (.getfield 256, 3, (12, 32, 0, 1215)) := by decide +kernel
theorem sm_a199_18 : sm_at 199 18 = some (.istore_n 2, 1, (0, 0, 0, 0)) := by decide +kernel
theorem sm_a199_19 : sm_at 199 19 = some (.iconst 0, 1, (0, 0, 0, 0)) := by decide +kernel
theorem sm_a199_20 : sm_at 199 20 = some (.istore_n 3, 1, (0, 0, 0, 0)) := by decide +kernel
theorem sm_a199_21 : sm_at 199 21 = some (.iload_n 3, 1, (0, 0, 0, 0)) := by decide +kernel
theorem sm_a199_22 : sm_at 199 22 = some (.iload_n 1, 1, (0, 0, 0, 0)) := by decide +kernel
theorem sm_a199_23 : sm_at 199 23 = some (.if_icmp .ge 13, 3, (0, 0, 0, 0)) := by decide +kernel
theorem sm_a199_26 : sm_at 199 26 = some (.aload_n 0, 1, (0, 0, 0, 0)) := by decide +kernel
theorem sm_a199_27 : sm_at 199 27 = some (.invokevirtual 419, 3, (10, 191, 12, 1519)) := by decide +kernel
theorem sm_a199_30 : sm_at 199 30 = some (.iinc 3 1, 3, (0, 0, 0, 0)) := by decide +kernel
theorem sm_a199_33 : sm_at 199 33 = some (.goto (-12), 3, (0, 0, 0, 0)) := by decide +kernel
theorem sm_a199_36 : sm_at 199 36 = some (.aload_n 0, 1, (0, 0, 0, 0)) := by decide +kernel
theorem sm_a199_37 : sm_at 199 37 = some (.getfield 256, 3, (12, 32, 0, 1215)) := by decide +kernel
theorem sm_a199_40 : sm_at 199 40 = some (.iload_n 2, 1, (0, 0, 0, 0)) := by decide +kernel
theorem sm_a199_41 : sm_at 199 41 = some (.isub, 1, (0, 0, 0, 0)) := by decide +kernel
theorem sm_a199_42 : sm_at 199 42 = some (.ireturn, 1, (0, 0, 0, 0)) := by decide +kernel
theorem bb_199_0 {d : Nat} {M : sm_M} {Q : Option sm_V → sm_M → Prop} {a0 : Nat} {x1 : Int32} {z2 : Option sm_V} {z3 : Option sm_V}
    (h : ((x1 < 1 → Q (some (.inl (-1))) M) ∧ (¬ (x1 < 1) → ((x1 ≤ 200 → sm_K M a0 = 39 ∧ sm_Run (d + 1) 199 21 [some (.inr (some a0)), some (.inl x1), some (.inl (sm_I M a0 32)), some (.inl 0)] [] M Q) ∧ (¬ (x1 ≤ 200) → Q (some (.inl (-1))) M))))) :
    sm_Run (d + 1) 199 0 [some (.inr (some a0)), some (.inl x1), z2, z3] [] M Q := by
  refine ru_go (t := (1, [some (.inr (some a0)), some (.inl x1), z2, z3], [.inl x1], M)) sm_a199_0 rfl rfl rfl ?_
  refine ru_go (t := (2, [some (.inr (some a0)), some (.inl x1), z2, z3], [.inl 1, .inl x1], M)) sm_a199_1 rfl rfl (st_iconst (by decide)) ?_
  refine ru_icmp (pc := 2) (p := 12) (p2 := 5) sm_a199_2 (by decide) rfl ⟨fun hc_1 => ?_, fun hc_1 => ?_⟩
  · have h := h.1 hc_1
    refine ru_go (t := (13, [some (.inr (some a0)), some (.inl x1), z2, z3], [.inl (-1)], M)) sm_a199_12 rfl rfl (st_iconst (by decide)) ?_
    exact ru_ret sm_a199_13 rfl h
  · have h := h.2 hc_1
    refine ru_go (t := (6, [some (.inr (some a0)), some (.inl x1), z2, z3], [.inl x1], M)) sm_a199_5 rfl rfl rfl ?_
    refine ru_go (t := (9, [some (.inr (some a0)), some (.inl x1), z2, z3], [.inl 200, .inl x1], M)) sm_a199_6 rfl rfl (st_sipush (by decide)) ?_
    refine ru_icmp (pc := 9) (p := 14) (p2 := 12) sm_a199_9 (by decide) rfl ⟨fun hc_2 => ?_, fun hc_2 => ?_⟩
    · have h := h.1 hc_2
      refine ru_go (t := (15, [some (.inr (some a0)), some (.inl x1), z2, z3], [.inr (some a0)], M)) sm_a199_14 rfl rfl rfl ?_
      obtain ⟨h_3, h⟩ := h
      refine ru_go (t := (18, [some (.inr (some a0)), some (.inl x1), z2, z3], [.inl (sm_I M a0 32)], M)) sm_a199_15 rfl rfl (st_getI h_3 rfl) ?_
      refine ru_go (t := (19, [some (.inr (some a0)), some (.inl x1), some (.inl (sm_I M a0 32)), z3], [], M)) sm_a199_18 rfl rfl rfl ?_
      refine ru_go (t := (20, [some (.inr (some a0)), some (.inl x1), some (.inl (sm_I M a0 32)), z3], [.inl 0], M)) sm_a199_19 rfl rfl (st_iconst (by decide)) ?_
      refine ru_go (t := (21, [some (.inr (some a0)), some (.inl x1), some (.inl (sm_I M a0 32)), some (.inl 0)], [], M)) sm_a199_20 rfl rfl rfl ?_
      exact h
    · have h := h.2 hc_2
      refine ru_go (t := (13, [some (.inr (some a0)), some (.inl x1), z2, z3], [.inl (-1)], M)) sm_a199_12 rfl rfl (st_iconst (by decide)) ?_
      exact ru_ret sm_a199_13 rfl h
theorem bb_199_21 {d : Nat} {M : sm_M} {Q : Option sm_V → sm_M → Prop} {a0 : Nat} {x1 : Int32} {x2 : Int32} {x3 : Int32}
    (h : ((x1 ≤ x3 → sm_K M a0 = 39 ∧ Q (some (.inl ((sm_I M a0 32) - x2))) M) ∧ (¬ (x1 ≤ x3) → sm_K M a0 = 39 ∧ sm_Run d 191 0 (sm_ent 191 [.inr (some a0)]) [] M (fun v M1 => sm_Run (d + 1) 199 30 [some (.inr (some a0)), some (.inl x1), some (.inl x2), some (.inl x3)] (v.toList ++ []) M1 Q)))) :
    sm_Run (d + 1) 199 21 [some (.inr (some a0)), some (.inl x1), some (.inl x2), some (.inl x3)] [] M Q := by
  refine ru_go (t := (22, [some (.inr (some a0)), some (.inl x1), some (.inl x2), some (.inl x3)], [.inl x3], M)) sm_a199_21 rfl rfl rfl ?_
  refine ru_go (t := (23, [some (.inr (some a0)), some (.inl x1), some (.inl x2), some (.inl x3)], [.inl x1, .inl x3], M)) sm_a199_22 rfl rfl rfl ?_
  refine ru_icmp (pc := 23) (p := 36) (p2 := 26) sm_a199_23 (by decide) rfl ⟨fun hc_1 => ?_, fun hc_1 => ?_⟩
  · have h := h.1 hc_1
    refine ru_go (t := (37, [some (.inr (some a0)), some (.inl x1), some (.inl x2), some (.inl x3)], [.inr (some a0)], M)) sm_a199_36 rfl rfl rfl ?_
    obtain ⟨h_2, h⟩ := h
    refine ru_go (t := (40, [some (.inr (some a0)), some (.inl x1), some (.inl x2), some (.inl x3)], [.inl (sm_I M a0 32)], M)) sm_a199_37 rfl rfl (st_getI h_2 rfl) ?_
    refine ru_go (t := (41, [some (.inr (some a0)), some (.inl x1), some (.inl x2), some (.inl x3)], [.inl x2, .inl (sm_I M a0 32)], M)) sm_a199_40 rfl rfl rfl ?_
    refine ru_go (t := (42, [some (.inr (some a0)), some (.inl x1), some (.inl x2), some (.inl x3)], [.inl ((sm_I M a0 32) - x2)], M)) sm_a199_41 rfl rfl rfl ?_
    exact ru_ret sm_a199_42 rfl h
  · have h := h.2 hc_1
    refine ru_go (t := (27, [some (.inr (some a0)), some (.inl x1), some (.inl x2), some (.inl x3)], [.inr (some a0)], M)) sm_a199_26 rfl rfl rfl ?_
    obtain ⟨h_3, h⟩ := h
    exact ru_call (p := 30) sm_a199_27 rfl (sc_virt (Or.inl rfl) rfl rfl h_3 (Nat.le_of_ble_eq_true rfl)) rfl h
theorem bb_199_30 {d : Nat} {M : sm_M} {Q : Option sm_V → sm_M → Prop} {a0 : Nat} {x1 : Int32} {x2 : Int32} {x3 : Int32}
    (h : sm_Run (d + 1) 199 21 [some (.inr (some a0)), some (.inl x1), some (.inl x2), some (.inl (x3 + 1))] [] M Q) :
    sm_Run (d + 1) 199 30 [some (.inr (some a0)), some (.inl x1), some (.inl x2), some (.inl x3)] [] M Q := by
  refine ru_go (t := (33, [some (.inr (some a0)), some (.inl x1), some (.inl x2), some (.inl (x3 + 1))], [], M)) sm_a199_30 rfl rfl (st_iinc rfl (by decide)) ?_
  refine ru_go (t := (21, [some (.inr (some a0)), some (.inl x1), some (.inl x2), some (.inl (x3 + 1))], [], M)) sm_a199_33 rfl rfl (st_goto (pc := 33) (by decide)) ?_
  exact h
