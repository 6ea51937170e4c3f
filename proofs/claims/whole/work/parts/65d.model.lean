/-! WireBusModel.request:(I)V -/
theorem sm_a170_0 : sm_at 170 0 = some (.aload_n 0, 1, (0, 0, 0, 0)) := by decide +kernel
theorem sm_a170_1 : sm_at 170 1 = some (.iconst 0, 1, (0, 0, 0, 0)) := by decide +kernel
theorem sm_a170_2 : sm_at 170 2 = some (.invokevirtual 306, 3, (10, 168, 12, 1564)) := by decide +kernel
theorem sm_a170_5 : sm_at 170 5 = some (.istore_n 2, 1, (0, 0, 0, 0)) := by decide +kernel
theorem sm_a170_6 : sm_at 170 6 = some (.aload_n 0, 1, (0, 0, 0, 0)) := by decide +kernel
theorem sm_a170_7 : sm_at 170 7 = some (.iconst 1, 1, (0, 0, 0, 0)) := by decide +kernel
theorem sm_a170_8 : sm_at 170 8 = some (.invokevirtual 306, 3, (10, 168, 12, 1564)) := by decide +kernel
theorem sm_a170_11 : sm_at 170 11 = some (.istore_n 3, 1, (0, 0, 0, 0)) := by decide +kernel
theorem sm_a170_12 : sm_at 170 12 = some (.aload_n 0, 1, (0, 0, 0, 0)) := by decide +kernel
theorem sm_a170_13 : sm_at 170 13 = some (.iconst 2, 1, (0, 0, 0, 0)) := by decide +kernel
theorem sm_a170_14 : sm_at 170 14 = some (.invokevirtual 306, 3, (10, 168, 12, 1564)) := by decide +kernel
theorem sm_a170_17 : sm_at 170 17 = some (.sipush 256, 3, (0, 0, 0, 0)) := by decide +kernel
theorem sm_a170_20 : sm_at 170 20 = some (.aload_n 0, 1, (0, 0, 0, 0)) := by decide +kernel
theorem sm_a170_21 : sm_at 170 21 = some (.iconst 3, 1, (0, 0, 0, 0)) := by decide +kernel
theorem sm_a170_22 : sm_at 170 22 = some (.invokevirtual 306, 3, (10, 168, 12, 1564)) := by decide +kernel
theorem sm_a170_25 : sm_at 170 25 = some (.imul, 1, (0, 0, 0, 0)) := by decide +kernel
theorem sm_a170_26 : sm_at 170 26 = some (.iadd, 1, (0, 0, 0, 0)) := by decide +kernel
theorem sm_a170_27 : sm_at 170 27 = some (.istore 4, 2, (0, 0, 0, 0)) := by decide +kernel
theorem sm_a170_29 : sm_at 170 29 = some (.aload_n 0, 1, (0, 0, 0, 0)) := by decide +kernel
theorem sm_a170_30 : sm_at 170 30 = some (.iconst 4, 1, (0, 0, 0, 0)) := by decide +kernel
theorem sm_a170_31 : sm_at 170 31 = some (.invokevirtual 306, 3, (10, 168, 12, 1564)) := by decide +kernel
theorem sm_a170_34 : sm_at 170 34 = some (.sipush 256, 3, (0, 0, 0, 0)) := by decide +kernel
theorem sm_a170_37 : sm_at 170 37 = some (.aload_n 0, 1, (0, 0, 0, 0)) := by decide +kernel
theorem sm_a170_38 : sm_at 170 38 = some (.iconst 5, 1, (0, 0, 0, 0)) := by decide +kernel
theorem sm_a170_39 : sm_at 170 39 = some (.invokevirtual 306, 3, (10, 168, 12, 1564)) := by decide +kernel
theorem sm_a170_42 : sm_at 170 42 = some (.imul, 1, (0, 0, 0, 0)) := by decide +kernel
theorem sm_a170_43 : sm_at 170 43 = some (.iadd, 1, (0, 0, 0, 0)) := by decide +kernel
theorem sm_a170_44 : sm_at 170 44 = some (.istore 5, 2, (0, 0, 0, 0)) := by decide +kernel
theorem sm_a170_46 : sm_at 170 46 = some (.aload_n 0, 1, (0, 0, 0, 0)) := by decide +kernel
theorem sm_a170_47 : sm_at 170 47 = some (.bipush 6, 2, (0, 0, 0, 0)) := by decide +kernel
theorem sm_a170_49 : sm_at 170 49 = some (.invokevirtual 306, 3, (10, 168, 12, 1564)) := by decide +kernel
theorem sm_a170_52 : sm_at 170 52 = some (.sipush 256, 3, (0, 0, 0, 0)) := by decide +kernel
theorem sm_a170_55 : sm_at 170 55 = some (.aload_n 0, 1, (0, 0, 0, 0)) := by decide +kernel
theorem sm_a170_56 : sm_at 170 56 = some (.bipush 7, 2, (0, 0, 0, 0)) := by decide +kernel
theorem sm_a170_58 : sm_at 170 58 = some (.invokevirtual 306, 3, (10, 168, 12, 1564)) := by decide +kernel
theorem sm_a170_61 : sm_at 170 61 = some (.imul, 1, (0, 0, 0, 0)) := by decide +kernel
theorem sm_a170_62 : sm_at 170 62 = some (.iadd, 1, (0, 0, 0, 0)) := by decide +kernel
theorem sm_a170_63 : sm_at 170 63 = some (.istore 6, 2, (0, 0, 0, 0)) := by decide +kernel
theorem sm_a170_65 : sm_at 170 65 = some (.aload_n 0, 1, (0, 0, 0, 0)) := by decide +kernel
theorem sm_a170_66 : sm_at 170 66 = some (.getfield 68, 3, (12, 21, 0, 1204)) := by decide +kernel
theorem sm_a170_69 : sm_at 170 69 = some (.iload_n 1, 1, (0, 0, 0, 0)) := by decide +kernel
theorem sm_a170_70 : sm_at 170 70 = some (.iconst 1, 1, (0, 0, 0, 0)) := by decide +kernel
theorem sm_a170_71 : sm_at 170 71 = some (.iastore, 1, (1, 0, 0, 0)) := by decide +kernel
theorem sm_a170_72 : sm_at 170 72 = some (.aload_n 0, 1, (0, 0, 0, 0)) := by decide +kernel
theorem sm_a170_73 : sm_at 170 73 = some (.getfield 74, 3, (12, 23, 0, 1206)) := by decide +kernel
theorem sm_a170_76 : sm_at 170 76 = some (.iload_n 1, 1, (0, 0, 0, 0)) := by decide +kernel
theorem sm_a170_77 : sm_at 170 77 = some (.iconst 1, 1, (0, 0, 0, 0)) := by decide +kernel
theorem sm_a170_78 : sm_at 170 78 = some (.iastore, 1, (1, 0, 0, 0)) := by decide +kernel
theorem sm_a170_79 : sm_at 170 79 = some (.aload_n 0, 1, (0, 0, 0, 0)) := by decide +kernel
theorem sm_a170_80 : sm_at 170 80 = some (.getfield 89, 3, (12, 28, 0, 1211)) := by decide +kernel
theorem sm_a170_83 : sm_at 170 83 = some (.iload_n 1, 1, (0, 0, 0, 0)) := by decide +kernel
theorem sm_a170_84 : sm_at 170 84 = some (.iconst (-1), 1, (0, 0, 0, 0)) := by decide +kernel
theorem sm_a170_85 : sm_at 170 85 = some (.iastore, 1, (1, 0, 0, 0)) := by decide +kernel
theorem sm_a170_86 : sm_at 170 86 = some (.aload_n 0, 1, (0, 0, 0, 0)) := by decide +kernel
theorem sm_a170_87 : sm_at 170 87 = some (.getfield 83, 3, (12, 26, 0, 1209)) := by decide +kernel
theorem sm_a170_90 : sm_at 170 90 = some (.iload_n 1, 1, (0, 0, 0, 0)) := by decide +kernel
theorem sm_a170_91 : sm_at 170 91 = some (.iconst 0, 1, (0, 0, 0, 0)) := by decide +kernel
theorem sm_a170_92 : sm_at 170 92 = some (.iastore, 1, (1, 0, 0, 0)) := by decide +kernel
theorem sm_a170_93 : sm_at 170 93 = some (.aload_n 0, 1, (0, 0, 0, 0)) := by decide +kernel
theorem sm_a170_94 : sm_at 170 94 = some (.getfield 80, 3, (12, 25, 0, 1208)) := by decide +kernel
theorem sm_a170_97 : sm_at 170 97 = some (.iload_n 1, 1, (0, 0, 0, 0)) := by decide +kernel
theorem sm_a170_98 : sm_at 170 98 = some (.iconst 0, 1, (0, 0, 0, 0)) := by decide +kernel
theorem sm_a170_99 : sm_at 170 99 = some (.iastore, 1, (1, 0, 0, 0)) := by decide +kernel
theorem sm_a170_100 : sm_at 170 100 = some (.aload_n 0, 1, (0, 0, 0, 0)) := by decide +kernel
theorem sm_a170_101 : sm_at 170 101 = some (.getfield 86, 3, (12, 27, 0, 1210)) := by decide +kernel
theorem sm_a170_104 : sm_at 170 104 = some (.iload_n 1, 1, (0, 0, 0, 0)) := by decide +kernel
theorem sm_a170_105 : sm_at 170 105 = some (.iconst 0, 1, (0, 0, 0, 0)) := by decide +kernel
theorem sm_a170_106 : sm_at 170 106 = some (.bastore, 1, (1, 0, 0, 0)) := by decide +kernel
theorem sm_a170_107 : sm_at 170 107 = some (.aload_n 0, 1, (0, 0, 0, 0)) := by decide +kernel
theorem sm_a170_108 : sm_at 170 108 = some (.getfield 77, 3, (12, 24, 0, 1207)) := by decide +kernel
theorem sm_a170_111 : sm_at 170 111 = some (.iload_n 1, 1, (0, 0, 0, 0)) := by decide +kernel
theorem sm_a170_112 : sm_at 170 112 = some (.iload 6, 2, (0, 0, 0, 0)) := by decide +kernel
theorem sm_a170_114 : sm_at 170 114 = some (.iastore, 1, (1, 0, 0, 0)) := by decide +kernel
theorem sm_a170_115 : sm_at 170 115 = some (.aload_n 0, 1, (0, 0, 0, 0)) := by decide +kernel
theorem sm_a170_116 : sm_at 170 116 = some (.getfield 71, 3, (12, 22, 0, 1205)) := by decide +kernel
theorem sm_a170_119 : sm_at 170 119 = some (.iload_n 1, 1, (0, 0, 0, 0)) := by decide +kernel
theorem sm_a170_120 : sm_at 170 120 = some (.iconst 0, 1, (0, 0, 0, 0)) := by decide +kernel
theorem sm_a170_121 : sm_at 170 121 = some (.bastore, 1, (1, 0, 0, 0)) := by decide +kernel
theorem sm_a170_122 : sm_at 170 122 = some (.aload_n 0, 1, (0, 0, 0, 0)) := by decide +kernel
theorem sm_a170_123 : sm_at 170 123 = some (.getfield 95, 3, (12, 30, 0, 1213)) := by decide +kernel
theorem sm_a170_126 : sm_at 170 126 = some (.iload_n 1, 1, (0, 0, 0, 0)) := by decide +kernel
theorem sm_a170_127 : sm_at 170 127 = some (.iconst (-1), 1, (0, 0, 0, 0)) := by decide +kernel
theorem sm_a170_128 : sm_at 170 128 = some (.iastore, 1, (1, 0, 0, 0)) := by decide +kernel
theorem sm_a170_129 : sm_at 170 129 = some (.iload_n 2, 1, (0, 0, 0, 0)) := by decide +kernel
theorem sm_a170_130 : sm_at 170 130 = some (.sipush 128, 3, (0, 0, 0, 0)) := by decide +kernel
theorem sm_a170_133 : sm_at 170 133 = some (.if_icmp .lt 26, 3, (0, 0, 0, 0)) := by decide +kernel
theorem sm_a170_136 : sm_at 170 136 = some (.aload_n 0, 1, (0, 0, 0, 0)) := by decide +kernel
theorem sm_a170_137 : sm_at 170 137 = some (.iload_n 1, 1, (0, 0, 0, 0)) := by decide +kernel
theorem sm_a170_138 : sm_at 170 138 = some (.sipush 256, 3, (0, 0, 0, 0)) := by decide +kernel
theorem sm_a170_141 : sm_at 170 141 = some (.iload_n 2, 1, (0, 0, 0, 0)) := by decide +kernel
theorem sm_a170_142 : sm_at 170 142 = some (.imul, 1, (0, 0, 0, 0)) := by decide +kernel
theorem sm_a170_143 : sm_at 170 143 = some (.iload_n 3, 1, (0, 0, 0, 0)) := by decide +kernel
theorem sm_a170_144 : sm_at 170 144 = some (.iadd, 1, (0, 0, 0, 0)) := by decide +kernel
theorem sm_a170_145 : sm_at 170 145 = some (.iload 4, 2, (0, 0, 0, 0)) := by decide +kernel
theorem sm_a170_147 : sm_at 170 147 = some (.iload 5, 2, (0, 0, 0, 0)) := by decide +kernel
theorem sm_a170_149 : sm_at 170 149 = some (.invokevirtual 310, 3, (10, 171, 12, 1568)) := by decide +kernel
theorem sm_a170_152 : sm_at 170 152 = some (.ifCond .eq 7, 3, (0, 0, 0, 0)) := by decide +kernel
theorem sm_a170_155 : sm_at 170 155 = some (.iconst 1, 1, (0, 0, 0, 0)) := by decide +kernel
theorem sm_a170_156 : sm_at 170 156 = some (.goto 4, 3, (0, 0, 0, 0)) := by decide +kernel
theorem sm_a170_159 : sm_at 170 159 = some (.iconst 0, 1, (0, 0, 0, 0)) := by decide +kernel
theorem sm_a170_160 : sm_at 170 160 = some (.istore 7, 2, (0, 0, 0, 0)) := by decide +kernel
theorem sm_a170_162 : sm_at 170 162 = some (.iload 7, 2, (0, 0, 0, 0)) := by decide +kernel
theorem sm_a170_164 : sm_at 170 164 = some (.ifCond .eq 66, 3, (0, 0, 0, 0)) := by decide +kernel
theorem sm_a170_167 : sm_at 170 167 = some (.aload_n 0, 1, (0, 0, 0, 0)) := by decide +kernel
theorem sm_a170_168 : sm_at 170 168 = some (.getfield 80, 3, (12, 25, 0, 1208)) := by decide +kernel
theorem sm_a170_171 : sm_at 170 171 = some (.iload_n 1, 1, (0, 0, 0, 0)) := by decide +kernel
theorem sm_a170_172 : sm_at 170 172 = some (.aload_n 0, 1, (0, 0, 0, 0)) := by decide +kernel
theorem sm_a170_173 : sm_at 170 173 = some (.getfield 80, 3, (12, 25, 0, 1208)) := by decide +kernel
theorem sm_a170_176 : sm_at 170 176 = some (.iload_n 1, 1, (0, 0, 0, 0)) := by decide +kernel
theorem sm_a170_177 : sm_at 170 177 = some (.iaload, 1, (0, 0, 0, 0)) := by decide +kernel
theorem sm_a170_178 : sm_at 170 178 = some (.iload 6, 2, (0, 0, 0, 0)) := by decide +kernel
theorem sm_a170_180 : sm_at 170 180 = some (.if_icmp .ge 12, 3, (0, 0, 0, 0)) := by decide +kernel
theorem sm_a170_183 : sm_at 170 183 = some (.aload_n 0, 1, (0, 0, 0, 0)) := by decide +kernel
theorem sm_a170_184 : sm_at 170 184 = some (.getfield 80, 3, (12, 25, 0, 1208)) := by decide +kernel
theorem sm_a170_187 : sm_at 170 187 = some (.iload_n 1, 1, (0, 0, 0, 0)) := by decide +kernel
theorem sm_a170_188 : sm_at 170 188 = some (.iaload, 1, (0, 0, 0, 0)) := by decide +kernel
theorem sm_a170_189 : sm_at 170 189 = some (.goto 5, 3, (0, 0, 0, 0)) := by decide +kernel
theorem sm_a170_192 : sm_at 170 192 = some (.iload 6, 2, (0, 0, 0, 0)) := by decide +kernel
theorem sm_a170_194 : sm_at 170 194 = some (.iastore, 1, (1, 0, 0, 0)) := by decide +kernel
theorem sm_a170_195 : sm_at 170 195 = some (.aload_n 0, 1, (0, 0, 0, 0)) := by decide +kernel
theorem sm_a170_196 : sm_at 170 196 = some (.getfield 71, 3, (12, 22, 0, 1205)) := by decide +kernel
theorem sm_a170_199 : sm_at 170 199 = some (.iload_n 1, 1, (0, 0, 0, 0)) := by decide +kernel
theorem sm_a170_200 : sm_at 170 200 = some (.iload 6, 2, (0, 0, 0, 0)) := by decide +kernel
theorem sm_a170_202 : sm_at 170 202 = some (.ifCond .le 7, 3, (0, 0, 0, 0)) := by decide +kernel
theorem sm_a170_205 : sm_at 170 205 = some (.iconst 1, 1, (0, 0, 0, 0)) := by decide +kernel
theorem sm_a170_206 : sm_at 170 206 = some (.goto 4, 3, (0, 0, 0, 0)) := by decide +kernel
theorem sm_a170_209 : sm_at 170 209 = some (.iconst 0, 1, (0, 0, 0, 0)) := by decide +kernel
theorem sm_a170_210 : sm_at 170 210 = some (.bastore, 1, (1, 0, 0, 0)) := by decide +kernel
theorem sm_a170_211 : sm_at 170 211 = some (.aload_n 0, 1, (0, 0, 0, 0)) := by decide +kernel
theorem sm_a170_212 : sm_at 170 212 = some (.getfield 68, 3, (12, 21, 0, 1204)) := by decide +kernel
theorem sm_a170_215 : sm_at 170 215 = some (.iload_n 1, 1, (0, 0, 0, 0)) := by decide +kernel
theorem sm_a170_216 : sm_at 170 216 = some (.iload 6, 2, (0, 0, 0, 0)) := by decide +kernel
theorem sm_a170_218 : sm_at 170 218 = some (.ifCond .le 7, 3, (0, 0, 0, 0)) := by decide +kernel
theorem sm_a170_221 : sm_at 170 221 = some (.iconst 2, 1, (0, 0, 0, 0)) := by decide +kernel
theorem sm_a170_222 : sm_at 170 222 = some (.goto 4, 3, (0, 0, 0, 0)) := by decide +kernel
theorem sm_a170_225 : sm_at 170 225 = some (.iconst 4, 1, (0, 0, 0, 0)) := by decide +kernel
theorem sm_a170_226 : sm_at 170 226 = some (.iastore, 1, (1, 0, 0, 0)) := by decide +kernel
theorem sm_a170_227 : sm_at 170 227 = some (.goto 72, 3, (0, 0, 0, 0)) := by decide +kernel
theorem sm_a170_230 : sm_at 170 230 = some (.iload_n 2, 1, (0, 0, 0, 0)) := by decide +kernel
theorem sm_a170_231 : sm_at 170 231 = some (.bipush 64, 2, (0, 0, 0, 0)) := by decide +kernel
theorem sm_a170_233 : sm_at 170 233 = some (.if_icmp .ne 45, 3, (0, 0, 0, 0)) := by decide +kernel
theorem sm_a170_236 : sm_at 170 236 = some (.iload_n 3, 1, (0, 0, 0, 0)) := by decide +kernel
theorem sm_a170_237 : sm_at 170 237 = some (.iconst 1, 1, (0, 0, 0, 0)) := by decide +kernel
theorem sm_a170_238 : sm_at 170 238 = some (.if_icmp .ne 40, 3, (0, 0, 0, 0)) := by decide +kernel
theorem sm_a170_241 : sm_at 170 241 = some (.iload 4, 2, (0, 0, 0, 0)) := by decide +kernel
theorem sm_a170_243 : sm_at 170 243 = some (.iload 6, 2, (0, 0, 0, 0)) := by decide +kernel
theorem sm_a170_245 : sm_at 170 245 = some (.iadd, 1, (0, 0, 0, 0)) := by decide +kernel
theorem sm_a170_246 : sm_at 170 246 = some (.bipush 64, 2, (0, 0, 0, 0)) := by decide +kernel
theorem sm_a170_248 : sm_at 170 248 = some (.if_icmp .gt 30, 3, (0, 0, 0, 0)) := by decide +kernel
theorem sm_a170_251 : sm_at 170 251 = some (.aload_n 0, 1, (0, 0, 0, 0)) := by decide +kernel
theorem sm_a170_252 : sm_at 170 252 = some (.getfield 98, 3, (12, 31, 0, 1214)) := by decide +kernel
theorem sm_a170_255 : sm_at 170 255 = some (.iload_n 1, 1, (0, 0, 0, 0)) := by decide +kernel
theorem sm_a170_256 : sm_at 170 256 = some (.iload 4, 2, (0, 0, 0, 0)) := by decide +kernel
theorem sm_a170_258 : sm_at 170 258 = some (.iastore, 1, (1, 0, 0, 0)) := by decide +kernel
theorem sm_a170_259 : sm_at 170 259 = some (.aload_n 0, 1, (0, 0, 0, 0)) := by decide +kernel
theorem sm_a170_260 : sm_at 170 260 = some (.getfield 68, 3, (12, 21, 0, 1204)) := by decide +kernel
theorem sm_a170_263 : sm_at 170 263 = some (.iload_n 1, 1, (0, 0, 0, 0)) := by decide +kernel
theorem sm_a170_264 : sm_at 170 264 = some (.iload 6, 2, (0, 0, 0, 0)) := by decide +kernel
theorem sm_a170_266 : sm_at 170 266 = some (.ifCond .le 7, 3, (0, 0, 0, 0)) := by decide +kernel
theorem sm_a170_269 : sm_at 170 269 = some (.iconst 3, 1, (0, 0, 0, 0)) := by decide +kernel
theorem sm_a170_270 : sm_at 170 270 = some (.goto 4, 3, (0, 0, 0, 0)) := by decide +kernel
theorem sm_a170_273 : sm_at 170 273 = some (.iconst 4, 1, (0, 0, 0, 0)) := by decide +kernel
theorem sm_a170_274 : sm_at 170 274 = some (.iastore, 1, (1, 0, 0, 0)) := by decide +kernel
theorem sm_a170_275 : sm_at 170 275 = some (.goto 24, 3, (0, 0, 0, 0)) := by decide +kernel
theorem sm_a170_278 : sm_at 170 278 = some (.iload 6, 2, (0, 0, 0, 0)) := by decide +kernel
theorem sm_a170_280 : sm_at 170 280 = some (.ifCond .ne 19, 3, (0, 0, 0, 0)) := by decide +kernel
theorem sm_a170_283 : sm_at 170 283 = some (.aload_n 0, 1, (0, 0, 0, 0)) := by decide +kernel
theorem sm_a170_284 : sm_at 170 284 = some (.iload_n 1, 1, (0, 0, 0, 0)) := by decide +kernel
theorem sm_a170_285 : sm_at 170 285 = some (.sipush 256, 3, (0, 0, 0, 0)) := by decide +kernel
theorem sm_a170_288 : sm_at 170 288 = some (.iload_n 2, 1, (0, 0, 0, 0)) := by decide +kernel
theorem sm_a170_289 : sm_at 170 289 = some (.imul, 1, (0, 0, 0, 0)) := by decide +kernel
theorem sm_a170_290 : sm_at 170 290 = some (.iload_n 3, 1, (0, 0, 0, 0)) := by decide +kernel
theorem sm_a170_291 : sm_at 170 291 = some (.iadd, 1, (0, 0, 0, 0)) := by decide +kernel
theorem sm_a170_292 : sm_at 170 292 = some (.iload 4, 2, (0, 0, 0, 0)) := by decide +kernel
theorem sm_a170_294 : sm_at 170 294 = some (.iload 5, 2, (0, 0, 0, 0)) := by decide +kernel
theorem sm_a170_296 : sm_at 170 296 = some (.invokevirtual 314, 3, (10, 174, 12, 1588)) := by decide +kernel
theorem sm_a170_299 : sm_at 170 299 = some (.return_, 1, (0, 0, 0, 0)) := by decide +kernel
theorem bb_170_0 {d : Nat} {M : sm_M} {Q : Option sm_V → sm_M → Prop} {a0 : Nat} {x1 : Int32} {z2 : Option sm_V} {z3 : Option sm_V} {z4 : Option sm_V} {z5 : Option sm_V} {z6 : Option sm_V} {z7 : Option sm_V}
    (h : sm_K M a0 = 39 ∧ sm_Run d 168 0 (sm_ent 168 [.inr (some a0), .inl 0]) [] M (fun v M1 => sm_Run (d + 1) 170 5 [some (.inr (some a0)), some (.inl x1), z2, z3, z4, z5, z6, z7] (v.toList ++ []) M1 Q)) :
    sm_Run (d + 1) 170 0 [some (.inr (some a0)), some (.inl x1), z2, z3, z4, z5, z6, z7] [] M Q := by
  refine ru_go (t := (1, [some (.inr (some a0)), some (.inl x1), z2, z3, z4, z5, z6, z7], [.inr (some a0)], M)) sm_a170_0 rfl rfl rfl ?_
  refine ru_go (t := (2, [some (.inr (some a0)), some (.inl x1), z2, z3, z4, z5, z6, z7], [.inl 0, .inr (some a0)], M)) sm_a170_1 rfl rfl (st_iconst (by decide)) ?_
  obtain ⟨h_1, h⟩ := h
  exact ru_call (p := 5) sm_a170_2 rfl (sc_virt (Or.inl rfl) rfl rfl h_1 (Nat.le_of_ble_eq_true rfl)) rfl h
theorem bb_170_5 {d : Nat} {M : sm_M} {Q : Option sm_V → sm_M → Prop} {a0 : Nat} {x1 : Int32} {z2 : Option sm_V} {z3 : Option sm_V} {z4 : Option sm_V} {z5 : Option sm_V} {z6 : Option sm_V} {z7 : Option sm_V} {y0 : Int32}
    (h : sm_K M a0 = 39 ∧ sm_Run d 168 0 (sm_ent 168 [.inr (some a0), .inl 1]) [] M (fun v M1 => sm_Run (d + 1) 170 11 [some (.inr (some a0)), some (.inl x1), some (.inl y0), z3, z4, z5, z6, z7] (v.toList ++ []) M1 Q)) :
    sm_Run (d + 1) 170 5 [some (.inr (some a0)), some (.inl x1), z2, z3, z4, z5, z6, z7] [.inl y0] M Q := by
  refine ru_go (t := (6, [some (.inr (some a0)), some (.inl x1), some (.inl y0), z3, z4, z5, z6, z7], [], M)) sm_a170_5 rfl rfl rfl ?_
  refine ru_go (t := (7, [some (.inr (some a0)), some (.inl x1), some (.inl y0), z3, z4, z5, z6, z7], [.inr (some a0)], M)) sm_a170_6 rfl rfl rfl ?_
  refine ru_go (t := (8, [some (.inr (some a0)), some (.inl x1), some (.inl y0), z3, z4, z5, z6, z7], [.inl 1, .inr (some a0)], M)) sm_a170_7 rfl rfl (st_iconst (by decide)) ?_
  obtain ⟨h_1, h⟩ := h
  exact ru_call (p := 11) sm_a170_8 rfl (sc_virt (Or.inl rfl) rfl rfl h_1 (Nat.le_of_ble_eq_true rfl)) rfl h
theorem bb_170_11 {d : Nat} {M : sm_M} {Q : Option sm_V → sm_M → Prop} {a0 : Nat} {x1 : Int32} {x2 : Int32} {z3 : Option sm_V} {z4 : Option sm_V} {z5 : Option sm_V} {z6 : Option sm_V} {z7 : Option sm_V} {y0 : Int32}
    (h : sm_K M a0 = 39 ∧ sm_Run d 168 0 (sm_ent 168 [.inr (some a0), .inl 2]) [] M (fun v M1 => sm_Run (d + 1) 170 17 [some (.inr (some a0)), some (.inl x1), some (.inl x2), some (.inl y0), z4, z5, z6, z7] (v.toList ++ []) M1 Q)) :
    sm_Run (d + 1) 170 11 [some (.inr (some a0)), some (.inl x1), some (.inl x2), z3, z4, z5, z6, z7] [.inl y0] M Q := by
  refine ru_go (t := (12, [some (.inr (some a0)), some (.inl x1), some (.inl x2), some (.inl y0), z4, z5, z6, z7], [], M)) sm_a170_11 rfl rfl rfl ?_
  refine ru_go (t := (13, [some (.inr (some a0)), some (.inl x1), some (.inl x2), some (.inl y0), z4, z5, z6, z7], [.inr (some a0)], M)) sm_a170_12 rfl rfl rfl ?_
  refine ru_go (t := (14, [some (.inr (some a0)), some (.inl x1), some (.inl x2), some (.inl y0), z4, z5, z6, z7], [.inl 2, .inr (some a0)], M)) sm_a170_13 rfl rfl (st_iconst (by decide)) ?_
  obtain ⟨h_1, h⟩ := h
  exact ru_call (p := 17) sm_a170_14 rfl (sc_virt (Or.inl rfl) rfl rfl h_1 (Nat.le_of_ble_eq_true rfl)) rfl h
theorem bb_170_17 {d : Nat} {M : sm_M} {Q : Option sm_V → sm_M → Prop} {a0 : Nat} {x1 : Int32} {x2 : Int32} {x3 : Int32} {z4 : Option sm_V} {z5 : Option sm_V} {z6 : Option sm_V} {z7 : Option sm_V} {y0 : Int32}
    (h : sm_K M a0 = 39 ∧ sm_Run d 168 0 (sm_ent 168 [.inr (some a0), .inl 3]) [] M (fun v M1 => sm_Run (d + 1) 170 25 [some (.inr (some a0)), some (.inl x1), some (.inl x2), some (.inl x3), z4, z5, z6, z7] (v.toList ++ [.inl 256, .inl y0]) M1 Q)) :
    sm_Run (d + 1) 170 17 [some (.inr (some a0)), some (.inl x1), some (.inl x2), some (.inl x3), z4, z5, z6, z7] [.inl y0] M Q := by
  refine ru_go (t := (20, [some (.inr (some a0)), some (.inl x1), some (.inl x2), some (.inl x3), z4, z5, z6, z7], [.inl 256, .inl y0], M)) sm_a170_17 rfl rfl (st_sipush (by decide)) ?_
  refine ru_go (t := (21, [some (.inr (some a0)), some (.inl x1), some (.inl x2), some (.inl x3), z4, z5, z6, z7], [.inr (some a0), .inl 256, .inl y0], M)) sm_a170_20 rfl rfl rfl ?_
  refine ru_go (t := (22, [some (.inr (some a0)), some (.inl x1), some (.inl x2), some (.inl x3), z4, z5, z6, z7], [.inl 3, .inr (some a0), .inl 256, .inl y0], M)) sm_a170_21 rfl rfl (st_iconst (by decide)) ?_
  obtain ⟨h_1, h⟩ := h
  exact ru_call (p := 25) sm_a170_22 rfl (sc_virt (Or.inl rfl) rfl rfl h_1 (Nat.le_of_ble_eq_true rfl)) rfl h
theorem bb_170_25 {d : Nat} {M : sm_M} {Q : Option sm_V → sm_M → Prop} {a0 : Nat} {x1 : Int32} {x2 : Int32} {x3 : Int32} {z4 : Option sm_V} {z5 : Option sm_V} {z6 : Option sm_V} {z7 : Option sm_V} {y0 : Int32} {y1 : Int32} {y2 : Int32}
    (h : sm_K M a0 = 39 ∧ sm_Run d 168 0 (sm_ent 168 [.inr (some a0), .inl 4]) [] M (fun v M1 => sm_Run (d + 1) 170 34 [some (.inr (some a0)), some (.inl x1), some (.inl x2), some (.inl x3), some (.inl (y2 + (y1 * y0))), z5, z6, z7] (v.toList ++ []) M1 Q)) :
    sm_Run (d + 1) 170 25 [some (.inr (some a0)), some (.inl x1), some (.inl x2), some (.inl x3), z4, z5, z6, z7] [.inl y0, .inl y1, .inl y2] M Q := by
  refine ru_go (t := (26, [some (.inr (some a0)), some (.inl x1), some (.inl x2), some (.inl x3), z4, z5, z6, z7], [.inl (y1 * y0), .inl y2], M)) sm_a170_25 rfl rfl rfl ?_
  refine ru_go (t := (27, [some (.inr (some a0)), some (.inl x1), some (.inl x2), some (.inl x3), z4, z5, z6, z7], [.inl (y2 + (y1 * y0))], M)) sm_a170_26 rfl rfl rfl ?_
  refine ru_go (t := (29, [some (.inr (some a0)), some (.inl x1), some (.inl x2), some (.inl x3), some (.inl (y2 + (y1 * y0))), z5, z6, z7], [], M)) sm_a170_27 rfl rfl rfl ?_
  refine ru_go (t := (30, [some (.inr (some a0)), some (.inl x1), some (.inl x2), some (.inl x3), some (.inl (y2 + (y1 * y0))), z5, z6, z7], [.inr (some a0)], M)) sm_a170_29 rfl rfl rfl ?_
  refine ru_go (t := (31, [some (.inr (some a0)), some (.inl x1), some (.inl x2), some (.inl x3), some (.inl (y2 + (y1 * y0))), z5, z6, z7], [.inl 4, .inr (some a0)], M)) sm_a170_30 rfl rfl (st_iconst (by decide)) ?_
  obtain ⟨h_1, h⟩ := h
  exact ru_call (p := 34) sm_a170_31 rfl (sc_virt (Or.inl rfl) rfl rfl h_1 (Nat.le_of_ble_eq_true rfl)) rfl h
theorem bb_170_34 {d : Nat} {M : sm_M} {Q : Option sm_V → sm_M → Prop} {a0 : Nat} {x1 : Int32} {x2 : Int32} {x3 : Int32} {x4 : Int32} {z5 : Option sm_V} {z6 : Option sm_V} {z7 : Option sm_V} {y0 : Int32}
    (h : sm_K M a0 = 39 ∧ sm_Run d 168 0 (sm_ent 168 [.inr (some a0), .inl 5]) [] M (fun v M1 => sm_Run (d + 1) 170 42 [some (.inr (some a0)), some (.inl x1), some (.inl x2), some (.inl x3), some (.inl x4), z5, z6, z7] (v.toList ++ [.inl 256, .inl y0]) M1 Q)) :
    sm_Run (d + 1) 170 34 [some (.inr (some a0)), some (.inl x1), some (.inl x2), some (.inl x3), some (.inl x4), z5, z6, z7] [.inl y0] M Q := by
  refine ru_go (t := (37, [some (.inr (some a0)), some (.inl x1), some (.inl x2), some (.inl x3), some (.inl x4), z5, z6, z7], [.inl 256, .inl y0], M)) sm_a170_34 rfl rfl (st_sipush (by decide)) ?_
  refine ru_go (t := (38, [some (.inr (some a0)), some (.inl x1), some (.inl x2), some (.inl x3), some (.inl x4), z5, z6, z7], [.inr (some a0), .inl 256, .inl y0], M)) sm_a170_37 rfl rfl rfl ?_
  refine ru_go (t := (39, [some (.inr (some a0)), some (.inl x1), some (.inl x2), some (.inl x3), some (.inl x4), z5, z6, z7], [.inl 5, .inr (some a0), .inl 256, .inl y0], M)) sm_a170_38 rfl rfl (st_iconst (by decide)) ?_
  obtain ⟨h_1, h⟩ := h
  exact ru_call (p := 42) sm_a170_39 rfl (sc_virt (Or.inl rfl) rfl rfl h_1 (Nat.le_of_ble_eq_true rfl)) rfl h
theorem bb_170_42 {d : Nat} {M : sm_M} {Q : Option sm_V → sm_M → Prop} {a0 : Nat} {x1 : Int32} {x2 : Int32} {x3 : Int32} {x4 : Int32} {z5 : Option sm_V} {z6 : Option sm_V} {z7 : Option sm_V} {y0 : Int32} {y1 : Int32} {y2 : Int32}
    (h : sm_K M a0 = 39 ∧ sm_Run d 168 0 (sm_ent 168 [.inr (some a0), .inl 6]) [] M (fun v M1 => sm_Run (d + 1) 170 52 [some (.inr (some a0)), some (.inl x1), some (.inl x2), some (.inl x3), some (.inl x4), some (.inl (y2 + (y1 * y0))), z6, z7] (v.toList ++ []) M1 Q)) :
    sm_Run (d + 1) 170 42 [some (.inr (some a0)), some (.inl x1), some (.inl x2), some (.inl x3), some (.inl x4), z5, z6, z7] [.inl y0, .inl y1, .inl y2] M Q := by
  refine ru_go (t := (43, [some (.inr (some a0)), some (.inl x1), some (.inl x2), some (.inl x3), some (.inl x4), z5, z6, z7], [.inl (y1 * y0), .inl y2], M)) sm_a170_42 rfl rfl rfl ?_
  refine ru_go (t := (44, [some (.inr (some a0)), some (.inl x1), some (.inl x2), some (.inl x3), some (.inl x4), z5, z6, z7], [.inl (y2 + (y1 * y0))], M)) sm_a170_43 rfl rfl rfl ?_
  refine ru_go (t := (46, [some (.inr (some a0)), some (.inl x1), some (.inl x2), some (.inl x3), some (.inl x4), some (.inl (y2 + (y1 * y0))), z6, z7], [], M)) sm_a170_44 rfl rfl rfl ?_
  refine ru_go (t := (47, [some (.inr (some a0)), some (.inl x1), some (.inl x2), some (.inl x3), some (.inl x4), some (.inl (y2 + (y1 * y0))), z6, z7], [.inr (some a0)], M)) sm_a170_46 rfl rfl rfl ?_
  refine ru_go (t := (49, [some (.inr (some a0)), some (.inl x1), some (.inl x2), some (.inl x3), some (.inl x4), some (.inl (y2 + (y1 * y0))), z6, z7], [.inl 6, .inr (some a0)], M)) sm_a170_47 rfl rfl (st_bipush (by decide)) ?_
  obtain ⟨h_1, h⟩ := h
  exact ru_call (p := 52) sm_a170_49 rfl (sc_virt (Or.inl rfl) rfl rfl h_1 (Nat.le_of_ble_eq_true rfl)) rfl h
theorem bb_170_52 {d : Nat} {M : sm_M} {Q : Option sm_V → sm_M → Prop} {a0 : Nat} {x1 : Int32} {x2 : Int32} {x3 : Int32} {x4 : Int32} {x5 : Int32} {z6 : Option sm_V} {z7 : Option sm_V} {y0 : Int32}
    (h : sm_K M a0 = 39 ∧ sm_Run d 168 0 (sm_ent 168 [.inr (some a0), .inl 7]) [] M (fun v M1 => sm_Run (d + 1) 170 61 [some (.inr (some a0)), some (.inl x1), some (.inl x2), some (.inl x3), some (.inl x4), some (.inl x5), z6, z7] (v.toList ++ [.inl 256, .inl y0]) M1 Q)) :
    sm_Run (d + 1) 170 52 [some (.inr (some a0)), some (.inl x1), some (.inl x2), some (.inl x3), some (.inl x4), some (.inl x5), z6, z7] [.inl y0] M Q := by
  refine ru_go (t := (55, [some (.inr (some a0)), some (.inl x1), some (.inl x2), some (.inl x3), some (.inl x4), some (.inl x5), z6, z7], [.inl 256, .inl y0], M)) sm_a170_52 rfl rfl (st_sipush (by decide)) ?_
  refine ru_go (t := (56, [some (.inr (some a0)), some (.inl x1), some (.inl x2), some (.inl x3), some (.inl x4), some (.inl x5), z6, z7], [.inr (some a0), .inl 256, .inl y0], M)) sm_a170_55 rfl rfl rfl ?_
  refine ru_go (t := (58, [some (.inr (some a0)), some (.inl x1), some (.inl x2), some (.inl x3), some (.inl x4), some (.inl x5), z6, z7], [.inl 7, .inr (some a0), .inl 256, .inl y0], M)) sm_a170_56 rfl rfl (st_bipush (by decide)) ?_
  obtain ⟨h_1, h⟩ := h
  exact ru_call (p := 61) sm_a170_58 rfl (sc_virt (Or.inl rfl) rfl rfl h_1 (Nat.le_of_ble_eq_true rfl)) rfl h
theorem bb_170_61 {d : Nat} {M : sm_M} {Q : Option sm_V → sm_M → Prop} {a0 : Nat} {x1 : Int32} {x2 : Int32} {x3 : Int32} {x4 : Int32} {x5 : Int32} {z6 : Option sm_V} {z7 : Option sm_V} {y0 : Int32} {y1 : Int32} {y2 : Int32}
    (h : sm_K M a0 = 39 ∧ ∃ b_2, sm_R M a0 21 = some b_2 ∧ sm_wA 1 M b_2 ∧ sm_in_ M b_2 x1 ∧ ∃ b_6, sm_R (sm_putI M b_2 (x1).toNatClampNeg 1) a0 23 = some b_6 ∧ sm_wA 1 M b_6 ∧ sm_in_ M b_6 x1 ∧ ∃ b_10, sm_R (sm_putI (sm_putI M b_2 (x1).toNatClampNeg 1) b_6 (x1).toNatClampNeg 1) a0 28 = some b_10 ∧ sm_wA 1 M b_10 ∧ sm_in_ M b_10 x1 ∧ ∃ b_14, sm_R (sm_putI (sm_putI (sm_putI M b_2 (x1).toNatClampNeg 1) b_6 (x1).toNatClampNeg 1) b_10 (x1).toNatClampNeg (-1)) a0 26 = some b_14 ∧ sm_wA 1 M b_14 ∧ sm_in_ M b_14 x1 ∧ ∃ b_18, sm_R (sm_putI (sm_putI (sm_putI (sm_putI M b_2 (x1).toNatClampNeg 1) b_6 (x1).toNatClampNeg 1) b_10 (x1).toNatClampNeg (-1)) b_14 (x1).toNatClampNeg 0) a0 25 = some b_18 ∧ sm_wA 1 M b_18 ∧ sm_in_ M b_18 x1 ∧ ∃ b_22, sm_R (sm_putI (sm_putI (sm_putI (sm_putI (sm_putI M b_2 (x1).toNatClampNeg 1) b_6 (x1).toNatClampNeg 1) b_10 (x1).toNatClampNeg (-1)) b_14 (x1).toNatClampNeg 0) b_18 (x1).toNatClampNeg 0) a0 27 = some b_22 ∧ sm_wZ 1 M b_22 ∧ sm_in_ M b_22 x1 ∧ ∃ b_26, sm_R (sm_putI (sm_putI (sm_putI (sm_putI (sm_putI (sm_putI M b_2 (x1).toNatClampNeg 1) b_6 (x1).toNatClampNeg 1) b_10 (x1).toNatClampNeg (-1)) b_14 (x1).toNatClampNeg 0) b_18 (x1).toNatClampNeg 0) b_22 (x1).toNatClampNeg 0) a0 24 = some b_26 ∧ sm_wA 1 M b_26 ∧ sm_in_ M b_26 x1 ∧ ∃ b_30, sm_R (sm_putI (sm_putI (sm_putI (sm_putI (sm_putI (sm_putI (sm_putI M b_2 (x1).toNatClampNeg 1) b_6 (x1).toNatClampNeg 1) b_10 (x1).toNatClampNeg (-1)) b_14 (x1).toNatClampNeg 0) b_18 (x1).toNatClampNeg 0) b_22 (x1).toNatClampNeg 0) b_26 (x1).toNatClampNeg (y2 + (y1 * y0))) a0 22 = some b_30 ∧ sm_wZ 1 M b_30 ∧ sm_in_ M b_30 x1 ∧ ∃ b_34, sm_R (sm_putI (sm_putI (sm_putI (sm_putI (sm_putI (sm_putI (sm_putI (sm_putI M b_2 (x1).toNatClampNeg 1) b_6 (x1).toNatClampNeg 1) b_10 (x1).toNatClampNeg (-1)) b_14 (x1).toNatClampNeg 0) b_18 (x1).toNatClampNeg 0) b_22 (x1).toNatClampNeg 0) b_26 (x1).toNatClampNeg (y2 + (y1 * y0))) b_30 (x1).toNatClampNeg 0) a0 30 = some b_34 ∧ sm_wA 1 M b_34 ∧ sm_in_ M b_34 x1 ∧ ((x2 < 128 → sm_Run (d + 1) 170 159 [some (.inr (some a0)), some (.inl x1), some (.inl x2), some (.inl x3), some (.inl x4), some (.inl x5), some (.inl (y2 + (y1 * y0))), z7] [] (sm_putI (sm_putI (sm_putI (sm_putI (sm_putI (sm_putI (sm_putI (sm_putI (sm_putI M b_2 (x1).toNatClampNeg 1) b_6 (x1).toNatClampNeg 1) b_10 (x1).toNatClampNeg (-1)) b_14 (x1).toNatClampNeg 0) b_18 (x1).toNatClampNeg 0) b_22 (x1).toNatClampNeg 0) b_26 (x1).toNatClampNeg (y2 + (y1 * y0))) b_30 (x1).toNatClampNeg 0) b_34 (x1).toNatClampNeg (-1)) Q) ∧ (¬ (x2 < 128) → sm_Run d 171 0 (sm_ent 171 [.inr (some a0), .inl x1, .inl ((256 * x2) + x3), .inl x4, .inl x5]) [] (sm_putI (sm_putI (sm_putI (sm_putI (sm_putI (sm_putI (sm_putI (sm_putI (sm_putI M b_2 (x1).toNatClampNeg 1) b_6 (x1).toNatClampNeg 1) b_10 (x1).toNatClampNeg (-1)) b_14 (x1).toNatClampNeg 0) b_18 (x1).toNatClampNeg 0) b_22 (x1).toNatClampNeg 0) b_26 (x1).toNatClampNeg (y2 + (y1 * y0))) b_30 (x1).toNatClampNeg 0) b_34 (x1).toNatClampNeg (-1)) (fun v M1 => sm_Run (d + 1) 170 152 [some (.inr (some a0)), some (.inl x1), some (.inl x2), some (.inl x3), some (.inl x4), some (.inl x5), some (.inl (y2 + (y1 * y0))), z7] (v.toList ++ []) M1 Q)))) :
    sm_Run (d + 1) 170 61 [some (.inr (some a0)), some (.inl x1), some (.inl x2), some (.inl x3), some (.inl x4), some (.inl x5), z6, z7] [.inl y0, .inl y1, .inl y2] M Q := by
  refine ru_go (t := (62, [some (.inr (some a0)), some (.inl x1), some (.inl x2), some (.inl x3), some (.inl x4), some (.inl x5), z6, z7], [.inl (y1 * y0), .inl y2], M)) sm_a170_61 rfl rfl rfl ?_
  refine ru_go (t := (63, [some (.inr (some a0)), some (.inl x1), some (.inl x2), some (.inl x3), some (.inl x4), some (.inl x5), z6, z7], [.inl (y2 + (y1 * y0))], M)) sm_a170_62 rfl rfl rfl ?_
  refine ru_go (t := (65, [some (.inr (some a0)), some (.inl x1), some (.inl x2), some (.inl x3), some (.inl x4), some (.inl x5), some (.inl (y2 + (y1 * y0))), z7], [], M)) sm_a170_63 rfl rfl rfl ?_
  refine ru_go (t := (66, [some (.inr (some a0)), some (.inl x1), some (.inl x2), some (.inl x3), some (.inl x4), some (.inl x5), some (.inl (y2 + (y1 * y0))), z7], [.inr (some a0)], M)) sm_a170_65 rfl rfl rfl ?_
  obtain ⟨h_1, h⟩ := h
  refine ru_go (t := (69, [some (.inr (some a0)), some (.inl x1), some (.inl x2), some (.inl x3), some (.inl x4), some (.inl x5), some (.inl (y2 + (y1 * y0))), z7], [.inr (sm_R M a0 21)], M)) sm_a170_66 rfl rfl (st_getR h_1 rfl rfl) ?_
  refine ru_go (t := (70, [some (.inr (some a0)), some (.inl x1), some (.inl x2), some (.inl x3), some (.inl x4), some (.inl x5), some (.inl (y2 + (y1 * y0))), z7], [.inl x1, .inr (sm_R M a0 21)], M)) sm_a170_69 rfl rfl rfl ?_
  refine ru_go (t := (71, [some (.inr (some a0)), some (.inl x1), some (.inl x2), some (.inl x3), some (.inl x4), some (.inl x5), some (.inl (y2 + (y1 * y0))), z7], [.inl 1, .inl x1, .inr (sm_R M a0 21)], M)) sm_a170_70 rfl rfl (st_iconst (by decide)) ?_
  obtain ⟨b_2, hb_3, h⟩ := h
  rw [hb_3]
  obtain ⟨h_4, h⟩ := h
  obtain ⟨h_5, h⟩ := h
  refine ru_go (t := (72, [some (.inr (some a0)), some (.inl x1), some (.inl x2), some (.inl x3), some (.inl x4), some (.inl x5), some (.inl (y2 + (y1 * y0))), z7], [], sm_putI M b_2 (x1).toNatClampNeg 1)) sm_a170_71 rfl rfl (st_iast h_4 h_5) ?_
  refine ru_go (t := (73, [some (.inr (some a0)), some (.inl x1), some (.inl x2), some (.inl x3), some (.inl x4), some (.inl x5), some (.inl (y2 + (y1 * y0))), z7], [.inr (some a0)], sm_putI M b_2 (x1).toNatClampNeg 1)) sm_a170_72 rfl rfl rfl ?_
  refine ru_go (t := (76, [some (.inr (some a0)), some (.inl x1), some (.inl x2), some (.inl x3), some (.inl x4), some (.inl x5), some (.inl (y2 + (y1 * y0))), z7], [.inr (sm_R (sm_putI M b_2 (x1).toNatClampNeg 1) a0 23)], sm_putI M b_2 (x1).toNatClampNeg 1)) sm_a170_73 rfl rfl (st_getR h_1 rfl rfl) ?_
  refine ru_go (t := (77, [some (.inr (some a0)), some (.inl x1), some (.inl x2), some (.inl x3), some (.inl x4), some (.inl x5), some (.inl (y2 + (y1 * y0))), z7], [.inl x1, .inr (sm_R (sm_putI M b_2 (x1).toNatClampNeg 1) a0 23)], sm_putI M b_2 (x1).toNatClampNeg 1)) sm_a170_76 rfl rfl rfl ?_
  refine ru_go (t := (78, [some (.inr (some a0)), some (.inl x1), some (.inl x2), some (.inl x3), some (.inl x4), some (.inl x5), some (.inl (y2 + (y1 * y0))), z7], [.inl 1, .inl x1, .inr (sm_R (sm_putI M b_2 (x1).toNatClampNeg 1) a0 23)], sm_putI M b_2 (x1).toNatClampNeg 1)) sm_a170_77 rfl rfl (st_iconst (by decide)) ?_
  obtain ⟨b_6, hb_7, h⟩ := h
  rw [hb_7]
  obtain ⟨h_8, h⟩ := h
  obtain ⟨h_9, h⟩ := h
  refine ru_go (t := (79, [some (.inr (some a0)), some (.inl x1), some (.inl x2), some (.inl x3), some (.inl x4), some (.inl x5), some (.inl (y2 + (y1 * y0))), z7], [], sm_putI (sm_putI M b_2 (x1).toNatClampNeg 1) b_6 (x1).toNatClampNeg 1)) sm_a170_78 rfl rfl (st_iast h_8 h_9) ?_
  refine ru_go (t := (80, [some (.inr (some a0)), some (.inl x1), some (.inl x2), some (.inl x3), some (.inl x4), some (.inl x5), some (.inl (y2 + (y1 * y0))), z7], [.inr (some a0)], sm_putI (sm_putI M b_2 (x1).toNatClampNeg 1) b_6 (x1).toNatClampNeg 1)) sm_a170_79 rfl rfl rfl ?_
  refine ru_go (t := (83, [some (.inr (some a0)), some (.inl x1), some (.inl x2), some (.inl x3), some (.inl x4), some (.inl x5), some (.inl (y2 + (y1 * y0))), z7], [.inr (sm_R (sm_putI (sm_putI M b_2 (x1).toNatClampNeg 1) b_6 (x1).toNatClampNeg 1) a0 28)], sm_putI (sm_putI M b_2 (x1).toNatClampNeg 1) b_6 (x1).toNatClampNeg 1)) sm_a170_80 rfl rfl (st_getR h_1 rfl rfl) ?_
  refine ru_go (t := (84, [some (.inr (some a0)), some (.inl x1), some (.inl x2), some (.inl x3), some (.inl x4), some (.inl x5), some (.inl (y2 + (y1 * y0))), z7], [.inl x1, .inr (sm_R (sm_putI (sm_putI M b_2 (x1).toNatClampNeg 1) b_6 (x1).toNatClampNeg 1) a0 28)], sm_putI (sm_putI M b_2 (x1).toNatClampNeg 1) b_6 (x1).toNatClampNeg 1)) sm_a170_83 rfl rfl rfl ?_
  refine ru_go (t := (85, [some (.inr (some a0)), some (.inl x1), some (.inl x2), some (.inl x3), some (.inl x4), some (.inl x5), some (.inl (y2 + (y1 * y0))), z7], [.inl (-1), .inl x1, .inr (sm_R (sm_putI (sm_putI M b_2 (x1).toNatClampNeg 1) b_6 (x1).toNatClampNeg 1) a0 28)], sm_putI (sm_putI M b_2 (x1).toNatClampNeg 1) b_6 (x1).toNatClampNeg 1)) sm_a170_84 rfl rfl (st_iconst (by decide)) ?_
  obtain ⟨b_10, hb_11, h⟩ := h
  rw [hb_11]
  obtain ⟨h_12, h⟩ := h
  obtain ⟨h_13, h⟩ := h
  refine ru_go (t := (86, [some (.inr (some a0)), some (.inl x1), some (.inl x2), some (.inl x3), some (.inl x4), some (.inl x5), some (.inl (y2 + (y1 * y0))), z7], [], sm_putI (sm_putI (sm_putI M b_2 (x1).toNatClampNeg 1) b_6 (x1).toNatClampNeg 1) b_10 (x1).toNatClampNeg (-1))) sm_a170_85 rfl rfl (st_iast h_12 h_13) ?_
  refine ru_go (t := (87, [some (.inr (some a0)), some (.inl x1), some (.inl x2), some (.inl x3), some (.inl x4), some (.inl x5), some (.inl (y2 + (y1 * y0))), z7], [.inr (some a0)], sm_putI (sm_putI (sm_putI M b_2 (x1).toNatClampNeg 1) b_6 (x1).toNatClampNeg 1) b_10 (x1).toNatClampNeg (-1))) sm_a170_86 rfl rfl rfl ?_
  refine ru_go (t := (90, [some (.inr (some a0)), some (.inl x1), some (.inl x2), some (.inl x3), some (.inl x4), some (.inl x5), some (.inl (y2 + (y1 * y0))), z7], [.inr (sm_R (sm_putI (sm_putI (sm_putI M b_2 (x1).toNatClampNeg 1) b_6 (x1).toNatClampNeg 1) b_10 (x1).toNatClampNeg (-1)) a0 26)], sm_putI (sm_putI (sm_putI M b_2 (x1).toNatClampNeg 1) b_6 (x1).toNatClampNeg 1) b_10 (x1).toNatClampNeg (-1))) sm_a170_87 rfl rfl (st_getR h_1 rfl rfl) ?_
  refine ru_go (t := (91, [some (.inr (some a0)), some (.inl x1), some (.inl x2), some (.inl x3), some (.inl x4), some (.inl x5), some (.inl (y2 + (y1 * y0))), z7], [.inl x1, .inr (sm_R (sm_putI (sm_putI (sm_putI M b_2 (x1).toNatClampNeg 1) b_6 (x1).toNatClampNeg 1) b_10 (x1).toNatClampNeg (-1)) a0 26)], sm_putI (sm_putI (sm_putI M b_2 (x1).toNatClampNeg 1) b_6 (x1).toNatClampNeg 1) b_10 (x1).toNatClampNeg (-1))) sm_a170_90 rfl rfl rfl ?_
  refine ru_go (t := (92, [some (.inr (some a0)), some (.inl x1), some (.inl x2), some (.inl x3), some (.inl x4), some (.inl x5), some (.inl (y2 + (y1 * y0))), z7], [.inl 0, .inl x1, .inr (sm_R (sm_putI (sm_putI (sm_putI M b_2 (x1).toNatClampNeg 1) b_6 (x1).toNatClampNeg 1) b_10 (x1).toNatClampNeg (-1)) a0 26)], sm_putI (sm_putI (sm_putI M b_2 (x1).toNatClampNeg 1) b_6 (x1).toNatClampNeg 1) b_10 (x1).toNatClampNeg (-1))) sm_a170_91 rfl rfl (st_iconst (by decide)) ?_
  obtain ⟨b_14, hb_15, h⟩ := h
  rw [hb_15]
  obtain ⟨h_16, h⟩ := h
  obtain ⟨h_17, h⟩ := h
  refine ru_go (t := (93, [some (.inr (some a0)), some (.inl x1), some (.inl x2), some (.inl x3), some (.inl x4), some (.inl x5), some (.inl (y2 + (y1 * y0))), z7], [], sm_putI (sm_putI (sm_putI (sm_putI M b_2 (x1).toNatClampNeg 1) b_6 (x1).toNatClampNeg 1) b_10 (x1).toNatClampNeg (-1)) b_14 (x1).toNatClampNeg 0)) sm_a170_92 rfl rfl (st_iast h_16 h_17) ?_
  refine ru_go (t := (94, [some (.inr (some a0)), some (.inl x1), some (.inl x2), some (.inl x3), some (.inl x4), some (.inl x5), some (.inl (y2 + (y1 * y0))), z7], [.inr (some a0)], sm_putI (sm_putI (sm_putI (sm_putI M b_2 (x1).toNatClampNeg 1) b_6 (x1).toNatClampNeg 1) b_10 (x1).toNatClampNeg (-1)) b_14 (x1).toNatClampNeg 0)) sm_a170_93 rfl rfl rfl ?_
  refine ru_go (t := (97, [some (.inr (some a0)), some (.inl x1), some (.inl x2), some (.inl x3), some (.inl x4), some (.inl x5), some (.inl (y2 + (y1 * y0))), z7], [.inr (sm_R (sm_putI (sm_putI (sm_putI (sm_putI M b_2 (x1).toNatClampNeg 1) b_6 (x1).toNatClampNeg 1) b_10 (x1).toNatClampNeg (-1)) b_14 (x1).toNatClampNeg 0) a0 25)], sm_putI (sm_putI (sm_putI (sm_putI M b_2 (x1).toNatClampNeg 1) b_6 (x1).toNatClampNeg 1) b_10 (x1).toNatClampNeg (-1)) b_14 (x1).toNatClampNeg 0)) sm_a170_94 rfl rfl (st_getR h_1 rfl rfl) ?_
  refine ru_go (t := (98, [some (.inr (some a0)), some (.inl x1), some (.inl x2), some (.inl x3), some (.inl x4), some (.inl x5), some (.inl (y2 + (y1 * y0))), z7], [.inl x1, .inr (sm_R (sm_putI (sm_putI (sm_putI (sm_putI M b_2 (x1).toNatClampNeg 1) b_6 (x1).toNatClampNeg 1) b_10 (x1).toNatClampNeg (-1)) b_14 (x1).toNatClampNeg 0) a0 25)], sm_putI (sm_putI (sm_putI (sm_putI M b_2 (x1).toNatClampNeg 1) b_6 (x1).toNatClampNeg 1) b_10 (x1).toNatClampNeg (-1)) b_14 (x1).toNatClampNeg 0)) sm_a170_97 rfl rfl rfl ?_
  refine ru_go (t := (99, [some (.inr (some a0)), some (.inl x1), some (.inl x2), some (.inl x3), some (.inl x4), some (.inl x5), some (.inl (y2 + (y1 * y0))), z7], [.inl 0, .inl x1, .inr (sm_R (sm_putI (sm_putI (sm_putI (sm_putI M b_2 (x1).toNatClampNeg 1) b_6 (x1).toNatClampNeg 1) b_10 (x1).toNatClampNeg (-1)) b_14 (x1).toNatClampNeg 0) a0 25)], sm_putI (sm_putI (sm_putI (sm_putI M b_2 (x1).toNatClampNeg 1) b_6 (x1).toNatClampNeg 1) b_10 (x1).toNatClampNeg (-1)) b_14 (x1).toNatClampNeg 0)) sm_a170_98 rfl rfl (st_iconst (by decide)) ?_
  obtain ⟨b_18, hb_19, h⟩ := h
  rw [hb_19]
  obtain ⟨h_20, h⟩ := h
  obtain ⟨h_21, h⟩ := h
  refine ru_go (t := (100, [some (.inr (some a0)), some (.inl x1), some (.inl x2), some (.inl x3), some (.inl x4), some (.inl x5), some (.inl (y2 + (y1 * y0))), z7], [], sm_putI (sm_putI (sm_putI (sm_putI (sm_putI M b_2 (x1).toNatClampNeg 1) b_6 (x1).toNatClampNeg 1) b_10 (x1).toNatClampNeg (-1)) b_14 (x1).toNatClampNeg 0) b_18 (x1).toNatClampNeg 0)) sm_a170_99 rfl rfl (st_iast h_20 h_21) ?_
  refine ru_go (t := (101, [some (.inr (some a0)), some (.inl x1), some (.inl x2), some (.inl x3), some (.inl x4), some (.inl x5), some (.inl (y2 + (y1 * y0))), z7], [.inr (some a0)], sm_putI (sm_putI (sm_putI (sm_putI (sm_putI M b_2 (x1).toNatClampNeg 1) b_6 (x1).toNatClampNeg 1) b_10 (x1).toNatClampNeg (-1)) b_14 (x1).toNatClampNeg 0) b_18 (x1).toNatClampNeg 0)) sm_a170_100 rfl rfl rfl ?_
  refine ru_go (t := (104, [some (.inr (some a0)), some (.inl x1), some (.inl x2), some (.inl x3), some (.inl x4), some (.inl x5), some (.inl (y2 + (y1 * y0))), z7], [.inr (sm_R (sm_putI (sm_putI (sm_putI (sm_putI (sm_putI M b_2 (x1).toNatClampNeg 1) b_6 (x1).toNatClampNeg 1) b_10 (x1).toNatClampNeg (-1)) b_14 (x1).toNatClampNeg 0) b_18 (x1).toNatClampNeg 0) a0 27)], sm_putI (sm_putI (sm_putI (sm_putI (sm_putI M b_2 (x1).toNatClampNeg 1) b_6 (x1).toNatClampNeg 1) b_10 (x1).toNatClampNeg (-1)) b_14 (x1).toNatClampNeg 0) b_18 (x1).toNatClampNeg 0)) sm_a170_101 rfl rfl (st_getR h_1 rfl rfl) ?_
  refine ru_go (t := (105, [some (.inr (some a0)), some (.inl x1), some (.inl x2), some (.inl x3), some (.inl x4), some (.inl x5), some (.inl (y2 + (y1 * y0))), z7], [.inl x1, .inr (sm_R (sm_putI (sm_putI (sm_putI (sm_putI (sm_putI M b_2 (x1).toNatClampNeg 1) b_6 (x1).toNatClampNeg 1) b_10 (x1).toNatClampNeg (-1)) b_14 (x1).toNatClampNeg 0) b_18 (x1).toNatClampNeg 0) a0 27)], sm_putI (sm_putI (sm_putI (sm_putI (sm_putI M b_2 (x1).toNatClampNeg 1) b_6 (x1).toNatClampNeg 1) b_10 (x1).toNatClampNeg (-1)) b_14 (x1).toNatClampNeg 0) b_18 (x1).toNatClampNeg 0)) sm_a170_104 rfl rfl rfl ?_
  refine ru_go (t := (106, [some (.inr (some a0)), some (.inl x1), some (.inl x2), some (.inl x3), some (.inl x4), some (.inl x5), some (.inl (y2 + (y1 * y0))), z7], [.inl 0, .inl x1, .inr (sm_R (sm_putI (sm_putI (sm_putI (sm_putI (sm_putI M b_2 (x1).toNatClampNeg 1) b_6 (x1).toNatClampNeg 1) b_10 (x1).toNatClampNeg (-1)) b_14 (x1).toNatClampNeg 0) b_18 (x1).toNatClampNeg 0) a0 27)], sm_putI (sm_putI (sm_putI (sm_putI (sm_putI M b_2 (x1).toNatClampNeg 1) b_6 (x1).toNatClampNeg 1) b_10 (x1).toNatClampNeg (-1)) b_14 (x1).toNatClampNeg 0) b_18 (x1).toNatClampNeg 0)) sm_a170_105 rfl rfl (st_iconst (by decide)) ?_
  obtain ⟨b_22, hb_23, h⟩ := h
  rw [hb_23]
  obtain ⟨h_24, h⟩ := h
  obtain ⟨h_25, h⟩ := h
  refine ru_go (t := (107, [some (.inr (some a0)), some (.inl x1), some (.inl x2), some (.inl x3), some (.inl x4), some (.inl x5), some (.inl (y2 + (y1 * y0))), z7], [], sm_putI (sm_putI (sm_putI (sm_putI (sm_putI (sm_putI M b_2 (x1).toNatClampNeg 1) b_6 (x1).toNatClampNeg 1) b_10 (x1).toNatClampNeg (-1)) b_14 (x1).toNatClampNeg 0) b_18 (x1).toNatClampNeg 0) b_22 (x1).toNatClampNeg 0)) sm_a170_106 rfl rfl (st_zast h_24 h_25 (by decide)) ?_
  refine ru_go (t := (108, [some (.inr (some a0)), some (.inl x1), some (.inl x2), some (.inl x3), some (.inl x4), some (.inl x5), some (.inl (y2 + (y1 * y0))), z7], [.inr (some a0)], sm_putI (sm_putI (sm_putI (sm_putI (sm_putI (sm_putI M b_2 (x1).toNatClampNeg 1) b_6 (x1).toNatClampNeg 1) b_10 (x1).toNatClampNeg (-1)) b_14 (x1).toNatClampNeg 0) b_18 (x1).toNatClampNeg 0) b_22 (x1).toNatClampNeg 0)) sm_a170_107 rfl rfl rfl ?_
  refine ru_go (t := (111, [some (.inr (some a0)), some (.inl x1), some (.inl x2), some (.inl x3), some (.inl x4), some (.inl x5), some (.inl (y2 + (y1 * y0))), z7], [.inr (sm_R (sm_putI (sm_putI (sm_putI (sm_putI (sm_putI (sm_putI M b_2 (x1).toNatClampNeg 1) b_6 (x1).toNatClampNeg 1) b_10 (x1).toNatClampNeg (-1)) b_14 (x1).toNatClampNeg 0) b_18 (x1).toNatClampNeg 0) b_22 (x1).toNatClampNeg 0) a0 24)], sm_putI (sm_putI (sm_putI (sm_putI (sm_putI (sm_putI M b_2 (x1).toNatClampNeg 1) b_6 (x1).toNatClampNeg 1) b_10 (x1).toNatClampNeg (-1)) b_14 (x1).toNatClampNeg 0) b_18 (x1).toNatClampNeg 0) b_22 (x1).toNatClampNeg 0)) sm_a170_108 rfl rfl (st_getR h_1 rfl rfl) ?_
  refine ru_go (t := (112, [some (.inr (some a0)), some (.inl x1), some (.inl x2), some (.inl x3), some (.inl x4), some (.inl x5), some (.inl (y2 + (y1 * y0))), z7], [.inl x1, .inr (sm_R (sm_putI (sm_putI (sm_putI (sm_putI (sm_putI (sm_putI M b_2 (x1).toNatClampNeg 1) b_6 (x1).toNatClampNeg 1) b_10 (x1).toNatClampNeg (-1)) b_14 (x1).toNatClampNeg 0) b_18 (x1).toNatClampNeg 0) b_22 (x1).toNatClampNeg 0) a0 24)], sm_putI (sm_putI (sm_putI (sm_putI (sm_putI (sm_putI M b_2 (x1).toNatClampNeg 1) b_6 (x1).toNatClampNeg 1) b_10 (x1).toNatClampNeg (-1)) b_14 (x1).toNatClampNeg 0) b_18 (x1).toNatClampNeg 0) b_22 (x1).toNatClampNeg 0)) sm_a170_111 rfl rfl rfl ?_
  refine ru_go (t := (114, [some (.inr (some a0)), some (.inl x1), some (.inl x2), some (.inl x3), some (.inl x4), some (.inl x5), some (.inl (y2 + (y1 * y0))), z7], [.inl (y2 + (y1 * y0)), .inl x1, .inr (sm_R (sm_putI (sm_putI (sm_putI (sm_putI (sm_putI (sm_putI M b_2 (x1).toNatClampNeg 1) b_6 (x1).toNatClampNeg 1) b_10 (x1).toNatClampNeg (-1)) b_14 (x1).toNatClampNeg 0) b_18 (x1).toNatClampNeg 0) b_22 (x1).toNatClampNeg 0) a0 24)], sm_putI (sm_putI (sm_putI (sm_putI (sm_putI (sm_putI M b_2 (x1).toNatClampNeg 1) b_6 (x1).toNatClampNeg 1) b_10 (x1).toNatClampNeg (-1)) b_14 (x1).toNatClampNeg 0) b_18 (x1).toNatClampNeg 0) b_22 (x1).toNatClampNeg 0)) sm_a170_112 rfl rfl rfl ?_
  obtain ⟨b_26, hb_27, h⟩ := h
  rw [hb_27]
  obtain ⟨h_28, h⟩ := h
  obtain ⟨h_29, h⟩ := h
  refine ru_go (t := (115, [some (.inr (some a0)), some (.inl x1), some (.inl x2), some (.inl x3), some (.inl x4), some (.inl x5), some (.inl (y2 + (y1 * y0))), z7], [], sm_putI (sm_putI (sm_putI (sm_putI (sm_putI (sm_putI (sm_putI M b_2 (x1).toNatClampNeg 1) b_6 (x1).toNatClampNeg 1) b_10 (x1).toNatClampNeg (-1)) b_14 (x1).toNatClampNeg 0) b_18 (x1).toNatClampNeg 0) b_22 (x1).toNatClampNeg 0) b_26 (x1).toNatClampNeg (y2 + (y1 * y0)))) sm_a170_114 rfl rfl (st_iast h_28 h_29) ?_
  refine ru_go (t := (116, [some (.inr (some a0)), some (.inl x1), some (.inl x2), some (.inl x3), some (.inl x4), some (.inl x5), some (.inl (y2 + (y1 * y0))), z7], [.inr (some a0)], sm_putI (sm_putI (sm_putI (sm_putI (sm_putI (sm_putI (sm_putI M b_2 (x1).toNatClampNeg 1) b_6 (x1).toNatClampNeg 1) b_10 (x1).toNatClampNeg (-1)) b_14 (x1).toNatClampNeg 0) b_18 (x1).toNatClampNeg 0) b_22 (x1).toNatClampNeg 0) b_26 (x1).toNatClampNeg (y2 + (y1 * y0)))) sm_a170_115 rfl rfl rfl ?_
  refine ru_go (t := (119, [some (.inr (some a0)), some (.inl x1), some (.inl x2), some (.inl x3), some (.inl x4), some (.inl x5), some (.inl (y2 + (y1 * y0))), z7], [.inr (sm_R (sm_putI (sm_putI (sm_putI (sm_putI (sm_putI (sm_putI (sm_putI M b_2 (x1).toNatClampNeg 1) b_6 (x1).toNatClampNeg 1) b_10 (x1).toNatClampNeg (-1)) b_14 (x1).toNatClampNeg 0) b_18 (x1).toNatClampNeg 0) b_22 (x1).toNatClampNeg 0) b_26 (x1).toNatClampNeg (y2 + (y1 * y0))) a0 22)], sm_putI (sm_putI (sm_putI (sm_putI (sm_putI (sm_putI (sm_putI M b_2 (x1).toNatClampNeg 1) b_6 (x1).toNatClampNeg 1) b_10 (x1).toNatClampNeg (-1)) b_14 (x1).toNatClampNeg 0) b_18 (x1).toNatClampNeg 0) b_22 (x1).toNatClampNeg 0) b_26 (x1).toNatClampNeg (y2 + (y1 * y0)))) sm_a170_116 rfl rfl (st_getR h_1 rfl rfl) ?_
  refine ru_go (t := (120, [some (.inr (some a0)), some (.inl x1), some (.inl x2), some (.inl x3), some (.inl x4), some (.inl x5), some (.inl (y2 + (y1 * y0))), z7], [.inl x1, .inr (sm_R (sm_putI (sm_putI (sm_putI (sm_putI (sm_putI (sm_putI (sm_putI M b_2 (x1).toNatClampNeg 1) b_6 (x1).toNatClampNeg 1) b_10 (x1).toNatClampNeg (-1)) b_14 (x1).toNatClampNeg 0) b_18 (x1).toNatClampNeg 0) b_22 (x1).toNatClampNeg 0) b_26 (x1).toNatClampNeg (y2 + (y1 * y0))) a0 22)], sm_putI (sm_putI (sm_putI (sm_putI (sm_putI (sm_putI (sm_putI M b_2 (x1).toNatClampNeg 1) b_6 (x1).toNatClampNeg 1) b_10 (x1).toNatClampNeg (-1)) b_14 (x1).toNatClampNeg 0) b_18 (x1).toNatClampNeg 0) b_22 (x1).toNatClampNeg 0) b_26 (x1).toNatClampNeg (y2 + (y1 * y0)))) sm_a170_119 rfl rfl rfl ?_
  refine ru_go (t := (121, [some (.inr (some a0)), some (.inl x1), some (.inl x2), some (.inl x3), some (.inl x4), some (.inl x5), some (.inl (y2 + (y1 * y0))), z7], [.inl 0, .inl x1, .inr (sm_R (sm_putI (sm_putI (sm_putI (sm_putI (sm_putI (sm_putI (sm_putI M b_2 (x1).toNatClampNeg 1) b_6 (x1).toNatClampNeg 1) b_10 (x1).toNatClampNeg (-1)) b_14 (x1).toNatClampNeg 0) b_18 (x1).toNatClampNeg 0) b_22 (x1).toNatClampNeg 0) b_26 (x1).toNatClampNeg (y2 + (y1 * y0))) a0 22)], sm_putI (sm_putI (sm_putI (sm_putI (sm_putI (sm_putI (sm_putI M b_2 (x1).toNatClampNeg 1) b_6 (x1).toNatClampNeg 1) b_10 (x1).toNatClampNeg (-1)) b_14 (x1).toNatClampNeg 0) b_18 (x1).toNatClampNeg 0) b_22 (x1).toNatClampNeg 0) b_26 (x1).toNatClampNeg (y2 + (y1 * y0)))) sm_a170_120 rfl rfl (st_iconst (by decide)) ?_
  obtain ⟨b_30, hb_31, h⟩ := h
  rw [hb_31]
  obtain ⟨h_32, h⟩ := h
  obtain ⟨h_33, h⟩ := h
  refine ru_go (t := (122, [some (.inr (some a0)), some (.inl x1), some (.inl x2), some (.inl x3), some (.inl x4), some (.inl x5), some (.inl (y2 + (y1 * y0))), z7], [], sm_putI (sm_putI (sm_putI (sm_putI (sm_putI (sm_putI (sm_putI (sm_putI M b_2 (x1).toNatClampNeg 1) b_6 (x1).toNatClampNeg 1) b_10 (x1).toNatClampNeg (-1)) b_14 (x1).toNatClampNeg 0) b_18 (x1).toNatClampNeg 0) b_22 (x1).toNatClampNeg 0) b_26 (x1).toNatClampNeg (y2 + (y1 * y0))) b_30 (x1).toNatClampNeg 0)) sm_a170_121 rfl rfl (st_zast h_32 h_33 (by decide)) ?_
  refine ru_go (t := (123, [some (.inr (some a0)), some (.inl x1), some (.inl x2), some (.inl x3), some (.inl x4), some (.inl x5), some (.inl (y2 + (y1 * y0))), z7], [.inr (some a0)], sm_putI (sm_putI (sm_putI (sm_putI (sm_putI (sm_putI (sm_putI (sm_putI M b_2 (x1).toNatClampNeg 1) b_6 (x1).toNatClampNeg 1) b_10 (x1).toNatClampNeg (-1)) b_14 (x1).toNatClampNeg 0) b_18 (x1).toNatClampNeg 0) b_22 (x1).toNatClampNeg 0) b_26 (x1).toNatClampNeg (y2 + (y1 * y0))) b_30 (x1).toNatClampNeg 0)) sm_a170_122 rfl rfl rfl ?_
  refine ru_go (t := (126, [some (.inr (some a0)), some (.inl x1), some (.inl x2), some (.inl x3), some (.inl x4), some (.inl x5), some (.inl (y2 + (y1 * y0))), z7], [.inr (sm_R (sm_putI (sm_putI (sm_putI (sm_putI (sm_putI (sm_putI (sm_putI (sm_putI M b_2 (x1).toNatClampNeg 1) b_6 (x1).toNatClampNeg 1) b_10 (x1).toNatClampNeg (-1)) b_14 (x1).toNatClampNeg 0) b_18 (x1).toNatClampNeg 0) b_22 (x1).toNatClampNeg 0) b_26 (x1).toNatClampNeg (y2 + (y1 * y0))) b_30 (x1).toNatClampNeg 0) a0 30)], sm_putI (sm_putI (sm_putI (sm_putI (sm_putI (sm_putI (sm_putI (sm_putI M b_2 (x1).toNatClampNeg 1) b_6 (x1).toNatClampNeg 1) b_10 (x1).toNatClampNeg (-1)) b_14 (x1).toNatClampNeg 0) b_18 (x1).toNatClampNeg 0) b_22 (x1).toNatClampNeg 0) b_26 (x1).toNatClampNeg (y2 + (y1 * y0))) b_30 (x1).toNatClampNeg 0)) sm_a170_123 rfl rfl (st_getR h_1 rfl rfl) ?_
  refine ru_go (t := (127, [some (.inr (some a0)), some (.inl x1), some (.inl x2), some (.inl x3), some (.inl x4), some (.inl x5), some (.inl (y2 + (y1 * y0))), z7], [.inl x1, .inr (sm_R (sm_putI (sm_putI (sm_putI (sm_putI (sm_putI (sm_putI (sm_putI (sm_putI M b_2 (x1).toNatClampNeg 1) b_6 (x1).toNatClampNeg 1) b_10 (x1).toNatClampNeg (-1)) b_14 (x1).toNatClampNeg 0) b_18 (x1).toNatClampNeg 0) b_22 (x1).toNatClampNeg 0) b_26 (x1).toNatClampNeg (y2 + (y1 * y0))) b_30 (x1).toNatClampNeg 0) a0 30)], sm_putI (sm_putI (sm_putI (sm_putI (sm_putI (sm_putI (sm_putI (sm_putI M b_2 (x1).toNatClampNeg 1) b_6 (x1).toNatClampNeg 1) b_10 (x1).toNatClampNeg (-1)) b_14 (x1).toNatClampNeg 0) b_18 (x1).toNatClampNeg 0) b_22 (x1).toNatClampNeg 0) b_26 (x1).toNatClampNeg (y2 + (y1 * y0))) b_30 (x1).toNatClampNeg 0)) sm_a170_126 rfl rfl rfl ?_
  refine ru_go (t := (128, [some (.inr (some a0)), some (.inl x1), some (.inl x2), some (.inl x3), some (.inl x4), some (.inl x5), some (.inl (y2 + (y1 * y0))), z7], [.inl (-1), .inl x1, .inr (sm_R (sm_putI (sm_putI (sm_putI (sm_putI (sm_putI (sm_putI (sm_putI (sm_putI M b_2 (x1).toNatClampNeg 1) b_6 (x1).toNatClampNeg 1) b_10 (x1).toNatClampNeg (-1)) b_14 (x1).toNatClampNeg 0) b_18 (x1).toNatClampNeg 0) b_22 (x1).toNatClampNeg 0) b_26 (x1).toNatClampNeg (y2 + (y1 * y0))) b_30 (x1).toNatClampNeg 0) a0 30)], sm_putI (sm_putI (sm_putI (sm_putI (sm_putI (sm_putI (sm_putI (sm_putI M b_2 (x1).toNatClampNeg 1) b_6 (x1).toNatClampNeg 1) b_10 (x1).toNatClampNeg (-1)) b_14 (x1).toNatClampNeg 0) b_18 (x1).toNatClampNeg 0) b_22 (x1).toNatClampNeg 0) b_26 (x1).toNatClampNeg (y2 + (y1 * y0))) b_30 (x1).toNatClampNeg 0)) sm_a170_127 rfl rfl (st_iconst (by decide)) ?_
  obtain ⟨b_34, hb_35, h⟩ := h
  rw [hb_35]
  obtain ⟨h_36, h⟩ := h
  obtain ⟨h_37, h⟩ := h
  refine ru_go (t := (129, [some (.inr (some a0)), some (.inl x1), some (.inl x2), some (.inl x3), some (.inl x4), some (.inl x5), some (.inl (y2 + (y1 * y0))), z7], [], sm_putI (sm_putI (sm_putI (sm_putI (sm_putI (sm_putI (sm_putI (sm_putI (sm_putI M b_2 (x1).toNatClampNeg 1) b_6 (x1).toNatClampNeg 1) b_10 (x1).toNatClampNeg (-1)) b_14 (x1).toNatClampNeg 0) b_18 (x1).toNatClampNeg 0) b_22 (x1).toNatClampNeg 0) b_26 (x1).toNatClampNeg (y2 + (y1 * y0))) b_30 (x1).toNatClampNeg 0) b_34 (x1).toNatClampNeg (-1))) sm_a170_128 rfl rfl (st_iast h_36 h_37) ?_
  refine ru_go (t := (130, [some (.inr (some a0)), some (.inl x1), some (.inl x2), some (.inl x3), some (.inl x4), some (.inl x5), some (.inl (y2 + (y1 * y0))), z7], [.inl x2], sm_putI (sm_putI (sm_putI (sm_putI (sm_putI (sm_putI (sm_putI (sm_putI (sm_putI M b_2 (x1).toNatClampNeg 1) b_6 (x1).toNatClampNeg 1) b_10 (x1).toNatClampNeg (-1)) b_14 (x1).toNatClampNeg 0) b_18 (x1).toNatClampNeg 0) b_22 (x1).toNatClampNeg 0) b_26 (x1).toNatClampNeg (y2 + (y1 * y0))) b_30 (x1).toNatClampNeg 0) b_34 (x1).toNatClampNeg (-1))) sm_a170_129 rfl rfl rfl ?_
  refine ru_go (t := (133, [some (.inr (some a0)), some (.inl x1), some (.inl x2), some (.inl x3), some (.inl x4), some (.inl x5), some (.inl (y2 + (y1 * y0))), z7], [.inl 128, .inl x2], sm_putI (sm_putI (sm_putI (sm_putI (sm_putI (sm_putI (sm_putI (sm_putI (sm_putI M b_2 (x1).toNatClampNeg 1) b_6 (x1).toNatClampNeg 1) b_10 (x1).toNatClampNeg (-1)) b_14 (x1).toNatClampNeg 0) b_18 (x1).toNatClampNeg 0) b_22 (x1).toNatClampNeg 0) b_26 (x1).toNatClampNeg (y2 + (y1 * y0))) b_30 (x1).toNatClampNeg 0) b_34 (x1).toNatClampNeg (-1))) sm_a170_130 rfl rfl (st_sipush (by decide)) ?_
  refine ru_icmp (pc := 133) (p := 159) (p2 := 136) sm_a170_133 (by decide) rfl ⟨fun hc_38 => ?_, fun hc_38 => ?_⟩
  · have h := h.1 hc_38
    exact h
  · have h := h.2 hc_38
    refine ru_go (t := (137, [some (.inr (some a0)), some (.inl x1), some (.inl x2), some (.inl x3), some (.inl x4), some (.inl x5), some (.inl (y2 + (y1 * y0))), z7], [.inr (some a0)], sm_putI (sm_putI (sm_putI (sm_putI (sm_putI (sm_putI (sm_putI (sm_putI (sm_putI M b_2 (x1).toNatClampNeg 1) b_6 (x1).toNatClampNeg 1) b_10 (x1).toNatClampNeg (-1)) b_14 (x1).toNatClampNeg 0) b_18 (x1).toNatClampNeg 0) b_22 (x1).toNatClampNeg 0) b_26 (x1).toNatClampNeg (y2 + (y1 * y0))) b_30 (x1).toNatClampNeg 0) b_34 (x1).toNatClampNeg (-1))) sm_a170_136 rfl rfl rfl ?_
    refine ru_go (t := (138, [some (.inr (some a0)), some (.inl x1), some (.inl x2), some (.inl x3), some (.inl x4), some (.inl x5), some (.inl (y2 + (y1 * y0))), z7], [.inl x1, .inr (some a0)], sm_putI (sm_putI (sm_putI (sm_putI (sm_putI (sm_putI (sm_putI (sm_putI (sm_putI M b_2 (x1).toNatClampNeg 1) b_6 (x1).toNatClampNeg 1) b_10 (x1).toNatClampNeg (-1)) b_14 (x1).toNatClampNeg 0) b_18 (x1).toNatClampNeg 0) b_22 (x1).toNatClampNeg 0) b_26 (x1).toNatClampNeg (y2 + (y1 * y0))) b_30 (x1).toNatClampNeg 0) b_34 (x1).toNatClampNeg (-1))) sm_a170_137 rfl rfl rfl ?_
    refine ru_go (t := (141, [some (.inr (some a0)), some (.inl x1), some (.inl x2), some (.inl x3), some (.inl x4), some (.inl x5), some (.inl (y2 + (y1 * y0))), z7], [.inl 256, .inl x1, .inr (some a0)], sm_putI (sm_putI (sm_putI (sm_putI (sm_putI (sm_putI (sm_putI (sm_putI (sm_putI M b_2 (x1).toNatClampNeg 1) b_6 (x1).toNatClampNeg 1) b_10 (x1).toNatClampNeg (-1)) b_14 (x1).toNatClampNeg 0) b_18 (x1).toNatClampNeg 0) b_22 (x1).toNatClampNeg 0) b_26 (x1).toNatClampNeg (y2 + (y1 * y0))) b_30 (x1).toNatClampNeg 0) b_34 (x1).toNatClampNeg (-1))) sm_a170_138 rfl rfl (st_sipush (by decide)) ?_
    refine ru_go (t := (142, [some (.inr (some a0)), some (.inl x1), some (.inl x2), some (.inl x3), some (.inl x4), some (.inl x5), some (.inl (y2 + (y1 * y0))), z7], [.inl x2, .inl 256, .inl x1, .inr (some a0)], sm_putI (sm_putI (sm_putI (sm_putI (sm_putI (sm_putI (sm_putI (sm_putI (sm_putI M b_2 (x1).toNatClampNeg 1) b_6 (x1).toNatClampNeg 1) b_10 (x1).toNatClampNeg (-1)) b_14 (x1).toNatClampNeg 0) b_18 (x1).toNatClampNeg 0) b_22 (x1).toNatClampNeg 0) b_26 (x1).toNatClampNeg (y2 + (y1 * y0))) b_30 (x1).toNatClampNeg 0) b_34 (x1).toNatClampNeg (-1))) sm_a170_141 rfl rfl rfl ?_
    refine ru_go (t := (143, [some (.inr (some a0)), some (.inl x1), some (.inl x2), some (.inl x3), some (.inl x4), some (.inl x5), some (.inl (y2 + (y1 * y0))), z7], [.inl (256 * x2), .inl x1, .inr (some a0)], sm_putI (sm_putI (sm_putI (sm_putI (sm_putI (sm_putI (sm_putI (sm_putI (sm_putI M b_2 (x1).toNatClampNeg 1) b_6 (x1).toNatClampNeg 1) b_10 (x1).toNatClampNeg (-1)) b_14 (x1).toNatClampNeg 0) b_18 (x1).toNatClampNeg 0) b_22 (x1).toNatClampNeg 0) b_26 (x1).toNatClampNeg (y2 + (y1 * y0))) b_30 (x1).toNatClampNeg 0) b_34 (x1).toNatClampNeg (-1))) sm_a170_142 rfl rfl rfl ?_
    refine ru_go (t := (144, [some (.inr (some a0)), some (.inl x1), some (.inl x2), some (.inl x3), some (.inl x4), some (.inl x5), some (.inl (y2 + (y1 * y0))), z7], [.inl x3, .inl (256 * x2), .inl x1, .inr (some a0)], sm_putI (sm_putI (sm_putI (sm_putI (sm_putI (sm_putI (sm_putI (sm_putI (sm_putI M b_2 (x1).toNatClampNeg 1) b_6 (x1).toNatClampNeg 1) b_10 (x1).toNatClampNeg (-1)) b_14 (x1).toNatClampNeg 0) b_18 (x1).toNatClampNeg 0) b_22 (x1).toNatClampNeg 0) b_26 (x1).toNatClampNeg (y2 + (y1 * y0))) b_30 (x1).toNatClampNeg 0) b_34 (x1).toNatClampNeg (-1))) sm_a170_143 rfl rfl rfl ?_
    refine ru_go (t := (145, [some (.inr (some a0)), some (.inl x1), some (.inl x2), some (.inl x3), some (.inl x4), some (.inl x5), some (.inl (y2 + (y1 * y0))), z7], [.inl ((256 * x2) + x3), .inl x1, .inr (some a0)], sm_putI (sm_putI (sm_putI (sm_putI (sm_putI (sm_putI (sm_putI (sm_putI (sm_putI M b_2 (x1).toNatClampNeg 1) b_6 (x1).toNatClampNeg 1) b_10 (x1).toNatClampNeg (-1)) b_14 (x1).toNatClampNeg 0) b_18 (x1).toNatClampNeg 0) b_22 (x1).toNatClampNeg 0) b_26 (x1).toNatClampNeg (y2 + (y1 * y0))) b_30 (x1).toNatClampNeg 0) b_34 (x1).toNatClampNeg (-1))) sm_a170_144 rfl rfl rfl ?_
    refine ru_go (t := (147, [some (.inr (some a0)), some (.inl x1), some (.inl x2), some (.inl x3), some (.inl x4), some (.inl x5), some (.inl (y2 + (y1 * y0))), z7], [.inl x4, .inl ((256 * x2) + x3), .inl x1, .inr (some a0)], sm_putI (sm_putI (sm_putI (sm_putI (sm_putI (sm_putI (sm_putI (sm_putI (sm_putI M b_2 (x1).toNatClampNeg 1) b_6 (x1).toNatClampNeg 1) b_10 (x1).toNatClampNeg (-1)) b_14 (x1).toNatClampNeg 0) b_18 (x1).toNatClampNeg 0) b_22 (x1).toNatClampNeg 0) b_26 (x1).toNatClampNeg (y2 + (y1 * y0))) b_30 (x1).toNatClampNeg 0) b_34 (x1).toNatClampNeg (-1))) sm_a170_145 rfl rfl rfl ?_
    refine ru_go (t := (149, [some (.inr (some a0)), some (.inl x1), some (.inl x2), some (.inl x3), some (.inl x4), some (.inl x5), some (.inl (y2 + (y1 * y0))), z7], [.inl x5, .inl x4, .inl ((256 * x2) + x3), .inl x1, .inr (some a0)], sm_putI (sm_putI (sm_putI (sm_putI (sm_putI (sm_putI (sm_putI (sm_putI (sm_putI M b_2 (x1).toNatClampNeg 1) b_6 (x1).toNatClampNeg 1) b_10 (x1).toNatClampNeg (-1)) b_14 (x1).toNatClampNeg 0) b_18 (x1).toNatClampNeg 0) b_22 (x1).toNatClampNeg 0) b_26 (x1).toNatClampNeg (y2 + (y1 * y0))) b_30 (x1).toNatClampNeg 0) b_34 (x1).toNatClampNeg (-1))) sm_a170_147 rfl rfl rfl ?_
    exact ru_call (p := 152) sm_a170_149 rfl (sc_virt (Or.inl rfl) rfl rfl h_1 (Nat.le_of_ble_eq_true rfl)) rfl h
theorem bb_170_152 {d : Nat} {M : sm_M} {Q : Option sm_V → sm_M → Prop} {a0 : Nat} {x1 : Int32} {x2 : Int32} {x3 : Int32} {x4 : Int32} {x5 : Int32} {x6 : Int32} {z7 : Option sm_V} {y0 : Int32}
    (h : ((y0 = 0 → sm_Run (d + 1) 170 159 [some (.inr (some a0)), some (.inl x1), some (.inl x2), some (.inl x3), some (.inl x4), some (.inl x5), some (.inl x6), z7] [] M Q) ∧ (¬ (y0 = 0) → sm_K M a0 = 39 ∧ ∃ b_3, sm_R M a0 25 = some b_3 ∧ sm_iA M b_3 ∧ sm_in_ M b_3 x1 ∧ ((x6 ≤ (sm_I M b_3 (x1).toNatClampNeg) → sm_wA 1 M b_3 ∧ ((x6 ≤ 0 → ∃ b_10, sm_R (sm_putI M b_3 (x1).toNatClampNeg x6) a0 22 = some b_10 ∧ sm_wZ 1 M b_10 ∧ sm_in_ M b_10 x1 ∧ ∃ b_14, sm_R (sm_putI (sm_putI M b_3 (x1).toNatClampNeg x6) b_10 (x1).toNatClampNeg 0) a0 21 = some b_14 ∧ sm_wA 1 M b_14 ∧ sm_in_ M b_14 x1 ∧ Q none (sm_putI (sm_putI (sm_putI M b_3 (x1).toNatClampNeg x6) b_10 (x1).toNatClampNeg 0) b_14 (x1).toNatClampNeg 4)) ∧ (¬ (x6 ≤ 0) → ∃ b_18, sm_R (sm_putI M b_3 (x1).toNatClampNeg x6) a0 22 = some b_18 ∧ sm_wZ 1 M b_18 ∧ sm_in_ M b_18 x1 ∧ ∃ b_22, sm_R (sm_putI (sm_putI M b_3 (x1).toNatClampNeg x6) b_18 (x1).toNatClampNeg 1) a0 21 = some b_22 ∧ sm_wA 1 M b_22 ∧ sm_in_ M b_22 x1 ∧ Q none (sm_putI (sm_putI (sm_putI M b_3 (x1).toNatClampNeg x6) b_18 (x1).toNatClampNeg 1) b_22 (x1).toNatClampNeg 2)))) ∧ (¬ (x6 ≤ (sm_I M b_3 (x1).toNatClampNeg)) → ∃ b_26, sm_R M a0 25 = some b_26 ∧ sm_iA M b_26 ∧ sm_in_ M b_26 x1 ∧ sm_wA 1 M b_3 ∧ ((x6 ≤ 0 → ∃ b_32, sm_R (sm_putI M b_3 (x1).toNatClampNeg (sm_I M b_26 (x1).toNatClampNeg)) a0 22 = some b_32 ∧ sm_wZ 1 M b_32 ∧ sm_in_ M b_32 x1 ∧ ∃ b_36, sm_R (sm_putI (sm_putI M b_3 (x1).toNatClampNeg (sm_I M b_26 (x1).toNatClampNeg)) b_32 (x1).toNatClampNeg 0) a0 21 = some b_36 ∧ sm_wA 1 M b_36 ∧ sm_in_ M b_36 x1 ∧ Q none (sm_putI (sm_putI (sm_putI M b_3 (x1).toNatClampNeg (sm_I M b_26 (x1).toNatClampNeg)) b_32 (x1).toNatClampNeg 0) b_36 (x1).toNatClampNeg 4)) ∧ (¬ (x6 ≤ 0) → ∃ b_40, sm_R (sm_putI M b_3 (x1).toNatClampNeg (sm_I M b_26 (x1).toNatClampNeg)) a0 22 = some b_40 ∧ sm_wZ 1 M b_40 ∧ sm_in_ M b_40 x1 ∧ ∃ b_44, sm_R (sm_putI (sm_putI M b_3 (x1).toNatClampNeg (sm_I M b_26 (x1).toNatClampNeg)) b_40 (x1).toNatClampNeg 1) a0 21 = some b_44 ∧ sm_wA 1 M b_44 ∧ sm_in_ M b_44 x1 ∧ Q none (sm_putI (sm_putI (sm_putI M b_3 (x1).toNatClampNeg (sm_I M b_26 (x1).toNatClampNeg)) b_40 (x1).toNatClampNeg 1) b_44 (x1).toNatClampNeg 2)))))))) :
    sm_Run (d + 1) 170 152 [some (.inr (some a0)), some (.inl x1), some (.inl x2), some (.inl x3), some (.inl x4), some (.inl x5), some (.inl x6), z7] [.inl y0] M Q := by
  refine ru_if (pc := 152) (p := 159) (p2 := 155) sm_a170_152 (by decide) rfl ⟨fun hc_1 => ?_, fun hc_1 => ?_⟩
  · have h := h.1 hc_1
    exact h
  · have h := h.2 hc_1
    refine ru_go (t := (156, [some (.inr (some a0)), some (.inl x1), some (.inl x2), some (.inl x3), some (.inl x4), some (.inl x5), some (.inl x6), z7], [.inl 1], M)) sm_a170_155 rfl rfl (st_iconst (by decide)) ?_
    refine ru_go (t := (160, [some (.inr (some a0)), some (.inl x1), some (.inl x2), some (.inl x3), some (.inl x4), some (.inl x5), some (.inl x6), z7], [.inl 1], M)) sm_a170_156 rfl rfl (st_goto (pc := 156) (by decide)) ?_
    refine ru_go (t := (162, [some (.inr (some a0)), some (.inl x1), some (.inl x2), some (.inl x3), some (.inl x4), some (.inl x5), some (.inl x6), some (.inl 1)], [], M)) sm_a170_160 rfl rfl rfl ?_
    refine ru_go (t := (164, [some (.inr (some a0)), some (.inl x1), some (.inl x2), some (.inl x3), some (.inl x4), some (.inl x5), some (.inl x6), some (.inl 1)], [.inl 1], M)) sm_a170_162 rfl rfl rfl ?_
    refine ru_if (pc := 164) (p := 230) (p2 := 167) sm_a170_164 (by decide) rfl ⟨fun hc => absurd (show (1 : Int32) = 0 from hc) (by decide), fun _ => ?_⟩
    refine ru_go (t := (168, [some (.inr (some a0)), some (.inl x1), some (.inl x2), some (.inl x3), some (.inl x4), some (.inl x5), some (.inl x6), some (.inl 1)], [.inr (some a0)], M)) sm_a170_167 rfl rfl rfl ?_
    obtain ⟨h_2, h⟩ := h
    refine ru_go (t := (171, [some (.inr (some a0)), some (.inl x1), some (.inl x2), some (.inl x3), some (.inl x4), some (.inl x5), some (.inl x6), some (.inl 1)], [.inr (sm_R M a0 25)], M)) sm_a170_168 rfl rfl (st_getR h_2 rfl rfl) ?_
    refine ru_go (t := (172, [some (.inr (some a0)), some (.inl x1), some (.inl x2), some (.inl x3), some (.inl x4), some (.inl x5), some (.inl x6), some (.inl 1)], [.inl x1, .inr (sm_R M a0 25)], M)) sm_a170_171 rfl rfl rfl ?_
    refine ru_go (t := (173, [some (.inr (some a0)), some (.inl x1), some (.inl x2), some (.inl x3), some (.inl x4), some (.inl x5), some (.inl x6), some (.inl 1)], [.inr (some a0), .inl x1, .inr (sm_R M a0 25)], M)) sm_a170_172 rfl rfl rfl ?_
    refine ru_go (t := (176, [some (.inr (some a0)), some (.inl x1), some (.inl x2), some (.inl x3), some (.inl x4), some (.inl x5), some (.inl x6), some (.inl 1)], [.inr (sm_R M a0 25), .inl x1, .inr (sm_R M a0 25)], M)) sm_a170_173 rfl rfl (st_getR h_2 rfl rfl) ?_
    refine ru_go (t := (177, [some (.inr (some a0)), some (.inl x1), some (.inl x2), some (.inl x3), some (.inl x4), some (.inl x5), some (.inl x6), some (.inl 1)], [.inl x1, .inr (sm_R M a0 25), .inl x1, .inr (sm_R M a0 25)], M)) sm_a170_176 rfl rfl rfl ?_
    obtain ⟨b_3, hb_4, h⟩ := h
    rw [hb_4]
    obtain ⟨h_5, h⟩ := h
    obtain ⟨h_6, h⟩ := h
    refine ru_go (t := (178, [some (.inr (some a0)), some (.inl x1), some (.inl x2), some (.inl x3), some (.inl x4), some (.inl x5), some (.inl x6), some (.inl 1)], [.inl (sm_I M b_3 (x1).toNatClampNeg), .inl x1, .inr (some b_3)], M)) sm_a170_177 rfl rfl (st_iald h_5 h_6) ?_
    refine ru_go (t := (180, [some (.inr (some a0)), some (.inl x1), some (.inl x2), some (.inl x3), some (.inl x4), some (.inl x5), some (.inl x6), some (.inl 1)], [.inl x6, .inl (sm_I M b_3 (x1).toNatClampNeg), .inl x1, .inr (some b_3)], M)) sm_a170_178 rfl rfl rfl ?_
    refine ru_icmp (pc := 180) (p := 192) (p2 := 183) sm_a170_180 (by decide) rfl ⟨fun hc_7 => ?_, fun hc_7 => ?_⟩
    · have h := h.1 hc_7
      refine ru_go (t := (194, [some (.inr (some a0)), some (.inl x1), some (.inl x2), some (.inl x3), some (.inl x4), some (.inl x5), some (.inl x6), some (.inl 1)], [.inl x6, .inl x1, .inr (some b_3)], M)) sm_a170_192 rfl rfl rfl ?_
      obtain ⟨h_8, h⟩ := h
      refine ru_go (t := (195, [some (.inr (some a0)), some (.inl x1), some (.inl x2), some (.inl x3), some (.inl x4), some (.inl x5), some (.inl x6), some (.inl 1)], [], sm_putI M b_3 (x1).toNatClampNeg x6)) sm_a170_194 rfl rfl (st_iast h_8 h_6) ?_
      refine ru_go (t := (196, [some (.inr (some a0)), some (.inl x1), some (.inl x2), some (.inl x3), some (.inl x4), some (.inl x5), some (.inl x6), some (.inl 1)], [.inr (some a0)], sm_putI M b_3 (x1).toNatClampNeg x6)) sm_a170_195 rfl rfl rfl ?_
      refine ru_go (t := (199, [some (.inr (some a0)), some (.inl x1), some (.inl x2), some (.inl x3), some (.inl x4), some (.inl x5), some (.inl x6), some (.inl 1)], [.inr (sm_R (sm_putI M b_3 (x1).toNatClampNeg x6) a0 22)], sm_putI M b_3 (x1).toNatClampNeg x6)) sm_a170_196 rfl rfl (st_getR h_2 rfl rfl) ?_
      refine ru_go (t := (200, [some (.inr (some a0)), some (.inl x1), some (.inl x2), some (.inl x3), some (.inl x4), some (.inl x5), some (.inl x6), some (.inl 1)], [.inl x1, .inr (sm_R (sm_putI M b_3 (x1).toNatClampNeg x6) a0 22)], sm_putI M b_3 (x1).toNatClampNeg x6)) sm_a170_199 rfl rfl rfl ?_
      refine ru_go (t := (202, [some (.inr (some a0)), some (.inl x1), some (.inl x2), some (.inl x3), some (.inl x4), some (.inl x5), some (.inl x6), some (.inl 1)], [.inl x6, .inl x1, .inr (sm_R (sm_putI M b_3 (x1).toNatClampNeg x6) a0 22)], sm_putI M b_3 (x1).toNatClampNeg x6)) sm_a170_200 rfl rfl rfl ?_
      refine ru_if (pc := 202) (p := 209) (p2 := 205) sm_a170_202 (by decide) rfl ⟨fun hc_9 => ?_, fun hc_9 => ?_⟩
      · have h := h.1 hc_9
        refine ru_go (t := (210, [some (.inr (some a0)), some (.inl x1), some (.inl x2), some (.inl x3), some (.inl x4), some (.inl x5), some (.inl x6), some (.inl 1)], [.inl 0, .inl x1, .inr (sm_R (sm_putI M b_3 (x1).toNatClampNeg x6) a0 22)], sm_putI M b_3 (x1).toNatClampNeg x6)) sm_a170_209 rfl rfl (st_iconst (by decide)) ?_
        obtain ⟨b_10, hb_11, h⟩ := h
        rw [hb_11]
        obtain ⟨h_12, h⟩ := h
        obtain ⟨h_13, h⟩ := h
        refine ru_go (t := (211, [some (.inr (some a0)), some (.inl x1), some (.inl x2), some (.inl x3), some (.inl x4), some (.inl x5), some (.inl x6), some (.inl 1)], [], sm_putI (sm_putI M b_3 (x1).toNatClampNeg x6) b_10 (x1).toNatClampNeg 0)) sm_a170_210 rfl rfl (st_zast h_12 h_13 (by decide)) ?_
        refine ru_go (t := (212, [some (.inr (some a0)), some (.inl x1), some (.inl x2), some (.inl x3), some (.inl x4), some (.inl x5), some (.inl x6), some (.inl 1)], [.inr (some a0)], sm_putI (sm_putI M b_3 (x1).toNatClampNeg x6) b_10 (x1).toNatClampNeg 0)) sm_a170_211 rfl rfl rfl ?_
        refine ru_go (t := (215, [some (.inr (some a0)), some (.inl x1), some (.inl x2), some (.inl x3), some (.inl x4), some (.inl x5), some (.inl x6), some (.inl 1)], [.inr (sm_R (sm_putI (sm_putI M b_3 (x1).toNatClampNeg x6) b_10 (x1).toNatClampNeg 0) a0 21)], sm_putI (sm_putI M b_3 (x1).toNatClampNeg x6) b_10 (x1).toNatClampNeg 0)) sm_a170_212 rfl rfl (st_getR h_2 rfl rfl) ?_
        refine ru_go (t := (216, [some (.inr (some a0)), some (.inl x1), some (.inl x2), some (.inl x3), some (.inl x4), some (.inl x5), some (.inl x6), some (.inl 1)], [.inl x1, .inr (sm_R (sm_putI (sm_putI M b_3 (x1).toNatClampNeg x6) b_10 (x1).toNatClampNeg 0) a0 21)], sm_putI (sm_putI M b_3 (x1).toNatClampNeg x6) b_10 (x1).toNatClampNeg 0)) sm_a170_215 rfl rfl rfl ?_
        refine ru_go (t := (218, [some (.inr (some a0)), some (.inl x1), some (.inl x2), some (.inl x3), some (.inl x4), some (.inl x5), some (.inl x6), some (.inl 1)], [.inl x6, .inl x1, .inr (sm_R (sm_putI (sm_putI M b_3 (x1).toNatClampNeg x6) b_10 (x1).toNatClampNeg 0) a0 21)], sm_putI (sm_putI M b_3 (x1).toNatClampNeg x6) b_10 (x1).toNatClampNeg 0)) sm_a170_216 rfl rfl rfl ?_
        refine ru_if (pc := 218) (p := 225) (p2 := 221) sm_a170_218 (by decide) rfl ⟨fun _ => ?_, fun hc => absurd hc_9 hc⟩
        refine ru_go (t := (226, [some (.inr (some a0)), some (.inl x1), some (.inl x2), some (.inl x3), some (.inl x4), some (.inl x5), some (.inl x6), some (.inl 1)], [.inl 4, .inl x1, .inr (sm_R (sm_putI (sm_putI M b_3 (x1).toNatClampNeg x6) b_10 (x1).toNatClampNeg 0) a0 21)], sm_putI (sm_putI M b_3 (x1).toNatClampNeg x6) b_10 (x1).toNatClampNeg 0)) sm_a170_225 rfl rfl (st_iconst (by decide)) ?_
        obtain ⟨b_14, hb_15, h⟩ := h
        rw [hb_15]
        obtain ⟨h_16, h⟩ := h
        obtain ⟨h_17, h⟩ := h
        refine ru_go (t := (227, [some (.inr (some a0)), some (.inl x1), some (.inl x2), some (.inl x3), some (.inl x4), some (.inl x5), some (.inl x6), some (.inl 1)], [], sm_putI (sm_putI (sm_putI M b_3 (x1).toNatClampNeg x6) b_10 (x1).toNatClampNeg 0) b_14 (x1).toNatClampNeg 4)) sm_a170_226 rfl rfl (st_iast h_16 h_17) ?_
        refine ru_go (t := (299, [some (.inr (some a0)), some (.inl x1), some (.inl x2), some (.inl x3), some (.inl x4), some (.inl x5), some (.inl x6), some (.inl 1)], [], sm_putI (sm_putI (sm_putI M b_3 (x1).toNatClampNeg x6) b_10 (x1).toNatClampNeg 0) b_14 (x1).toNatClampNeg 4)) sm_a170_227 rfl rfl (st_goto (pc := 227) (by decide)) ?_
        exact ru_ret sm_a170_299 (sm_rvv rfl) h
      · have h := h.2 hc_9
        refine ru_go (t := (206, [some (.inr (some a0)), some (.inl x1), some (.inl x2), some (.inl x3), some (.inl x4), some (.inl x5), some (.inl x6), some (.inl 1)], [.inl 1, .inl x1, .inr (sm_R (sm_putI M b_3 (x1).toNatClampNeg x6) a0 22)], sm_putI M b_3 (x1).toNatClampNeg x6)) sm_a170_205 rfl rfl (st_iconst (by decide)) ?_
        refine ru_go (t := (210, [some (.inr (some a0)), some (.inl x1), some (.inl x2), some (.inl x3), some (.inl x4), some (.inl x5), some (.inl x6), some (.inl 1)], [.inl 1, .inl x1, .inr (sm_R (sm_putI M b_3 (x1).toNatClampNeg x6) a0 22)], sm_putI M b_3 (x1).toNatClampNeg x6)) sm_a170_206 rfl rfl (st_goto (pc := 206) (by decide)) ?_
        obtain ⟨b_18, hb_19, h⟩ := h
        rw [hb_19]
        obtain ⟨h_20, h⟩ := h
        obtain ⟨h_21, h⟩ := h
        refine ru_go (t := (211, [some (.inr (some a0)), some (.inl x1), some (.inl x2), some (.inl x3), some (.inl x4), some (.inl x5), some (.inl x6), some (.inl 1)], [], sm_putI (sm_putI M b_3 (x1).toNatClampNeg x6) b_18 (x1).toNatClampNeg 1)) sm_a170_210 rfl rfl (st_zast h_20 h_21 (by decide)) ?_
        refine ru_go (t := (212, [some (.inr (some a0)), some (.inl x1), some (.inl x2), some (.inl x3), some (.inl x4), some (.inl x5), some (.inl x6), some (.inl 1)], [.inr (some a0)], sm_putI (sm_putI M b_3 (x1).toNatClampNeg x6) b_18 (x1).toNatClampNeg 1)) sm_a170_211 rfl rfl rfl ?_
        refine ru_go (t := (215, [some (.inr (some a0)), some (.inl x1), some (.inl x2), some (.inl x3), some (.inl x4), some (.inl x5), some (.inl x6), some (.inl 1)], [.inr (sm_R (sm_putI (sm_putI M b_3 (x1).toNatClampNeg x6) b_18 (x1).toNatClampNeg 1) a0 21)], sm_putI (sm_putI M b_3 (x1).toNatClampNeg x6) b_18 (x1).toNatClampNeg 1)) sm_a170_212 rfl rfl (st_getR h_2 rfl rfl) ?_
        refine ru_go (t := (216, [some (.inr (some a0)), some (.inl x1), some (.inl x2), some (.inl x3), some (.inl x4), some (.inl x5), some (.inl x6), some (.inl 1)], [.inl x1, .inr (sm_R (sm_putI (sm_putI M b_3 (x1).toNatClampNeg x6) b_18 (x1).toNatClampNeg 1) a0 21)], sm_putI (sm_putI M b_3 (x1).toNatClampNeg x6) b_18 (x1).toNatClampNeg 1)) sm_a170_215 rfl rfl rfl ?_
        refine ru_go (t := (218, [some (.inr (some a0)), some (.inl x1), some (.inl x2), some (.inl x3), some (.inl x4), some (.inl x5), some (.inl x6), some (.inl 1)], [.inl x6, .inl x1, .inr (sm_R (sm_putI (sm_putI M b_3 (x1).toNatClampNeg x6) b_18 (x1).toNatClampNeg 1) a0 21)], sm_putI (sm_putI M b_3 (x1).toNatClampNeg x6) b_18 (x1).toNatClampNeg 1)) sm_a170_216 rfl rfl rfl ?_
        refine ru_if (pc := 218) (p := 225) (p2 := 221) sm_a170_218 (by decide) rfl ⟨fun hc => absurd hc hc_9, fun _ => ?_⟩
        refine ru_go (t := (222, [some (.inr (some a0)), some (.inl x1), some (.inl x2), some (.inl x3), some (.inl x4), some (.inl x5), some (.inl x6), some (.inl 1)], [.inl 2, .inl x1, .inr (sm_R (sm_putI (sm_putI M b_3 (x1).toNatClampNeg x6) b_18 (x1).toNatClampNeg 1) a0 21)], sm_putI (sm_putI M b_3 (x1).toNatClampNeg x6) b_18 (x1).toNatClampNeg 1)) sm_a170_221 rfl rfl (st_iconst (by decide)) ?_
        refine ru_go (t := (226, [some (.inr (some a0)), some (.inl x1), some (.inl x2), some (.inl x3), some (.inl x4), some (.inl x5), some (.inl x6), some (.inl 1)], [.inl 2, .inl x1, .inr (sm_R (sm_putI (sm_putI M b_3 (x1).toNatClampNeg x6) b_18 (x1).toNatClampNeg 1) a0 21)], sm_putI (sm_putI M b_3 (x1).toNatClampNeg x6) b_18 (x1).toNatClampNeg 1)) sm_a170_222 rfl rfl (st_goto (pc := 222) (by decide)) ?_
        obtain ⟨b_22, hb_23, h⟩ := h
        rw [hb_23]
        obtain ⟨h_24, h⟩ := h
        obtain ⟨h_25, h⟩ := h
        refine ru_go (t := (227, [some (.inr (some a0)), some (.inl x1), some (.inl x2), some (.inl x3), some (.inl x4), some (.inl x5), some (.inl x6), some (.inl 1)], [], sm_putI (sm_putI (sm_putI M b_3 (x1).toNatClampNeg x6) b_18 (x1).toNatClampNeg 1) b_22 (x1).toNatClampNeg 2)) sm_a170_226 rfl rfl (st_iast h_24 h_25) ?_
        refine ru_go (t := (299, [some (.inr (some a0)), some (.inl x1), some (.inl x2), some (.inl x3), some (.inl x4), some (.inl x5), some (.inl x6), some (.inl 1)], [], sm_putI (sm_putI (sm_putI M b_3 (x1).toNatClampNeg x6) b_18 (x1).toNatClampNeg 1) b_22 (x1).toNatClampNeg 2)) sm_a170_227 rfl rfl (st_goto (pc := 227) (by decide)) ?_
        exact ru_ret sm_a170_299 (sm_rvv rfl) h
    · have h := h.2 hc_7
      refine ru_go (t := (184, [some (.inr (some a0)), some (.inl x1), some (.inl x2), some (.inl x3), some (.inl x4), some (.inl x5), some (.inl x6), some (.inl 1)], [.inr (some a0), .inl x1, .inr (some b_3)], M)) sm_a170_183 rfl rfl rfl ?_
      refine ru_go (t := (187, [some (.inr (some a0)), some (.inl x1), some (.inl x2), some (.inl x3), some (.inl x4), some (.inl x5), some (.inl x6), some (.inl 1)], [.inr (sm_R M a0 25), .inl x1, .inr (some b_3)], M)) sm_a170_184 rfl rfl (st_getR h_2 rfl rfl) ?_
      refine ru_go (t := (188, [some (.inr (some a0)), some (.inl x1), some (.inl x2), some (.inl x3), some (.inl x4), some (.inl x5), some (.inl x6), some (.inl 1)], [.inl x1, .inr (sm_R M a0 25), .inl x1, .inr (some b_3)], M)) sm_a170_187 rfl rfl rfl ?_
      obtain ⟨b_26, hb_27, h⟩ := h
      rw [hb_27]
      obtain ⟨h_28, h⟩ := h
      obtain ⟨h_29, h⟩ := h
      refine ru_go (t := (189, [some (.inr (some a0)), some (.inl x1), some (.inl x2), some (.inl x3), some (.inl x4), some (.inl x5), some (.inl x6), some (.inl 1)], [.inl (sm_I M b_26 (x1).toNatClampNeg), .inl x1, .inr (some b_3)], M)) sm_a170_188 rfl rfl (st_iald h_28 h_29) ?_
      refine ru_go (t := (194, [some (.inr (some a0)), some (.inl x1), some (.inl x2), some (.inl x3), some (.inl x4), some (.inl x5), some (.inl x6), some (.inl 1)], [.inl (sm_I M b_26 (x1).toNatClampNeg), .inl x1, .inr (some b_3)], M)) sm_a170_189 rfl rfl (st_goto (pc := 189) (by decide)) ?_
      obtain ⟨h_30, h⟩ := h
      refine ru_go (t := (195, [some (.inr (some a0)), some (.inl x1), some (.inl x2), some (.inl x3), some (.inl x4), some (.inl x5), some (.inl x6), some (.inl 1)], [], sm_putI M b_3 (x1).toNatClampNeg (sm_I M b_26 (x1).toNatClampNeg))) sm_a170_194 rfl rfl (st_iast h_30 h_6) ?_
      refine ru_go (t := (196, [some (.inr (some a0)), some (.inl x1), some (.inl x2), some (.inl x3), some (.inl x4), some (.inl x5), some (.inl x6), some (.inl 1)], [.inr (some a0)], sm_putI M b_3 (x1).toNatClampNeg (sm_I M b_26 (x1).toNatClampNeg))) sm_a170_195 rfl rfl rfl ?_
      refine ru_go (t := (199, [some (.inr (some a0)), some (.inl x1), some (.inl x2), some (.inl x3), some (.inl x4), some (.inl x5), some (.inl x6), some (.inl 1)], [.inr (sm_R (sm_putI M b_3 (x1).toNatClampNeg (sm_I M b_26 (x1).toNatClampNeg)) a0 22)], sm_putI M b_3 (x1).toNatClampNeg (sm_I M b_26 (x1).toNatClampNeg))) sm_a170_196 rfl rfl (st_getR h_2 rfl rfl) ?_
      refine ru_go (t := (200, [some (.inr (some a0)), some (.inl x1), some (.inl x2), some (.inl x3), some (.inl x4), some (.inl x5), some (.inl x6), some (.inl 1)], [.inl x1, .inr (sm_R (sm_putI M b_3 (x1).toNatClampNeg (sm_I M b_26 (x1).toNatClampNeg)) a0 22)], sm_putI M b_3 (x1).toNatClampNeg (sm_I M b_26 (x1).toNatClampNeg))) sm_a170_199 rfl rfl rfl ?_
      refine ru_go (t := (202, [some (.inr (some a0)), some (.inl x1), some (.inl x2), some (.inl x3), some (.inl x4), some (.inl x5), some (.inl x6), some (.inl 1)], [.inl x6, .inl x1, .inr (sm_R (sm_putI M b_3 (x1).toNatClampNeg (sm_I M b_26 (x1).toNatClampNeg)) a0 22)], sm_putI M b_3 (x1).toNatClampNeg (sm_I M b_26 (x1).toNatClampNeg))) sm_a170_200 rfl rfl rfl ?_
      refine ru_if (pc := 202) (p := 209) (p2 := 205) sm_a170_202 (by decide) rfl ⟨fun hc_31 => ?_, fun hc_31 => ?_⟩
      · have h := h.1 hc_31
        refine ru_go (t := (210, [some (.inr (some a0)), some (.inl x1), some (.inl x2), some (.inl x3), some (.inl x4), some (.inl x5), some (.inl x6), some (.inl 1)], [.inl 0, .inl x1, .inr (sm_R (sm_putI M b_3 (x1).toNatClampNeg (sm_I M b_26 (x1).toNatClampNeg)) a0 22)], sm_putI M b_3 (x1).toNatClampNeg (sm_I M b_26 (x1).toNatClampNeg))) sm_a170_209 rfl rfl (st_iconst (by decide)) ?_
        obtain ⟨b_32, hb_33, h⟩ := h
        rw [hb_33]
        obtain ⟨h_34, h⟩ := h
        obtain ⟨h_35, h⟩ := h
        refine ru_go (t := (211, [some (.inr (some a0)), some (.inl x1), some (.inl x2), some (.inl x3), some (.inl x4), some (.inl x5), some (.inl x6), some (.inl 1)], [], sm_putI (sm_putI M b_3 (x1).toNatClampNeg (sm_I M b_26 (x1).toNatClampNeg)) b_32 (x1).toNatClampNeg 0)) sm_a170_210 rfl rfl (st_zast h_34 h_35 (by decide)) ?_
        refine ru_go (t := (212, [some (.inr (some a0)), some (.inl x1), some (.inl x2), some (.inl x3), some (.inl x4), some (.inl x5), some (.inl x6), some (.inl 1)], [.inr (some a0)], sm_putI (sm_putI M b_3 (x1).toNatClampNeg (sm_I M b_26 (x1).toNatClampNeg)) b_32 (x1).toNatClampNeg 0)) sm_a170_211 rfl rfl rfl ?_
        refine ru_go (t := (215, [some (.inr (some a0)), some (.inl x1), some (.inl x2), some (.inl x3), some (.inl x4), some (.inl x5), some (.inl x6), some (.inl 1)], [.inr (sm_R (sm_putI (sm_putI M b_3 (x1).toNatClampNeg (sm_I M b_26 (x1).toNatClampNeg)) b_32 (x1).toNatClampNeg 0) a0 21)], sm_putI (sm_putI M b_3 (x1).toNatClampNeg (sm_I M b_26 (x1).toNatClampNeg)) b_32 (x1).toNatClampNeg 0)) sm_a170_212 rfl rfl (st_getR h_2 rfl rfl) ?_
        refine ru_go (t := (216, [some (.inr (some a0)), some (.inl x1), some (.inl x2), some (.inl x3), some (.inl x4), some (.inl x5), some (.inl x6), some (.inl 1)], [.inl x1, .inr (sm_R (sm_putI (sm_putI M b_3 (x1).toNatClampNeg (sm_I M b_26 (x1).toNatClampNeg)) b_32 (x1).toNatClampNeg 0) a0 21)], sm_putI (sm_putI M b_3 (x1).toNatClampNeg (sm_I M b_26 (x1).toNatClampNeg)) b_32 (x1).toNatClampNeg 0)) sm_a170_215 rfl rfl rfl ?_
        refine ru_go (t := (218, [some (.inr (some a0)), some (.inl x1), some (.inl x2), some (.inl x3), some (.inl x4), some (.inl x5), some (.inl x6), some (.inl 1)], [.inl x6, .inl x1, .inr (sm_R (sm_putI (sm_putI M b_3 (x1).toNatClampNeg (sm_I M b_26 (x1).toNatClampNeg)) b_32 (x1).toNatClampNeg 0) a0 21)], sm_putI (sm_putI M b_3 (x1).toNatClampNeg (sm_I M b_26 (x1).toNatClampNeg)) b_32 (x1).toNatClampNeg 0)) sm_a170_216 rfl rfl rfl ?_
        refine ru_if (pc := 218) (p := 225) (p2 := 221) sm_a170_218 (by decide) rfl ⟨fun _ => ?_, fun hc => absurd hc_31 hc⟩
        refine ru_go (t := (226, [some (.inr (some a0)), some (.inl x1), some (.inl x2), some (.inl x3), some (.inl x4), some (.inl x5), some (.inl x6), some (.inl 1)], [.inl 4, .inl x1, .inr (sm_R (sm_putI (sm_putI M b_3 (x1).toNatClampNeg (sm_I M b_26 (x1).toNatClampNeg)) b_32 (x1).toNatClampNeg 0) a0 21)], sm_putI (sm_putI M b_3 (x1).toNatClampNeg (sm_I M b_26 (x1).toNatClampNeg)) b_32 (x1).toNatClampNeg 0)) sm_a170_225 rfl rfl (st_iconst (by decide)) ?_
        obtain ⟨b_36, hb_37, h⟩ := h
        rw [hb_37]
        obtain ⟨h_38, h⟩ := h
        obtain ⟨h_39, h⟩ := h
        refine ru_go (t := (227, [some (.inr (some a0)), some (.inl x1), some (.inl x2), some (.inl x3), some (.inl x4), some (.inl x5), some (.inl x6), some (.inl 1)], [], sm_putI (sm_putI (sm_putI M b_3 (x1).toNatClampNeg (sm_I M b_26 (x1).toNatClampNeg)) b_32 (x1).toNatClampNeg 0) b_36 (x1).toNatClampNeg 4)) sm_a170_226 rfl rfl (st_iast h_38 h_39) ?_
        refine ru_go (t := (299, [some (.inr (some a0)), some (.inl x1), some (.inl x2), some (.inl x3), some (.inl x4), some (.inl x5), some (.inl x6), some (.inl 1)], [], sm_putI (sm_putI (sm_putI M b_3 (x1).toNatClampNeg (sm_I M b_26 (x1).toNatClampNeg)) b_32 (x1).toNatClampNeg 0) b_36 (x1).toNatClampNeg 4)) sm_a170_227 rfl rfl (st_goto (pc := 227) (by decide)) ?_
        exact ru_ret sm_a170_299 (sm_rvv rfl) h
      · have h := h.2 hc_31
        refine ru_go (t := (206, [some (.inr (some a0)), some (.inl x1), some (.inl x2), some (.inl x3), some (.inl x4), some (.inl x5), some (.inl x6), some (.inl 1)], [.inl 1, .inl x1, .inr (sm_R (sm_putI M b_3 (x1).toNatClampNeg (sm_I M b_26 (x1).toNatClampNeg)) a0 22)], sm_putI M b_3 (x1).toNatClampNeg (sm_I M b_26 (x1).toNatClampNeg))) sm_a170_205 rfl rfl (st_iconst (by decide)) ?_
        refine ru_go (t := (210, [some (.inr (some a0)), some (.inl x1), some (.inl x2), some (.inl x3), some (.inl x4), some (.inl x5), some (.inl x6), some (.inl 1)], [.inl 1, .inl x1, .inr (sm_R (sm_putI M b_3 (x1).toNatClampNeg (sm_I M b_26 (x1).toNatClampNeg)) a0 22)], sm_putI M b_3 (x1).toNatClampNeg (sm_I M b_26 (x1).toNatClampNeg))) sm_a170_206 rfl rfl (st_goto (pc := 206) (by decide)) ?_
        obtain ⟨b_40, hb_41, h⟩ := h
        rw [hb_41]
        obtain ⟨h_42, h⟩ := h
        obtain ⟨h_43, h⟩ := h
        refine ru_go (t := (211, [some (.inr (some a0)), some (.inl x1), some (.inl x2), some (.inl x3), some (.inl x4), some (.inl x5), some (.inl x6), some (.inl 1)], [], sm_putI (sm_putI M b_3 (x1).toNatClampNeg (sm_I M b_26 (x1).toNatClampNeg)) b_40 (x1).toNatClampNeg 1)) sm_a170_210 rfl rfl (st_zast h_42 h_43 (by decide)) ?_
        refine ru_go (t := (212, [some (.inr (some a0)), some (.inl x1), some (.inl x2), some (.inl x3), some (.inl x4), some (.inl x5), some (.inl x6), some (.inl 1)], [.inr (some a0)], sm_putI (sm_putI M b_3 (x1).toNatClampNeg (sm_I M b_26 (x1).toNatClampNeg)) b_40 (x1).toNatClampNeg 1)) sm_a170_211 rfl rfl rfl ?_
        refine ru_go (t := (215, [some (.inr (some a0)), some (.inl x1), some (.inl x2), some (.inl x3), some (.inl x4), some (.inl x5), some (.inl x6), some (.inl 1)], [.inr (sm_R (sm_putI (sm_putI M b_3 (x1).toNatClampNeg (sm_I M b_26 (x1).toNatClampNeg)) b_40 (x1).toNatClampNeg 1) a0 21)], sm_putI (sm_putI M b_3 (x1).toNatClampNeg (sm_I M b_26 (x1).toNatClampNeg)) b_40 (x1).toNatClampNeg 1)) sm_a170_212 rfl rfl (st_getR h_2 rfl rfl) ?_
        refine ru_go (t := (216, [some (.inr (some a0)), some (.inl x1), some (.inl x2), some (.inl x3), some (.inl x4), some (.inl x5), some (.inl x6), some (.inl 1)], [.inl x1, .inr (sm_R (sm_putI (sm_putI M b_3 (x1).toNatClampNeg (sm_I M b_26 (x1).toNatClampNeg)) b_40 (x1).toNatClampNeg 1) a0 21)], sm_putI (sm_putI M b_3 (x1).toNatClampNeg (sm_I M b_26 (x1).toNatClampNeg)) b_40 (x1).toNatClampNeg 1)) sm_a170_215 rfl rfl rfl ?_
        refine ru_go (t := (218, [some (.inr (some a0)), some (.inl x1), some (.inl x2), some (.inl x3), some (.inl x4), some (.inl x5), some (.inl x6), some (.inl 1)], [.inl x6, .inl x1, .inr (sm_R (sm_putI (sm_putI M b_3 (x1).toNatClampNeg (sm_I M b_26 (x1).toNatClampNeg)) b_40 (x1).toNatClampNeg 1) a0 21)], sm_putI (sm_putI M b_3 (x1).toNatClampNeg (sm_I M b_26 (x1).toNatClampNeg)) b_40 (x1).toNatClampNeg 1)) sm_a170_216 rfl rfl rfl ?_
        refine ru_if (pc := 218) (p := 225) (p2 := 221) sm_a170_218 (by decide) rfl ⟨fun hc => absurd hc hc_31, fun _ => ?_⟩
        refine ru_go (t := (222, [some (.inr (some a0)), some (.inl x1), some (.inl x2), some (.inl x3), some (.inl x4), some (.inl x5), some (.inl x6), some (.inl 1)], [.inl 2, .inl x1, .inr (sm_R (sm_putI (sm_putI M b_3 (x1).toNatClampNeg (sm_I M b_26 (x1).toNatClampNeg)) b_40 (x1).toNatClampNeg 1) a0 21)], sm_putI (sm_putI M b_3 (x1).toNatClampNeg (sm_I M b_26 (x1).toNatClampNeg)) b_40 (x1).toNatClampNeg 1)) sm_a170_221 rfl rfl (st_iconst (by decide)) ?_
        refine ru_go (t := (226, [some (.inr (some a0)), some (.inl x1), some (.inl x2), some (.inl x3), some (.inl x4), some (.inl x5), some (.inl x6), some (.inl 1)], [.inl 2, .inl x1, .inr (sm_R (sm_putI (sm_putI M b_3 (x1).toNatClampNeg (sm_I M b_26 (x1).toNatClampNeg)) b_40 (x1).toNatClampNeg 1) a0 21)], sm_putI (sm_putI M b_3 (x1).toNatClampNeg (sm_I M b_26 (x1).toNatClampNeg)) b_40 (x1).toNatClampNeg 1)) sm_a170_222 rfl rfl (st_goto (pc := 222) (by decide)) ?_
        obtain ⟨b_44, hb_45, h⟩ := h
        rw [hb_45]
        obtain ⟨h_46, h⟩ := h
        obtain ⟨h_47, h⟩ := h
        refine ru_go (t := (227, [some (.inr (some a0)), some (.inl x1), some (.inl x2), some (.inl x3), some (.inl x4), some (.inl x5), some (.inl x6), some (.inl 1)], [], sm_putI (sm_putI (sm_putI M b_3 (x1).toNatClampNeg (sm_I M b_26 (x1).toNatClampNeg)) b_40 (x1).toNatClampNeg 1) b_44 (x1).toNatClampNeg 2)) sm_a170_226 rfl rfl (st_iast h_46 h_47) ?_
        refine ru_go (t := (299, [some (.inr (some a0)), some (.inl x1), some (.inl x2), some (.inl x3), some (.inl x4), some (.inl x5), some (.inl x6), some (.inl 1)], [], sm_putI (sm_putI (sm_putI M b_3 (x1).toNatClampNeg (sm_I M b_26 (x1).toNatClampNeg)) b_40 (x1).toNatClampNeg 1) b_44 (x1).toNatClampNeg 2)) sm_a170_227 rfl rfl (st_goto (pc := 227) (by decide)) ?_
        exact ru_ret sm_a170_299 (sm_rvv rfl) h
theorem bb_170_159 {d : Nat} {M : sm_M} {Q : Option sm_V → sm_M → Prop} {a0 : Nat} {x1 : Int32} {x2 : Int32} {x3 : Int32} {x4 : Int32} {x5 : Int32} {x6 : Int32} {z7 : Option sm_V}
    (h : ((¬ x2 = 64 → sm_Run (d + 1) 170 278 [some (.inr (some a0)), some (.inl x1), some (.inl x2), some (.inl x3), some (.inl x4), some (.inl x5), some (.inl x6), some (.inl 0)] [] M Q) ∧ (¬ (¬ x2 = 64) → ((¬ x3 = 1 → sm_Run (d + 1) 170 278 [some (.inr (some a0)), some (.inl x1), some (.inl x2), some (.inl x3), some (.inl x4), some (.inl x5), some (.inl x6), some (.inl 0)] [] M Q) ∧ (¬ (¬ x3 = 1) → ((64 < (x4 + x6) → sm_Run (d + 1) 170 278 [some (.inr (some a0)), some (.inl x1), some (.inl x2), some (.inl x3), some (.inl x4), some (.inl x5), some (.inl x6), some (.inl 0)] [] M Q) ∧ (¬ (64 < (x4 + x6)) → sm_K M a0 = 39 ∧ ∃ b_5, sm_R M a0 31 = some b_5 ∧ sm_wA 1 M b_5 ∧ sm_in_ M b_5 x1 ∧ ((x6 ≤ 0 → ∃ b_10, sm_R (sm_putI M b_5 (x1).toNatClampNeg x4) a0 21 = some b_10 ∧ sm_wA 1 M b_10 ∧ sm_in_ M b_10 x1 ∧ Q none (sm_putI (sm_putI M b_5 (x1).toNatClampNeg x4) b_10 (x1).toNatClampNeg 4)) ∧ (¬ (x6 ≤ 0) → ∃ b_14, sm_R (sm_putI M b_5 (x1).toNatClampNeg x4) a0 21 = some b_14 ∧ sm_wA 1 M b_14 ∧ sm_in_ M b_14 x1 ∧ Q none (sm_putI (sm_putI M b_5 (x1).toNatClampNeg x4) b_14 (x1).toNatClampNeg 3)))))))))) :
    sm_Run (d + 1) 170 159 [some (.inr (some a0)), some (.inl x1), some (.inl x2), some (.inl x3), some (.inl x4), some (.inl x5), some (.inl x6), z7] [] M Q := by
  refine ru_go (t := (160, [some (.inr (some a0)), some (.inl x1), some (.inl x2), some (.inl x3), some (.inl x4), some (.inl x5), some (.inl x6), z7], [.inl 0], M)) sm_a170_159 rfl rfl (st_iconst (by decide)) ?_
  refine ru_go (t := (162, [some (.inr (some a0)), some (.inl x1), some (.inl x2), some (.inl x3), some (.inl x4), some (.inl x5), some (.inl x6), some (.inl 0)], [], M)) sm_a170_160 rfl rfl rfl ?_
  refine ru_go (t := (164, [some (.inr (some a0)), some (.inl x1), some (.inl x2), some (.inl x3), some (.inl x4), some (.inl x5), some (.inl x6), some (.inl 0)], [.inl 0], M)) sm_a170_162 rfl rfl rfl ?_
  refine ru_if (pc := 164) (p := 230) (p2 := 167) sm_a170_164 (by decide) rfl ⟨fun _ => ?_, fun hc => absurd (show sm_cP .eq 0 0 from (by show (0 : Int32) = 0; decide)) hc⟩
  refine ru_go (t := (231, [some (.inr (some a0)), some (.inl x1), some (.inl x2), some (.inl x3), some (.inl x4), some (.inl x5), some (.inl x6), some (.inl 0)], [.inl x2], M)) sm_a170_230 rfl rfl rfl ?_
  refine ru_go (t := (233, [some (.inr (some a0)), some (.inl x1), some (.inl x2), some (.inl x3), some (.inl x4), some (.inl x5), some (.inl x6), some (.inl 0)], [.inl 64, .inl x2], M)) sm_a170_231 rfl rfl (st_bipush (by decide)) ?_
  refine ru_icmp (pc := 233) (p := 278) (p2 := 236) sm_a170_233 (by decide) rfl ⟨fun hc_1 => ?_, fun hc_1 => ?_⟩
  · have h := h.1 hc_1
    exact h
  · have h := h.2 hc_1
    refine ru_go (t := (237, [some (.inr (some a0)), some (.inl x1), some (.inl x2), some (.inl x3), some (.inl x4), some (.inl x5), some (.inl x6), some (.inl 0)], [.inl x3], M)) sm_a170_236 rfl rfl rfl ?_
    refine ru_go (t := (238, [some (.inr (some a0)), some (.inl x1), some (.inl x2), some (.inl x3), some (.inl x4), some (.inl x5), some (.inl x6), some (.inl 0)], [.inl 1, .inl x3], M)) sm_a170_237 rfl rfl (st_iconst (by decide)) ?_
    refine ru_icmp (pc := 238) (p := 278) (p2 := 241) sm_a170_238 (by decide) rfl ⟨fun hc_2 => ?_, fun hc_2 => ?_⟩
    · have h := h.1 hc_2
      exact h
    · have h := h.2 hc_2
      refine ru_go (t := (243, [some (.inr (some a0)), some (.inl x1), some (.inl x2), some (.inl x3), some (.inl x4), some (.inl x5), some (.inl x6), some (.inl 0)], [.inl x4], M)) sm_a170_241 rfl rfl rfl ?_
      refine ru_go (t := (245, [some (.inr (some a0)), some (.inl x1), some (.inl x2), some (.inl x3), some (.inl x4), some (.inl x5), some (.inl x6), some (.inl 0)], [.inl x6, .inl x4], M)) sm_a170_243 rfl rfl rfl ?_
      refine ru_go (t := (246, [some (.inr (some a0)), some (.inl x1), some (.inl x2), some (.inl x3), some (.inl x4), some (.inl x5), some (.inl x6), some (.inl 0)], [.inl (x4 + x6)], M)) sm_a170_245 rfl rfl rfl ?_
      refine ru_go (t := (248, [some (.inr (some a0)), some (.inl x1), some (.inl x2), some (.inl x3), some (.inl x4), some (.inl x5), some (.inl x6), some (.inl 0)], [.inl 64, .inl (x4 + x6)], M)) sm_a170_246 rfl rfl (st_bipush (by decide)) ?_
      refine ru_icmp (pc := 248) (p := 278) (p2 := 251) sm_a170_248 (by decide) rfl ⟨fun hc_3 => ?_, fun hc_3 => ?_⟩
      · have h := h.1 hc_3
        exact h
      · have h := h.2 hc_3
        refine ru_go (t := (252, [some (.inr (some a0)), some (.inl x1), some (.inl x2), some (.inl x3), some (.inl x4), some (.inl x5), some (.inl x6), some (.inl 0)], [.inr (some a0)], M)) sm_a170_251 rfl rfl rfl ?_
        obtain ⟨h_4, h⟩ := h
        refine ru_go (t := (255, [some (.inr (some a0)), some (.inl x1), some (.inl x2), some (.inl x3), some (.inl x4), some (.inl x5), some (.inl x6), some (.inl 0)], [.inr (sm_R M a0 31)], M)) sm_a170_252 rfl rfl (st_getR h_4 rfl rfl) ?_
        refine ru_go (t := (256, [some (.inr (some a0)), some (.inl x1), some (.inl x2), some (.inl x3), some (.inl x4), some (.inl x5), some (.inl x6), some (.inl 0)], [.inl x1, .inr (sm_R M a0 31)], M)) sm_a170_255 rfl rfl rfl ?_
        refine ru_go (t := (258, [some (.inr (some a0)), some (.inl x1), some (.inl x2), some (.inl x3), some (.inl x4), some (.inl x5), some (.inl x6), some (.inl 0)], [.inl x4, .inl x1, .inr (sm_R M a0 31)], M)) sm_a170_256 rfl rfl rfl ?_
        obtain ⟨b_5, hb_6, h⟩ := h
        rw [hb_6]
        obtain ⟨h_7, h⟩ := h
        obtain ⟨h_8, h⟩ := h
        refine ru_go (t := (259, [some (.inr (some a0)), some (.inl x1), some (.inl x2), some (.inl x3), some (.inl x4), some (.inl x5), some (.inl x6), some (.inl 0)], [], sm_putI M b_5 (x1).toNatClampNeg x4)) sm_a170_258 rfl rfl (st_iast h_7 h_8) ?_
        refine ru_go (t := (260, [some (.inr (some a0)), some (.inl x1), some (.inl x2), some (.inl x3), some (.inl x4), some (.inl x5), some (.inl x6), some (.inl 0)], [.inr (some a0)], sm_putI M b_5 (x1).toNatClampNeg x4)) sm_a170_259 rfl rfl rfl ?_
        refine ru_go (t := (263, [some (.inr (some a0)), some (.inl x1), some (.inl x2), some (.inl x3), some (.inl x4), some (.inl x5), some (.inl x6), some (.inl 0)], [.inr (sm_R (sm_putI M b_5 (x1).toNatClampNeg x4) a0 21)], sm_putI M b_5 (x1).toNatClampNeg x4)) sm_a170_260 rfl rfl (st_getR h_4 rfl rfl) ?_
        refine ru_go (t := (264, [some (.inr (some a0)), some (.inl x1), some (.inl x2), some (.inl x3), some (.inl x4), some (.inl x5), some (.inl x6), some (.inl 0)], [.inl x1, .inr (sm_R (sm_putI M b_5 (x1).toNatClampNeg x4) a0 21)], sm_putI M b_5 (x1).toNatClampNeg x4)) sm_a170_263 rfl rfl rfl ?_
        refine ru_go (t := (266, [some (.inr (some a0)), some (.inl x1), some (.inl x2), some (.inl x3), some (.inl x4), some (.inl x5), some (.inl x6), some (.inl 0)], [.inl x6, .inl x1, .inr (sm_R (sm_putI M b_5 (x1).toNatClampNeg x4) a0 21)], sm_putI M b_5 (x1).toNatClampNeg x4)) sm_a170_264 rfl rfl rfl ?_
        refine ru_if (pc := 266) (p := 273) (p2 := 269) sm_a170_266 (by decide) rfl ⟨fun hc_9 => ?_, fun hc_9 => ?_⟩
        · have h := h.1 hc_9
          refine ru_go (t := (274, [some (.inr (some a0)), some (.inl x1), some (.inl x2), some (.inl x3), some (.inl x4), some (.inl x5), some (.inl x6), some (.inl 0)], [.inl 4, .inl x1, .inr (sm_R (sm_putI M b_5 (x1).toNatClampNeg x4) a0 21)], sm_putI M b_5 (x1).toNatClampNeg x4)) sm_a170_273 rfl rfl (st_iconst (by decide)) ?_
          obtain ⟨b_10, hb_11, h⟩ := h
          rw [hb_11]
          obtain ⟨h_12, h⟩ := h
          obtain ⟨h_13, h⟩ := h
          refine ru_go (t := (275, [some (.inr (some a0)), some (.inl x1), some (.inl x2), some (.inl x3), some (.inl x4), some (.inl x5), some (.inl x6), some (.inl 0)], [], sm_putI (sm_putI M b_5 (x1).toNatClampNeg x4) b_10 (x1).toNatClampNeg 4)) sm_a170_274 rfl rfl (st_iast h_12 h_13) ?_
          refine ru_go (t := (299, [some (.inr (some a0)), some (.inl x1), some (.inl x2), some (.inl x3), some (.inl x4), some (.inl x5), some (.inl x6), some (.inl 0)], [], sm_putI (sm_putI M b_5 (x1).toNatClampNeg x4) b_10 (x1).toNatClampNeg 4)) sm_a170_275 rfl rfl (st_goto (pc := 275) (by decide)) ?_
          exact ru_ret sm_a170_299 (sm_rvv rfl) h
        · have h := h.2 hc_9
          refine ru_go (t := (270, [some (.inr (some a0)), some (.inl x1), some (.inl x2), some (.inl x3), some (.inl x4), some (.inl x5), some (.inl x6), some (.inl 0)], [.inl 3, .inl x1, .inr (sm_R (sm_putI M b_5 (x1).toNatClampNeg x4) a0 21)], sm_putI M b_5 (x1).toNatClampNeg x4)) sm_a170_269 rfl rfl (st_iconst (by decide)) ?_
          refine ru_go (t := (274, [some (.inr (some a0)), some (.inl x1), some (.inl x2), some (.inl x3), some (.inl x4), some (.inl x5), some (.inl x6), some (.inl 0)], [.inl 3, .inl x1, .inr (sm_R (sm_putI M b_5 (x1).toNatClampNeg x4) a0 21)], sm_putI M b_5 (x1).toNatClampNeg x4)) sm_a170_270 rfl rfl (st_goto (pc := 270) (by decide)) ?_
          obtain ⟨b_14, hb_15, h⟩ := h
          rw [hb_15]
          obtain ⟨h_16, h⟩ := h
          obtain ⟨h_17, h⟩ := h
          refine ru_go (t := (275, [some (.inr (some a0)), some (.inl x1), some (.inl x2), some (.inl x3), some (.inl x4), some (.inl x5), some (.inl x6), some (.inl 0)], [], sm_putI (sm_putI M b_5 (x1).toNatClampNeg x4) b_14 (x1).toNatClampNeg 3)) sm_a170_274 rfl rfl (st_iast h_16 h_17) ?_
          refine ru_go (t := (299, [some (.inr (some a0)), some (.inl x1), some (.inl x2), some (.inl x3), some (.inl x4), some (.inl x5), some (.inl x6), some (.inl 0)], [], sm_putI (sm_putI M b_5 (x1).toNatClampNeg x4) b_14 (x1).toNatClampNeg 3)) sm_a170_275 rfl rfl (st_goto (pc := 275) (by decide)) ?_
          exact ru_ret sm_a170_299 (sm_rvv rfl) h
theorem bb_170_278 {d : Nat} {M : sm_M} {Q : Option sm_V → sm_M → Prop} {a0 : Nat} {x1 : Int32} {x2 : Int32} {x3 : Int32} {x4 : Int32} {x5 : Int32} {x6 : Int32} {x7 : Int32}
    (h : ((¬ x6 = 0 → Q none M) ∧ (¬ (¬ x6 = 0) → sm_K M a0 = 39 ∧ sm_Run d 174 0 (sm_ent 174 [.inr (some a0), .inl x1, .inl ((256 * x2) + x3), .inl x4, .inl x5]) [] M (fun v M1 => sm_Run (d + 1) 170 299 [some (.inr (some a0)), some (.inl x1), some (.inl x2), some (.inl x3), some (.inl x4), some (.inl x5), some (.inl x6), some (.inl x7)] (v.toList ++ []) M1 Q)))) :
    sm_Run (d + 1) 170 278 [some (.inr (some a0)), some (.inl x1), some (.inl x2), some (.inl x3), some (.inl x4), some (.inl x5), some (.inl x6), some (.inl x7)] [] M Q := by
  refine ru_go (t := (280, [some (.inr (some a0)), some (.inl x1), some (.inl x2), some (.inl x3), some (.inl x4), some (.inl x5), some (.inl x6), some (.inl x7)], [.inl x6], M)) sm_a170_278 rfl rfl rfl ?_
  refine ru_if (pc := 280) (p := 299) (p2 := 283) sm_a170_280 (by decide) rfl ⟨fun hc_1 => ?_, fun hc_1 => ?_⟩
  · have h := h.1 hc_1
    exact ru_ret sm_a170_299 (sm_rvv rfl) h
  · have h := h.2 hc_1
    refine ru_go (t := (284, [some (.inr (some a0)), some (.inl x1), some (.inl x2), some (.inl x3), some (.inl x4), some (.inl x5), some (.inl x6), some (.inl x7)], [.inr (some a0)], M)) sm_a170_283 rfl rfl rfl ?_
    refine ru_go (t := (285, [some (.inr (some a0)), some (.inl x1), some (.inl x2), some (.inl x3), some (.inl x4), some (.inl x5), some (.inl x6), some (.inl x7)], [.inl x1, .inr (some a0)], M)) sm_a170_284 rfl rfl rfl ?_
    refine ru_go (t := (288, [some (.inr (some a0)), some (.inl x1), some (.inl x2), some (.inl x3), some (.inl x4), some (.inl x5), some (.inl x6), some (.inl x7)], [.inl 256, .inl x1, .inr (some a0)], M)) sm_a170_285 rfl rfl (st_sipush (by decide)) ?_
    refine ru_go (t := (289, [some (.inr (some a0)), some (.inl x1), some (.inl x2), some (.inl x3), some (.inl x4), some (.inl x5), some (.inl x6), some (.inl x7)], [.inl x2, .inl 256, .inl x1, .inr (some a0)], M)) sm_a170_288 rfl rfl rfl ?_
    refine ru_go (t := (290, [some (.inr (some a0)), some (.inl x1), some (.inl x2), some (.inl x3), some (.inl x4), some (.inl x5), some (.inl x6), some (.inl x7)], [.inl (256 * x2), .inl x1, .inr (some a0)], M)) sm_a170_289 rfl rfl rfl ?_
    refine ru_go (t := (291, [some (.inr (some a0)), some (.inl x1), some (.inl x2), some (.inl x3), some (.inl x4), some (.inl x5), some (.inl x6), some (.inl x7)], [.inl x3, .inl (256 * x2), .inl x1, .inr (some a0)], M)) sm_a170_290 rfl rfl rfl ?_
    refine ru_go (t := (292, [some (.inr (some a0)), some (.inl x1), some (.inl x2), some (.inl x3), some (.inl x4), some (.inl x5), some (.inl x6), some (.inl x7)], [.inl ((256 * x2) + x3), .inl x1, .inr (some a0)], M)) sm_a170_291 rfl rfl rfl ?_
    refine ru_go (t := (294, [some (.inr (some a0)), some (.inl x1), some (.inl x2), some (.inl x3), some (.inl x4), some (.inl x5), some (.inl x6), some (.inl x7)], [.inl x4, .inl ((256 * x2) + x3), .inl x1, .inr (some a0)], M)) sm_a170_292 rfl rfl rfl ?_
    refine ru_go (t := (296, [some (.inr (some a0)), some (.inl x1), some (.inl x2), some (.inl x3), some (.inl x4), some (.inl x5), some (.inl x6), some (.inl x7)], [.inl x5, .inl x4, .inl ((256 * x2) + x3), .inl x1, .inr (some a0)], M)) sm_a170_294 rfl rfl rfl ?_
    obtain ⟨h_2, h⟩ := h
    exact ru_call (p := 299) sm_a170_296 rfl (sc_virt (Or.inl rfl) rfl rfl h_2 (Nat.le_of_ble_eq_true rfl)) rfl h
theorem bb_170_299 {d : Nat} {M : sm_M} {Q : Option sm_V → sm_M → Prop} {a0 : Nat} {x1 : Int32} {x2 : Int32} {x3 : Int32} {x4 : Int32} {x5 : Int32} {x6 : Int32} {x7 : Int32}
    (h : Q none M) :
    sm_Run (d + 1) 170 299 [some (.inr (some a0)), some (.inl x1), some (.inl x2), some (.inl x3), some (.inl x4), some (.inl x5), some (.inl x6), some (.inl x7)] [] M Q := by
  exact ru_ret sm_a170_299 (sm_rvv rfl) h

/-! WireBusModel.replies:(IIII)Z -/
theorem sm_a171_0 : sm_at 171 0 = some (.aload_n 0, 1, (0, 0, 0, 0)) := by decide +kernel
theorem sm_a171_1 : sm_at 171 1 = some (.iload_n 1, 1, (0, 0, 0, 0)) := by decide +kernel
theorem sm_a171_2 : sm_at 171 2 = some (.iload 4, 2, (0, 0, 0, 0)) := by decide +kernel
theorem sm_a171_4 : sm_at 171 4 = some (.invokevirtual 296, 3, (10, 155, 12, 1470)) := by decide +kernel
theorem sm_a171_7 : sm_at 171 7 = some (.istore 5, 2, (0, 0, 0, 0)) := by decide +kernel
theorem sm_a171_9 : sm_at 171 9 = some (.iload_n 2, 1, (0, 0, 0, 0)) := by decide +kernel
theorem sm_a171_10 : sm_at 171 10 = some (.ldc_w 318, 3, (32768, 0, 0, 1514)) := by decide +kernel
theorem sm_a171_13 : sm_at 171 13 = some (.if_icmp .ne 18, 3, (0, 0, 0, 0)) := by decide +kernel
theorem sm_a171_16 : sm_at 171 16 = some (.aload_n 0, 1, (0, 0, 0, 0)) := by decide +kernel
theorem sm_a171_17 : sm_at 171 17 = some (.iload_n 1, 1, (0, 0, 0, 0)) := by decide +kernel
theorem sm_a171_18 : sm_at 171 18 = some (.iconst 0, 1, (0, 0, 0, 0)) := by decide +kernel
theorem sm_a171_19 : sm_at 171 19 = some (.invokevirtual 319, 3, (10, 169, 12, 1572)) := by decide +kernel
theorem sm_a171_22 : sm_at 171 22 = some (.aload_n 0, 1, (0, 0, 0, 0)) := by decide +kernel
theorem sm_a171_23 : sm_at 171 23 = some (.iload_n 1, 1, (0, 0, 0, 0)) := by decide +kernel
theorem sm_a171_24 : sm_at 171 24 = some (.iconst 0, 1, (0, 0, 0, 0)) := by decide +kernel
theorem sm_a171_25 : sm_at 171 25 = some (.invokevirtual 319, 3, (10, 169, 12, 1572)) := by decide +kernel
theorem sm_a171_28 : sm_at 171 28 = some (.goto 189, 3, (0, 0, 0, 0)) := by decide +kernel
theorem sm_a171_31 : sm_at 171 31 = some (.iload_n 2, 1, (0, 0, 0, 0)) := by decide +kernel
theorem sm_a171_32 : sm_at 171 32 = some (.ldc_w 322, 3, (33280, 0, 0, 1576)) := by decide +kernel
theorem sm_a171_35 : sm_at 171 35 = some (.if_icmp .ne 57, 3, (0, 0, 0, 0)) := by decide +kernel
theorem sm_a171_38 : sm_at 171 38 = some (.iload 5, 2, (0, 0, 0, 0)) := by decide +kernel
theorem sm_a171_40 : sm_at 171 40 = some (.iconst (-1), 1, (0, 0, 0, 0)) := by decide +kernel
theorem sm_a171_41 : sm_at 171 41 = some (.if_icmp .ne 16, 3, (0, 0, 0, 0)) := by decide +kernel
theorem sm_a171_44 : sm_at 171 44 = some (.iload 4, 2, (0, 0, 0, 0)) := by decide +kernel
theorem sm_a171_46 : sm_at 171 46 = some (.ifCond .eq 11, 3, (0, 0, 0, 0)) := by decide +kernel
theorem sm_a171_49 : sm_at 171 49 = some (.iload 4, 2, (0, 0, 0, 0)) := by decide +kernel
theorem sm_a171_51 : sm_at 171 51 = some (.sipush 128, 3, (0, 0, 0, 0)) := by decide +kernel
theorem sm_a171_54 : sm_at 171 54 = some (.if_icmp .ne 38, 3, (0, 0, 0, 0)) := by decide +kernel
theorem sm_a171_57 : sm_at 171 57 = some (.aload_n 0, 1, (0, 0, 0, 0)) := by decide +kernel
theorem sm_a171_58 : sm_at 171 58 = some (.iload_n 1, 1, (0, 0, 0, 0)) := by decide +kernel
theorem sm_a171_59 : sm_at 171 59 = some (.iload 5, 2, (0, 0, 0, 0)) := by decide +kernel
theorem sm_a171_61 : sm_at 171 61 = some (.iconst (-1), 1, (0, 0, 0, 0)) := by decide +kernel
theorem sm_a171_62 : sm_at 171 62 = some (.if_icmp .eq 17, 3, (0, 0, 0, 0)) := by decide +kernel
theorem sm_a171_65 : sm_at 171 65 = some (.aload_n 0, 1, (0, 0, 0, 0)) := by decide +kernel
theorem sm_a171_66 : sm_at 171 66 = some (.getfield 46, 3, (12, 14, 0, 1197)) := by decide +kernel
theorem sm_a171_69 : sm_at 171 69 = some (.iload 5, 2, (0, 0, 0, 0)) := by decide +kernel
theorem sm_a171_71 : sm_at 171 71 = some (.baload, 1, (0, 0, 0, 0)) := by decide +kernel
theorem sm_a171_72 : sm_at 171 72 = some (.ifCond .eq 7, 3, (0, 0, 0, 0)) := by decide +kernel
theorem sm_a171_75 : sm_at 171 75 = some (.iconst 1, 1, (0, 0, 0, 0)) := by decide +kernel
theorem sm_a171_76 : sm_at 171 76 = some (.goto 4, 3, (0, 0, 0, 0)) := by decide +kernel
theorem sm_a171_79 : sm_at 171 79 = some (.iconst 0, 1, (0, 0, 0, 0)) := by decide +kernel
theorem sm_a171_80 : sm_at 171 80 = some (.invokevirtual 319, 3, (10, 169, 12, 1572)) := by decide +kernel
theorem sm_a171_83 : sm_at 171 83 = some (.aload_n 0, 1, (0, 0, 0, 0)) := by decide +kernel
theorem sm_a171_84 : sm_at 171 84 = some (.iload_n 1, 1, (0, 0, 0, 0)) := by decide +kernel
theorem sm_a171_85 : sm_at 171 85 = some (.iconst 0, 1, (0, 0, 0, 0)) := by decide +kernel
theorem sm_a171_86 : sm_at 171 86 = some (.invokevirtual 319, 3, (10, 169, 12, 1572)) := by decide +kernel
theorem sm_a171_89 : sm_at 171 89 = some (.goto 128, 3, (0, 0, 0, 0)) := by decide +kernel
theorem sm_a171_92 : sm_at 171 92 = some (.iload_n 2, 1, (0, 0, 0, 0)) := by decide +kernel
theorem sm_a171_93 : sm_at 171 93 = some (.ldc_w 323, 3, (32774, 0, 0, 1577)) := by decide +kernel
theorem sm_a171_96 : sm_at 171 96 = some (.if_icmp .ne 18, 3, (0, 0, 0, 0)) := by decide +kernel
theorem sm_a171_99 : sm_at 171 99 = some (.iload_n 3, 1, (0, 0, 0, 0)) := by decide +kernel
theorem sm_a171_100 : sm_at 171 100 = some (.sipush 256, 3, (0, 0, 0, 0)) := by decide +kernel
theorem sm_a171_103 : sm_at 171 103 = some (.if_icmp .ne 11, 3, (0, 0, 0, 0)) := by decide +kernel
theorem sm_a171_106 : sm_at 171 106 = some (.aload_n 0, 1, (0, 0, 0, 0)) := by decide +kernel
theorem sm_a171_107 : sm_at 171 107 = some (.iload_n 1, 1, (0, 0, 0, 0)) := by decide +kernel
theorem sm_a171_108 : sm_at 171 108 = some (.invokevirtual 324, 3, (10, 172, 12, 1578)) := by decide +kernel
theorem sm_a171_111 : sm_at 171 111 = some (.goto 106, 3, (0, 0, 0, 0)) := by decide +kernel
theorem sm_a171_114 : sm_at 171 114 = some (.iload_n 2, 1, (0, 0, 0, 0)) := by decide +kernel
theorem sm_a171_115 : sm_at 171 115 = some (.ldc_w 323, 3, (32774, 0, 0, 1577)) := by decide +kernel
theorem sm_a171_118 : sm_at 171 118 = some (.if_icmp .ne 18, 3, (0, 0, 0, 0)) := by decide +kernel
theorem sm_a171_121 : sm_at 171 121 = some (.iload_n 3, 1, (0, 0, 0, 0)) := by decide +kernel
theorem sm_a171_122 : sm_at 171 122 = some (.sipush 512, 3, (0, 0, 0, 0)) := by decide +kernel
theorem sm_a171_125 : sm_at 171 125 = some (.if_icmp .ne 11, 3, (0, 0, 0, 0)) := by decide +kernel
theorem sm_a171_128 : sm_at 171 128 = some (.aload_n 0, 1, (0, 0, 0, 0)) := by decide +kernel
theorem sm_a171_129 : sm_at 171 129 = some (.iload_n 1, 1, (0, 0, 0, 0)) := by decide +kernel
theorem sm_a171_130 : sm_at 171 130 = some (.invokevirtual 327, 3, (10, 173, 12, 1582)) := by decide +kernel
theorem sm_a171_133 : sm_at 171 133 = some (.goto 84, 3, (0, 0, 0, 0)) := by decide +kernel
theorem sm_a171_136 : sm_at 171 136 = some (.iload_n 2, 1, (0, 0, 0, 0)) := by decide +kernel
theorem sm_a171_137 : sm_at 171 137 = some (.ldc_w 330, 3, (32776, 0, 0, 1586)) := by decide +kernel
theorem sm_a171_140 : sm_at 171 140 = some (.if_icmp .ne 26, 3, (0, 0, 0, 0)) := by decide +kernel
theorem sm_a171_143 : sm_at 171 143 = some (.aload_n 0, 1, (0, 0, 0, 0)) := by decide +kernel
theorem sm_a171_144 : sm_at 171 144 = some (.iload_n 1, 1, (0, 0, 0, 0)) := by decide +kernel
theorem sm_a171_145 : sm_at 171 145 = some (.aload_n 0, 1, (0, 0, 0, 0)) := by decide +kernel
theorem sm_a171_146 : sm_at 171 146 = some (.getfield 16, 3, (12, 4, 0, 1187)) := by decide +kernel
theorem sm_a171_149 : sm_at 171 149 = some (.iload_n 1, 1, (0, 0, 0, 0)) := by decide +kernel
theorem sm_a171_150 : sm_at 171 150 = some (.iaload, 1, (0, 0, 0, 0)) := by decide +kernel
theorem sm_a171_151 : sm_at 171 151 = some (.iconst 3, 1, (0, 0, 0, 0)) := by decide +kernel
theorem sm_a171_152 : sm_at 171 152 = some (.if_icmp .ne 7, 3, (0, 0, 0, 0)) := by decide +kernel
theorem sm_a171_155 : sm_at 171 155 = some (.iconst 1, 1, (0, 0, 0, 0)) := by decide +kernel
theorem sm_a171_156 : sm_at 171 156 = some (.goto 4, 3, (0, 0, 0, 0)) := by decide +kernel
theorem sm_a171_159 : sm_at 171 159 = some (.iconst 0, 1, (0, 0, 0, 0)) := by decide +kernel
theorem sm_a171_160 : sm_at 171 160 = some (.invokevirtual 319, 3, (10, 169, 12, 1572)) := by decide +kernel
theorem sm_a171_163 : sm_at 171 163 = some (.goto 54, 3, (0, 0, 0, 0)) := by decide +kernel
theorem sm_a171_166 : sm_at 171 166 = some (.iload_n 2, 1, (0, 0, 0, 0)) := by decide +kernel
theorem sm_a171_167 : sm_at 171 167 = some (.ldc_w 331, 3, (49153, 0, 0, 1587)) := by decide +kernel
theorem sm_a171_170 : sm_at 171 170 = some (.if_icmp .ne 45, 3, (0, 0, 0, 0)) := by decide +kernel
theorem sm_a171_173 : sm_at 171 173 = some (.iload_n 3, 1, (0, 0, 0, 0)) := by decide +kernel
theorem sm_a171_174 : sm_at 171 174 = some (.bipush 64, 2, (0, 0, 0, 0)) := by decide +kernel
theorem sm_a171_176 : sm_at 171 176 = some (.if_icmp .gt 39, 3, (0, 0, 0, 0)) := by decide +kernel
theorem sm_a171_179 : sm_at 171 179 = some (.iload_n 3, 1, (0, 0, 0, 0)) := by decide +kernel
theorem sm_a171_180 : sm_at 171 180 = some (.istore 6, 2, (0, 0, 0, 0)) := by decide +kernel
theorem sm_a171_182 : sm_at 171 182 = some (.iload 6, 2, (0, 0, 0, 0)) := by decide +kernel
theorem sm_a171_184 : sm_at 171 184 = some (.bipush 64, 2, (0, 0, 0, 0)) := by decide +kernel
theorem sm_a171_186 : sm_at 171 186 = some (.if_icmp .ge 26, 3, (0, 0, 0, 0)) := by decide +kernel
theorem sm_a171_189 : sm_at 171 189 = some (.aload_n 0, 1, (0, 0, 0, 0)) := by decide +kernel
theorem sm_a171_190 : sm_at 171 190 = some (.iload_n 1, 1, (0, 0, 0, 0)) := by decide +kernel
theorem sm_a171_191 : sm_at 171 191 = some (.aload_n 0, 1, (0, 0, 0, 0)) := by decide +kernel
theorem sm_a171_192 : sm_at 171 192 = some (.getfield 59, 3, (12, 18, 0, 1201)) := by decide +kernel
theorem sm_a171_195 : sm_at 171 195 = some (.bipush 64, 2, (0, 0, 0, 0)) := by decide +kernel
theorem sm_a171_197 : sm_at 171 197 = some (.iload_n 1, 1, (0, 0, 0, 0)) := by decide +kernel
theorem sm_a171_198 : sm_at 171 198 = some (.imul, 1, (0, 0, 0, 0)) := by decide +kernel
theorem sm_a171_199 : sm_at 171 199 = some (.iload 6, 2, (0, 0, 0, 0)) := by decide +kernel
theorem sm_a171_201 : sm_at 171 201 = some (.iadd, 1, (0, 0, 0, 0)) := by decide +kernel
theorem sm_a171_202 : sm_at 171 202 = some (.iaload, 1, (0, 0, 0, 0)) := by decide +kernel
theorem sm_a171_203 : sm_at 171 203 = some (.invokevirtual 319, 3, (10, 169, 12, 1572)) := by decide +kernel
theorem sm_a171_206 : sm_at 171 206 = some (.iinc 6 1, 3, (0, 0, 0, 0)) := by decide +kernel
theorem sm_a171_209 : sm_at 171 209 = some (.goto (-27), 3, (0, 0, 0, 0)) := by decide +kernel
theorem sm_a171_212 : sm_at 171 212 = some (.goto 5, 3, (0, 0, 0, 0)) := by decide +kernel
theorem sm_a171_215 : sm_at 171 215 = some (.iconst 0, 1, (0, 0, 0, 0)) := by decide +kernel
theorem sm_a171_216 : sm_at 171 216 = some (.ireturn, 1, (0, 0, 0, 0)) := by decide +kernel
theorem sm_a171_217 : sm_at 171 217 = some (.iconst 1, 1, (0, 0, 0, 0)) := by decide +kernel
theorem sm_a171_218 : sm_at 171 218 = some (.ireturn, 1, (0, 0, 0, 0)) := by decide +kernel
theorem bb_171_0 {d : Nat} {M : sm_M} {Q : Option sm_V → sm_M → Prop} {a0 : Nat} {x1 : Int32} {x2 : Int32} {x3 : Int32} {x4 : Int32} {z5 : Option sm_V} {z6 : Option sm_V}
    (h : sm_K M a0 = 39 ∧ sm_Run d 155 0 (sm_ent 155 [.inr (some a0), .inl x1, .inl x4]) [] M (fun v M1 => sm_Run (d + 1) 171 7 [some (.inr (some a0)), some (.inl x1), some (.inl x2), some (.inl x3), some (.inl x4), z5, z6] (v.toList ++ []) M1 Q)) :
    sm_Run (d + 1) 171 0 [some (.inr (some a0)), some (.inl x1), some (.inl x2), some (.inl x3), some (.inl x4), z5, z6] [] M Q := by
  refine ru_go (t := (1, [some (.inr (some a0)), some (.inl x1), some (.inl x2), some (.inl x3), some (.inl x4), z5, z6], [.inr (some a0)], M)) sm_a171_0 rfl rfl rfl ?_
  refine ru_go (t := (2, [some (.inr (some a0)), some (.inl x1), some (.inl x2), some (.inl x3), some (.inl x4), z5, z6], [.inl x1, .inr (some a0)], M)) sm_a171_1 rfl rfl rfl ?_
  refine ru_go (t := (4, [some (.inr (some a0)), some (.inl x1), some (.inl x2), some (.inl x3), some (.inl x4), z5, z6], [.inl x4, .inl x1, .inr (some a0)], M)) sm_a171_2 rfl rfl rfl ?_
  obtain ⟨h_1, h⟩ := h
  exact ru_call (p := 7) sm_a171_4 rfl (sc_virt (Or.inl rfl) rfl rfl h_1 (Nat.le_of_ble_eq_true rfl)) rfl h
theorem bb_171_7 {d : Nat} {M : sm_M} {Q : Option sm_V → sm_M → Prop} {a0 : Nat} {x1 : Int32} {x2 : Int32} {x3 : Int32} {x4 : Int32} {z5 : Option sm_V} {z6 : Option sm_V} {y0 : Int32}
    (h : ((¬ x2 = 32768 → ((¬ x2 = 33280 → sm_Run (d + 1) 171 92 [some (.inr (some a0)), some (.inl x1), some (.inl x2), some (.inl x3), some (.inl x4), some (.inl y0), z6] [] M Q) ∧ (¬ (¬ x2 = 33280) → ((¬ y0 = (-1) → sm_Run (d + 1) 171 57 [some (.inr (some a0)), some (.inl x1), some (.inl x2), some (.inl x3), some (.inl x4), some (.inl y0), z6] [] M Q) ∧ (¬ (¬ y0 = (-1)) → ((x4 = 0 → sm_Run (d + 1) 171 57 [some (.inr (some a0)), some (.inl x1), some (.inl x2), some (.inl x3), some (.inl x4), some (.inl y0), z6] [] M Q) ∧ (¬ (x4 = 0) → ((¬ x4 = 128 → sm_Run (d + 1) 171 92 [some (.inr (some a0)), some (.inl x1), some (.inl x2), some (.inl x3), some (.inl x4), some (.inl y0), z6] [] M Q) ∧ (¬ (¬ x4 = 128) → sm_Run (d + 1) 171 57 [some (.inr (some a0)), some (.inl x1), some (.inl x2), some (.inl x3), some (.inl x4), some (.inl y0), z6] [] M Q))))))))) ∧ (¬ (¬ x2 = 32768) → sm_K M a0 = 39 ∧ sm_Run d 169 0 (sm_ent 169 [.inr (some a0), .inl x1, .inl 0]) [] M (fun v M1 => sm_Run (d + 1) 171 22 [some (.inr (some a0)), some (.inl x1), some (.inl x2), some (.inl x3), some (.inl x4), some (.inl y0), z6] (v.toList ++ []) M1 Q)))) :
    sm_Run (d + 1) 171 7 [some (.inr (some a0)), some (.inl x1), some (.inl x2), some (.inl x3), some (.inl x4), z5, z6] [.inl y0] M Q := by
  refine ru_go (t := (9, [some (.inr (some a0)), some (.inl x1), some (.inl x2), some (.inl x3), some (.inl x4), some (.inl y0), z6], [], M)) sm_a171_7 rfl rfl rfl ?_
  refine ru_go (t := (10, [some (.inr (some a0)), some (.inl x1), some (.inl x2), some (.inl x3), some (.inl x4), some (.inl y0), z6], [.inl x2], M)) sm_a171_9 rfl rfl rfl ?_
  refine ru_go (t := (13, [some (.inr (some a0)), some (.inl x1), some (.inl x2), some (.inl x3), some (.inl x4), some (.inl y0), z6], [.inl 32768, .inl x2], M)) sm_a171_10 rfl rfl (st_ldc_w (by decide)) ?_
  refine ru_icmp (pc := 13) (p := 31) (p2 := 16) sm_a171_13 (by decide) rfl ⟨fun hc_1 => ?_, fun hc_1 => ?_⟩
  · have h := h.1 hc_1
    refine ru_go (t := (32, [some (.inr (some a0)), some (.inl x1), some (.inl x2), some (.inl x3), some (.inl x4), some (.inl y0), z6], [.inl x2], M)) sm_a171_31 rfl rfl rfl ?_
    refine ru_go (t := (35, [some (.inr (some a0)), some (.inl x1), some (.inl x2), some (.inl x3), some (.inl x4), some (.inl y0), z6], [.inl 33280, .inl x2], M)) sm_a171_32 rfl rfl (st_ldc_w (by decide)) ?_
    refine ru_icmp (pc := 35) (p := 92) (p2 := 38) sm_a171_35 (by decide) rfl ⟨fun hc_2 => ?_, fun hc_2 => ?_⟩
    · have h := h.1 hc_2
      exact h
    · have h := h.2 hc_2
      refine ru_go (t := (40, [some (.inr (some a0)), some (.inl x1), some (.inl x2), some (.inl x3), some (.inl x4), some (.inl y0), z6], [.inl y0], M)) sm_a171_38 rfl rfl rfl ?_
      refine ru_go (t := (41, [some (.inr (some a0)), some (.inl x1), some (.inl x2), some (.inl x3), some (.inl x4), some (.inl y0), z6], [.inl (-1), .inl y0], M)) sm_a171_40 rfl rfl (st_iconst (by decide)) ?_
      refine ru_icmp (pc := 41) (p := 57) (p2 := 44) sm_a171_41 (by decide) rfl ⟨fun hc_3 => ?_, fun hc_3 => ?_⟩
      · have h := h.1 hc_3
        exact h
      · have h := h.2 hc_3
        refine ru_go (t := (46, [some (.inr (some a0)), some (.inl x1), some (.inl x2), some (.inl x3), some (.inl x4), some (.inl y0), z6], [.inl x4], M)) sm_a171_44 rfl rfl rfl ?_
        refine ru_if (pc := 46) (p := 57) (p2 := 49) sm_a171_46 (by decide) rfl ⟨fun hc_4 => ?_, fun hc_4 => ?_⟩
        · have h := h.1 hc_4
          exact h
        · have h := h.2 hc_4
          refine ru_go (t := (51, [some (.inr (some a0)), some (.inl x1), some (.inl x2), some (.inl x3), some (.inl x4), some (.inl y0), z6], [.inl x4], M)) sm_a171_49 rfl rfl rfl ?_
          refine ru_go (t := (54, [some (.inr (some a0)), some (.inl x1), some (.inl x2), some (.inl x3), some (.inl x4), some (.inl y0), z6], [.inl 128, .inl x4], M)) sm_a171_51 rfl rfl (st_sipush (by decide)) ?_
          refine ru_icmp (pc := 54) (p := 92) (p2 := 57) sm_a171_54 (by decide) rfl ⟨fun hc_5 => ?_, fun hc_5 => ?_⟩
          · have h := h.1 hc_5
            exact h
          · have h := h.2 hc_5
            exact h
  · have h := h.2 hc_1
    refine ru_go (t := (17, [some (.inr (some a0)), some (.inl x1), some (.inl x2), some (.inl x3), some (.inl x4), some (.inl y0), z6], [.inr (some a0)], M)) sm_a171_16 rfl rfl rfl ?_
    refine ru_go (t := (18, [some (.inr (some a0)), some (.inl x1), some (.inl x2), some (.inl x3), some (.inl x4), some (.inl y0), z6], [.inl x1, .inr (some a0)], M)) sm_a171_17 rfl rfl rfl ?_
    refine ru_go (t := (19, [some (.inr (some a0)), some (.inl x1), some (.inl x2), some (.inl x3), some (.inl x4), some (.inl y0), z6], [.inl 0, .inl x1, .inr (some a0)], M)) sm_a171_18 rfl rfl (st_iconst (by decide)) ?_
    obtain ⟨h_6, h⟩ := h
    exact ru_call (p := 22) sm_a171_19 rfl (sc_virt (Or.inl rfl) rfl rfl h_6 (Nat.le_of_ble_eq_true rfl)) rfl h
theorem bb_171_22 {d : Nat} {M : sm_M} {Q : Option sm_V → sm_M → Prop} {a0 : Nat} {x1 : Int32} {x2 : Int32} {x3 : Int32} {x4 : Int32} {x5 : Int32} {z6 : Option sm_V}
    (h : sm_K M a0 = 39 ∧ sm_Run d 169 0 (sm_ent 169 [.inr (some a0), .inl x1, .inl 0]) [] M (fun v M1 => sm_Run (d + 1) 171 28 [some (.inr (some a0)), some (.inl x1), some (.inl x2), some (.inl x3), some (.inl x4), some (.inl x5), z6] (v.toList ++ []) M1 Q)) :
    sm_Run (d + 1) 171 22 [some (.inr (some a0)), some (.inl x1), some (.inl x2), some (.inl x3), some (.inl x4), some (.inl x5), z6] [] M Q := by
  refine ru_go (t := (23, [some (.inr (some a0)), some (.inl x1), some (.inl x2), some (.inl x3), some (.inl x4), some (.inl x5), z6], [.inr (some a0)], M)) sm_a171_22 rfl rfl rfl ?_
  refine ru_go (t := (24, [some (.inr (some a0)), some (.inl x1), some (.inl x2), some (.inl x3), some (.inl x4), some (.inl x5), z6], [.inl x1, .inr (some a0)], M)) sm_a171_23 rfl rfl rfl ?_
  refine ru_go (t := (25, [some (.inr (some a0)), some (.inl x1), some (.inl x2), some (.inl x3), some (.inl x4), some (.inl x5), z6], [.inl 0, .inl x1, .inr (some a0)], M)) sm_a171_24 rfl rfl (st_iconst (by decide)) ?_
  obtain ⟨h_1, h⟩ := h
  exact ru_call (p := 28) sm_a171_25 rfl (sc_virt (Or.inl rfl) rfl rfl h_1 (Nat.le_of_ble_eq_true rfl)) rfl h
theorem bb_171_28 {d : Nat} {M : sm_M} {Q : Option sm_V → sm_M → Prop} {a0 : Nat} {x1 : Int32} {x2 : Int32} {x3 : Int32} {x4 : Int32} {x5 : Int32} {z6 : Option sm_V}
    (h : Q (some (.inl 1)) M) :
    sm_Run (d + 1) 171 28 [some (.inr (some a0)), some (.inl x1), some (.inl x2), some (.inl x3), some (.inl x4), some (.inl x5), z6] [] M Q := by
  refine ru_go (t := (217, [some (.inr (some a0)), some (.inl x1), some (.inl x2), some (.inl x3), some (.inl x4), some (.inl x5), z6], [], M)) sm_a171_28 rfl rfl (st_goto (pc := 28) (by decide)) ?_
  refine ru_go (t := (218, [some (.inr (some a0)), some (.inl x1), some (.inl x2), some (.inl x3), some (.inl x4), some (.inl x5), z6], [.inl 1], M)) sm_a171_217 rfl rfl (st_iconst (by decide)) ?_
  exact ru_ret sm_a171_218 (sm_rvz rfl (by decide)) h
theorem bb_171_57 {d : Nat} {M : sm_M} {Q : Option sm_V → sm_M → Prop} {a0 : Nat} {x1 : Int32} {x2 : Int32} {x3 : Int32} {x4 : Int32} {x5 : Int32} {z6 : Option sm_V}
    (h : ((x5 = (-1) → sm_K M a0 = 39 ∧ sm_Run d 169 0 (sm_ent 169 [.inr (some a0), .inl x1, .inl 0]) [] M (fun v M1 => sm_Run (d + 1) 171 83 [some (.inr (some a0)), some (.inl x1), some (.inl x2), some (.inl x3), some (.inl x4), some (.inl x5), z6] (v.toList ++ []) M1 Q)) ∧ (¬ (x5 = (-1)) → sm_K M a0 = 39 ∧ ∃ b_4, sm_R M a0 14 = some b_4 ∧ sm_wZ 1 M b_4 ∧ sm_in_ M b_4 x5 ∧ (((sm_I M b_4 (x5).toNatClampNeg) = 0 → sm_Run d 169 0 (sm_ent 169 [.inr (some a0), .inl x1, .inl 0]) [] M (fun v M1 => sm_Run (d + 1) 171 83 [some (.inr (some a0)), some (.inl x1), some (.inl x2), some (.inl x3), some (.inl x4), some (.inl x5), z6] (v.toList ++ []) M1 Q)) ∧ (¬ ((sm_I M b_4 (x5).toNatClampNeg) = 0) → sm_Run d 169 0 (sm_ent 169 [.inr (some a0), .inl x1, .inl 1]) [] M (fun v M1 => sm_Run (d + 1) 171 83 [some (.inr (some a0)), some (.inl x1), some (.inl x2), some (.inl x3), some (.inl x4), some (.inl x5), z6] (v.toList ++ []) M1 Q)))))) :
    sm_Run (d + 1) 171 57 [some (.inr (some a0)), some (.inl x1), some (.inl x2), some (.inl x3), some (.inl x4), some (.inl x5), z6] [] M Q := by
  refine ru_go (t := (58, [some (.inr (some a0)), some (.inl x1), some (.inl x2), some (.inl x3), some (.inl x4), some (.inl x5), z6], [.inr (some a0)], M)) sm_a171_57 rfl rfl rfl ?_
  refine ru_go (t := (59, [some (.inr (some a0)), some (.inl x1), some (.inl x2), some (.inl x3), some (.inl x4), some (.inl x5), z6], [.inl x1, .inr (some a0)], M)) sm_a171_58 rfl rfl rfl ?_
  refine ru_go (t := (61, [some (.inr (some a0)), some (.inl x1), some (.inl x2), some (.inl x3), some (.inl x4), some (.inl x5), z6], [.inl x5, .inl x1, .inr (some a0)], M)) sm_a171_59 rfl rfl rfl ?_
  refine ru_go (t := (62, [some (.inr (some a0)), some (.inl x1), some (.inl x2), some (.inl x3), some (.inl x4), some (.inl x5), z6], [.inl (-1), .inl x5, .inl x1, .inr (some a0)], M)) sm_a171_61 rfl rfl (st_iconst (by decide)) ?_
  refine ru_icmp (pc := 62) (p := 79) (p2 := 65) sm_a171_62 (by decide) rfl ⟨fun hc_1 => ?_, fun hc_1 => ?_⟩
  · have h := h.1 hc_1
    refine ru_go (t := (80, [some (.inr (some a0)), some (.inl x1), some (.inl x2), some (.inl x3), some (.inl x4), some (.inl x5), z6], [.inl 0, .inl x1, .inr (some a0)], M)) sm_a171_79 rfl rfl (st_iconst (by decide)) ?_
    obtain ⟨h_2, h⟩ := h
    exact ru_call (p := 83) sm_a171_80 rfl (sc_virt (Or.inl rfl) rfl rfl h_2 (Nat.le_of_ble_eq_true rfl)) rfl h
  · have h := h.2 hc_1
    refine ru_go (t := (66, [some (.inr (some a0)), some (.inl x1), some (.inl x2), some (.inl x3), some (.inl x4), some (.inl x5), z6], [.inr (some a0), .inl x1, .inr (some a0)], M)) sm_a171_65 rfl rfl rfl ?_
    obtain ⟨h_3, h⟩ := h
    refine ru_go (t := (69, [some (.inr (some a0)), some (.inl x1), some (.inl x2), some (.inl x3), some (.inl x4), some (.inl x5), z6], [.inr (sm_R M a0 14), .inl x1, .inr (some a0)], M)) sm_a171_66 rfl rfl (st_getR h_3 rfl rfl) ?_
    refine ru_go (t := (71, [some (.inr (some a0)), some (.inl x1), some (.inl x2), some (.inl x3), some (.inl x4), some (.inl x5), z6], [.inl x5, .inr (sm_R M a0 14), .inl x1, .inr (some a0)], M)) sm_a171_69 rfl rfl rfl ?_
    obtain ⟨b_4, hb_5, h⟩ := h
    rw [hb_5]
    obtain ⟨h_6, h⟩ := h
    obtain ⟨h_7, h⟩ := h
    refine ru_go (t := (72, [some (.inr (some a0)), some (.inl x1), some (.inl x2), some (.inl x3), some (.inl x4), some (.inl x5), z6], [.inl (sm_I M b_4 (x5).toNatClampNeg), .inl x1, .inr (some a0)], M)) sm_a171_71 rfl rfl (st_zald h_6 h_7) ?_
    refine ru_if (pc := 72) (p := 79) (p2 := 75) sm_a171_72 (by decide) rfl ⟨fun hc_8 => ?_, fun hc_8 => ?_⟩
    · have h := h.1 hc_8
      refine ru_go (t := (80, [some (.inr (some a0)), some (.inl x1), some (.inl x2), some (.inl x3), some (.inl x4), some (.inl x5), z6], [.inl 0, .inl x1, .inr (some a0)], M)) sm_a171_79 rfl rfl (st_iconst (by decide)) ?_
      exact ru_call (p := 83) sm_a171_80 rfl (sc_virt (Or.inl rfl) rfl rfl h_3 (Nat.le_of_ble_eq_true rfl)) rfl h
    · have h := h.2 hc_8
      refine ru_go (t := (76, [some (.inr (some a0)), some (.inl x1), some (.inl x2), some (.inl x3), some (.inl x4), some (.inl x5), z6], [.inl 1, .inl x1, .inr (some a0)], M)) sm_a171_75 rfl rfl (st_iconst (by decide)) ?_
      refine ru_go (t := (80, [some (.inr (some a0)), some (.inl x1), some (.inl x2), some (.inl x3), some (.inl x4), some (.inl x5), z6], [.inl 1, .inl x1, .inr (some a0)], M)) sm_a171_76 rfl rfl (st_goto (pc := 76) (by decide)) ?_
      exact ru_call (p := 83) sm_a171_80 rfl (sc_virt (Or.inl rfl) rfl rfl h_3 (Nat.le_of_ble_eq_true rfl)) rfl h
theorem bb_171_83 {d : Nat} {M : sm_M} {Q : Option sm_V → sm_M → Prop} {a0 : Nat} {x1 : Int32} {x2 : Int32} {x3 : Int32} {x4 : Int32} {x5 : Int32} {z6 : Option sm_V}
    (h : sm_K M a0 = 39 ∧ sm_Run d 169 0 (sm_ent 169 [.inr (some a0), .inl x1, .inl 0]) [] M (fun v M1 => sm_Run (d + 1) 171 89 [some (.inr (some a0)), some (.inl x1), some (.inl x2), some (.inl x3), some (.inl x4), some (.inl x5), z6] (v.toList ++ []) M1 Q)) :
    sm_Run (d + 1) 171 83 [some (.inr (some a0)), some (.inl x1), some (.inl x2), some (.inl x3), some (.inl x4), some (.inl x5), z6] [] M Q := by
  refine ru_go (t := (84, [some (.inr (some a0)), some (.inl x1), some (.inl x2), some (.inl x3), some (.inl x4), some (.inl x5), z6], [.inr (some a0)], M)) sm_a171_83 rfl rfl rfl ?_
  refine ru_go (t := (85, [some (.inr (some a0)), some (.inl x1), some (.inl x2), some (.inl x3), some (.inl x4), some (.inl x5), z6], [.inl x1, .inr (some a0)], M)) sm_a171_84 rfl rfl rfl ?_
  refine ru_go (t := (86, [some (.inr (some a0)), some (.inl x1), some (.inl x2), some (.inl x3), some (.inl x4), some (.inl x5), z6], [.inl 0, .inl x1, .inr (some a0)], M)) sm_a171_85 rfl rfl (st_iconst (by decide)) ?_
  obtain ⟨h_1, h⟩ := h
  exact ru_call (p := 89) sm_a171_86 rfl (sc_virt (Or.inl rfl) rfl rfl h_1 (Nat.le_of_ble_eq_true rfl)) rfl h
theorem bb_171_89 {d : Nat} {M : sm_M} {Q : Option sm_V → sm_M → Prop} {a0 : Nat} {x1 : Int32} {x2 : Int32} {x3 : Int32} {x4 : Int32} {x5 : Int32} {z6 : Option sm_V}
    (h : Q (some (.inl 1)) M) :
    sm_Run (d + 1) 171 89 [some (.inr (some a0)), some (.inl x1), some (.inl x2), some (.inl x3), some (.inl x4), some (.inl x5), z6] [] M Q := by
  refine ru_go (t := (217, [some (.inr (some a0)), some (.inl x1), some (.inl x2), some (.inl x3), some (.inl x4), some (.inl x5), z6], [], M)) sm_a171_89 rfl rfl (st_goto (pc := 89) (by decide)) ?_
  refine ru_go (t := (218, [some (.inr (some a0)), some (.inl x1), some (.inl x2), some (.inl x3), some (.inl x4), some (.inl x5), z6], [.inl 1], M)) sm_a171_217 rfl rfl (st_iconst (by decide)) ?_
  exact ru_ret sm_a171_218 (sm_rvz rfl (by decide)) h
theorem bb_171_92 {d : Nat} {M : sm_M} {Q : Option sm_V → sm_M → Prop} {a0 : Nat} {x1 : Int32} {x2 : Int32} {x3 : Int32} {x4 : Int32} {x5 : Int32} {z6 : Option sm_V}
    (h : ((¬ x2 = 32774 → sm_Run (d + 1) 171 114 [some (.inr (some a0)), some (.inl x1), some (.inl x2), some (.inl x3), some (.inl x4), some (.inl x5), z6] [] M Q) ∧ (¬ (¬ x2 = 32774) → ((¬ x3 = 256 → sm_Run (d + 1) 171 114 [some (.inr (some a0)), some (.inl x1), some (.inl x2), some (.inl x3), some (.inl x4), some (.inl x5), z6] [] M Q) ∧ (¬ (¬ x3 = 256) → sm_K M a0 = 39 ∧ sm_Run d 172 0 (sm_ent 172 [.inr (some a0), .inl x1]) [] M (fun v M1 => sm_Run (d + 1) 171 111 [some (.inr (some a0)), some (.inl x1), some (.inl x2), some (.inl x3), some (.inl x4), some (.inl x5), z6] (v.toList ++ []) M1 Q)))))) :
    sm_Run (d + 1) 171 92 [some (.inr (some a0)), some (.inl x1), some (.inl x2), some (.inl x3), some (.inl x4), some (.inl x5), z6] [] M Q := by
  refine ru_go (t := (93, [some (.inr (some a0)), some (.inl x1), some (.inl x2), some (.inl x3), some (.inl x4), some (.inl x5), z6], [.inl x2], M)) sm_a171_92 rfl rfl rfl ?_
  refine ru_go (t := (96, [some (.inr (some a0)), some (.inl x1), some (.inl x2), some (.inl x3), some (.inl x4), some (.inl x5), z6], [.inl 32774, .inl x2], M)) sm_a171_93 rfl rfl (st_ldc_w (by decide)) ?_
  refine ru_icmp (pc := 96) (p := 114) (p2 := 99) sm_a171_96 (by decide) rfl ⟨fun hc_1 => ?_, fun hc_1 => ?_⟩
  · have h := h.1 hc_1
    exact h
  · have h := h.2 hc_1
    refine ru_go (t := (100, [some (.inr (some a0)), some (.inl x1), some (.inl x2), some (.inl x3), some (.inl x4), some (.inl x5), z6], [.inl x3], M)) sm_a171_99 rfl rfl rfl ?_
    refine ru_go (t := (103, [some (.inr (some a0)), some (.inl x1), some (.inl x2), some (.inl x3), some (.inl x4), some (.inl x5), z6], [.inl 256, .inl x3], M)) sm_a171_100 rfl rfl (st_sipush (by decide)) ?_
    refine ru_icmp (pc := 103) (p := 114) (p2 := 106) sm_a171_103 (by decide) rfl ⟨fun hc_2 => ?_, fun hc_2 => ?_⟩
    · have h := h.1 hc_2
      exact h
    · have h := h.2 hc_2
      refine ru_go (t := (107, [some (.inr (some a0)), some (.inl x1), some (.inl x2), some (.inl x3), some (.inl x4), some (.inl x5), z6], [.inr (some a0)], M)) sm_a171_106 rfl rfl rfl ?_
      refine ru_go (t := (108, [some (.inr (some a0)), some (.inl x1), some (.inl x2), some (.inl x3), some (.inl x4), some (.inl x5), z6], [.inl x1, .inr (some a0)], M)) sm_a171_107 rfl rfl rfl ?_
      obtain ⟨h_3, h⟩ := h
      exact ru_call (p := 111) sm_a171_108 rfl (sc_virt (Or.inl rfl) rfl rfl h_3 (Nat.le_of_ble_eq_true rfl)) rfl h
theorem bb_171_111 {d : Nat} {M : sm_M} {Q : Option sm_V → sm_M → Prop} {a0 : Nat} {x1 : Int32} {x2 : Int32} {x3 : Int32} {x4 : Int32} {x5 : Int32} {z6 : Option sm_V}
    (h : Q (some (.inl 1)) M) :
    sm_Run (d + 1) 171 111 [some (.inr (some a0)), some (.inl x1), some (.inl x2), some (.inl x3), some (.inl x4), some (.inl x5), z6] [] M Q := by
  refine ru_go (t := (217, [some (.inr (some a0)), some (.inl x1), some (.inl x2), some (.inl x3), some (.inl x4), some (.inl x5), z6], [], M)) sm_a171_111 rfl rfl (st_goto (pc := 111) (by decide)) ?_
  refine ru_go (t := (218, [some (.inr (some a0)), some (.inl x1), some (.inl x2), some (.inl x3), some (.inl x4), some (.inl x5), z6], [.inl 1], M)) sm_a171_217 rfl rfl (st_iconst (by decide)) ?_
  exact ru_ret sm_a171_218 (sm_rvz rfl (by decide)) h
theorem bb_171_114 {d : Nat} {M : sm_M} {Q : Option sm_V → sm_M → Prop} {a0 : Nat} {x1 : Int32} {x2 : Int32} {x3 : Int32} {x4 : Int32} {x5 : Int32} {z6 : Option sm_V}
    (h : ((¬ x2 = 32774 → sm_Run (d + 1) 171 136 [some (.inr (some a0)), some (.inl x1), some (.inl x2), some (.inl x3), some (.inl x4), some (.inl x5), z6] [] M Q) ∧ (¬ (¬ x2 = 32774) → ((¬ x3 = 512 → sm_Run (d + 1) 171 136 [some (.inr (some a0)), some (.inl x1), some (.inl x2), some (.inl x3), some (.inl x4), some (.inl x5), z6] [] M Q) ∧ (¬ (¬ x3 = 512) → sm_K M a0 = 39 ∧ sm_Run d 173 0 (sm_ent 173 [.inr (some a0), .inl x1]) [] M (fun v M1 => sm_Run (d + 1) 171 133 [some (.inr (some a0)), some (.inl x1), some (.inl x2), some (.inl x3), some (.inl x4), some (.inl x5), z6] (v.toList ++ []) M1 Q)))))) :
    sm_Run (d + 1) 171 114 [some (.inr (some a0)), some (.inl x1), some (.inl x2), some (.inl x3), some (.inl x4), some (.inl x5), z6] [] M Q := by
  refine ru_go (t := (115, [some (.inr (some a0)), some (.inl x1), some (.inl x2), some (.inl x3), some (.inl x4), some (.inl x5), z6], [.inl x2], M)) sm_a171_114 rfl rfl rfl ?_
  refine ru_go (t := (118, [some (.inr (some a0)), some (.inl x1), some (.inl x2), some (.inl x3), some (.inl x4), some (.inl x5), z6], [.inl 32774, .inl x2], M)) sm_a171_115 rfl rfl (st_ldc_w (by decide)) ?_
  refine ru_icmp (pc := 118) (p := 136) (p2 := 121) sm_a171_118 (by decide) rfl ⟨fun hc_1 => ?_, fun hc_1 => ?_⟩
  · have h := h.1 hc_1
    exact h
  · have h := h.2 hc_1
    refine ru_go (t := (122, [some (.inr (some a0)), some (.inl x1), some (.inl x2), some (.inl x3), some (.inl x4), some (.inl x5), z6], [.inl x3], M)) sm_a171_121 rfl rfl rfl ?_
    refine ru_go (t := (125, [some (.inr (some a0)), some (.inl x1), some (.inl x2), some (.inl x3), some (.inl x4), some (.inl x5), z6], [.inl 512, .inl x3], M)) sm_a171_122 rfl rfl (st_sipush (by decide)) ?_
    refine ru_icmp (pc := 125) (p := 136) (p2 := 128) sm_a171_125 (by decide) rfl ⟨fun hc_2 => ?_, fun hc_2 => ?_⟩
    · have h := h.1 hc_2
      exact h
    · have h := h.2 hc_2
      refine ru_go (t := (129, [some (.inr (some a0)), some (.inl x1), some (.inl x2), some (.inl x3), some (.inl x4), some (.inl x5), z6], [.inr (some a0)], M)) sm_a171_128 rfl rfl rfl ?_
      refine ru_go (t := (130, [some (.inr (some a0)), some (.inl x1), some (.inl x2), some (.inl x3), some (.inl x4), some (.inl x5), z6], [.inl x1, .inr (some a0)], M)) sm_a171_129 rfl rfl rfl ?_
      obtain ⟨h_3, h⟩ := h
      exact ru_call (p := 133) sm_a171_130 rfl (sc_virt (Or.inl rfl) rfl rfl h_3 (Nat.le_of_ble_eq_true rfl)) rfl h
theorem bb_171_133 {d : Nat} {M : sm_M} {Q : Option sm_V → sm_M → Prop} {a0 : Nat} {x1 : Int32} {x2 : Int32} {x3 : Int32} {x4 : Int32} {x5 : Int32} {z6 : Option sm_V}
    (h : Q (some (.inl 1)) M) :
    sm_Run (d + 1) 171 133 [some (.inr (some a0)), some (.inl x1), some (.inl x2), some (.inl x3), some (.inl x4), some (.inl x5), z6] [] M Q := by
  refine ru_go (t := (217, [some (.inr (some a0)), some (.inl x1), some (.inl x2), some (.inl x3), some (.inl x4), some (.inl x5), z6], [], M)) sm_a171_133 rfl rfl (st_goto (pc := 133) (by decide)) ?_
  refine ru_go (t := (218, [some (.inr (some a0)), some (.inl x1), some (.inl x2), some (.inl x3), some (.inl x4), some (.inl x5), z6], [.inl 1], M)) sm_a171_217 rfl rfl (st_iconst (by decide)) ?_
  exact ru_ret sm_a171_218 (sm_rvz rfl (by decide)) h
theorem bb_171_136 {d : Nat} {M : sm_M} {Q : Option sm_V → sm_M → Prop} {a0 : Nat} {x1 : Int32} {x2 : Int32} {x3 : Int32} {x4 : Int32} {x5 : Int32} {z6 : Option sm_V}
    (h : ((¬ x2 = 32776 → ((¬ x2 = 49153 → Q (some (.inl 0)) M) ∧ (¬ (¬ x2 = 49153) → ((64 < x3 → Q (some (.inl 0)) M) ∧ (¬ (64 < x3) → sm_Run (d + 1) 171 182 [some (.inr (some a0)), some (.inl x1), some (.inl x2), some (.inl x3), some (.inl x4), some (.inl x5), some (.inl x3)] [] M Q))))) ∧ (¬ (¬ x2 = 32776) → sm_K M a0 = 39 ∧ ∃ b_5, sm_R M a0 4 = some b_5 ∧ sm_iA M b_5 ∧ sm_in_ M b_5 x1 ∧ ((¬ (sm_I M b_5 (x1).toNatClampNeg) = 3 → sm_Run d 169 0 (sm_ent 169 [.inr (some a0), .inl x1, .inl 0]) [] M (fun v M1 => sm_Run (d + 1) 171 163 [some (.inr (some a0)), some (.inl x1), some (.inl x2), some (.inl x3), some (.inl x4), some (.inl x5), z6] (v.toList ++ []) M1 Q)) ∧ (¬ (¬ (sm_I M b_5 (x1).toNatClampNeg) = 3) → sm_Run d 169 0 (sm_ent 169 [.inr (some a0), .inl x1, .inl 1]) [] M (fun v M1 => sm_Run (d + 1) 171 163 [some (.inr (some a0)), some (.inl x1), some (.inl x2), some (.inl x3), some (.inl x4), some (.inl x5), z6] (v.toList ++ []) M1 Q)))))) :
    sm_Run (d + 1) 171 136 [some (.inr (some a0)), some (.inl x1), some (.inl x2), some (.inl x3), some (.inl x4), some (.inl x5), z6] [] M Q := by
  refine ru_go (t := (137, [some (.inr (some a0)), some (.inl x1), some (.inl x2), some (.inl x3), some (.inl x4), some (.inl x5), z6], [.inl x2], M)) sm_a171_136 rfl rfl rfl ?_
  refine ru_go (t := (140, [some (.inr (some a0)), some (.inl x1), some (.inl x2), some (.inl x3), some (.inl x4), some (.inl x5), z6], [.inl 32776, .inl x2], M)) sm_a171_137 rfl rfl (st_ldc_w (by decide)) ?_
  refine ru_icmp (pc := 140) (p := 166) (p2 := 143) sm_a171_140 (by decide) rfl ⟨fun hc_1 => ?_, fun hc_1 => ?_⟩
  · have h := h.1 hc_1
    refine ru_go (t := (167, [some (.inr (some a0)), some (.inl x1), some (.inl x2), some (.inl x3), some (.inl x4), some (.inl x5), z6], [.inl x2], M)) sm_a171_166 rfl rfl rfl ?_
    refine ru_go (t := (170, [some (.inr (some a0)), some (.inl x1), some (.inl x2), some (.inl x3), some (.inl x4), some (.inl x5), z6], [.inl 49153, .inl x2], M)) sm_a171_167 rfl rfl (st_ldc_w (by decide)) ?_
    refine ru_icmp (pc := 170) (p := 215) (p2 := 173) sm_a171_170 (by decide) rfl ⟨fun hc_2 => ?_, fun hc_2 => ?_⟩
    · have h := h.1 hc_2
      refine ru_go (t := (216, [some (.inr (some a0)), some (.inl x1), some (.inl x2), some (.inl x3), some (.inl x4), some (.inl x5), z6], [.inl 0], M)) sm_a171_215 rfl rfl (st_iconst (by decide)) ?_
      exact ru_ret sm_a171_216 (sm_rvz rfl (by decide)) h
    · have h := h.2 hc_2
      refine ru_go (t := (174, [some (.inr (some a0)), some (.inl x1), some (.inl x2), some (.inl x3), some (.inl x4), some (.inl x5), z6], [.inl x3], M)) sm_a171_173 rfl rfl rfl ?_
      refine ru_go (t := (176, [some (.inr (some a0)), some (.inl x1), some (.inl x2), some (.inl x3), some (.inl x4), some (.inl x5), z6], [.inl 64, .inl x3], M)) sm_a171_174 rfl rfl (st_bipush (by decide)) ?_
      refine ru_icmp (pc := 176) (p := 215) (p2 := 179) sm_a171_176 (by decide) rfl ⟨fun hc_3 => ?_, fun hc_3 => ?_⟩
      · have h := h.1 hc_3
        refine ru_go (t := (216, [some (.inr (some a0)), some (.inl x1), some (.inl x2), some (.inl x3), some (.inl x4), some (.inl x5), z6], [.inl 0], M)) sm_a171_215 rfl rfl (st_iconst (by decide)) ?_
        exact ru_ret sm_a171_216 (sm_rvz rfl (by decide)) h
      · have h := h.2 hc_3
        refine ru_go (t := (180, [some (.inr (some a0)), some (.inl x1), some (.inl x2), some (.inl x3), some (.inl x4), some (.inl x5), z6], [.inl x3], M)) sm_a171_179 rfl rfl rfl ?_
        refine ru_go (t := (182, [some (.inr (some a0)), some (.inl x1), some (.inl x2), some (.inl x3), some (.inl x4), some (.inl x5), some (.inl x3)], [], M)) sm_a171_180 rfl rfl rfl ?_
        exact h
  · have h := h.2 hc_1
    refine ru_go (t := (144, [some (.inr (some a0)), some (.inl x1), some (.inl x2), some (.inl x3), some (.inl x4), some (.inl x5), z6], [.inr (some a0)], M)) sm_a171_143 rfl rfl rfl ?_
    refine ru_go (t := (145, [some (.inr (some a0)), some (.inl x1), some (.inl x2), some (.inl x3), some (.inl x4), some (.inl x5), z6], [.inl x1, .inr (some a0)], M)) sm_a171_144 rfl rfl rfl ?_
    refine ru_go (t := (146, [some (.inr (some a0)), some (.inl x1), some (.inl x2), some (.inl x3), some (.inl x4), some (.inl x5), z6], [.inr (some a0), .inl x1, .inr (some a0)], M)) sm_a171_145 rfl rfl rfl ?_
    obtain ⟨h_4, h⟩ := h
    refine ru_go (t := (149, [some (.inr (some a0)), some (.inl x1), some (.inl x2), some (.inl x3), some (.inl x4), some (.inl x5), z6], [.inr (sm_R M a0 4), .inl x1, .inr (some a0)], M)) sm_a171_146 rfl rfl (st_getR h_4 rfl rfl) ?_
    refine ru_go (t := (150, [some (.inr (some a0)), some (.inl x1), some (.inl x2), some (.inl x3), some (.inl x4), some (.inl x5), z6], [.inl x1, .inr (sm_R M a0 4), .inl x1, .inr (some a0)], M)) sm_a171_149 rfl rfl rfl ?_
    obtain ⟨b_5, hb_6, h⟩ := h
    rw [hb_6]
    obtain ⟨h_7, h⟩ := h
    obtain ⟨h_8, h⟩ := h
    refine ru_go (t := (151, [some (.inr (some a0)), some (.inl x1), some (.inl x2), some (.inl x3), some (.inl x4), some (.inl x5), z6], [.inl (sm_I M b_5 (x1).toNatClampNeg), .inl x1, .inr (some a0)], M)) sm_a171_150 rfl rfl (st_iald h_7 h_8) ?_
    refine ru_go (t := (152, [some (.inr (some a0)), some (.inl x1), some (.inl x2), some (.inl x3), some (.inl x4), some (.inl x5), z6], [.inl 3, .inl (sm_I M b_5 (x1).toNatClampNeg), .inl x1, .inr (some a0)], M)) sm_a171_151 rfl rfl (st_iconst (by decide)) ?_
    refine ru_icmp (pc := 152) (p := 159) (p2 := 155) sm_a171_152 (by decide) rfl ⟨fun hc_9 => ?_, fun hc_9 => ?_⟩
    · have h := h.1 hc_9
      refine ru_go (t := (160, [some (.inr (some a0)), some (.inl x1), some (.inl x2), some (.inl x3), some (.inl x4), some (.inl x5), z6], [.inl 0, .inl x1, .inr (some a0)], M)) sm_a171_159 rfl rfl (st_iconst (by decide)) ?_
      exact ru_call (p := 163) sm_a171_160 rfl (sc_virt (Or.inl rfl) rfl rfl h_4 (Nat.le_of_ble_eq_true rfl)) rfl h
    · have h := h.2 hc_9
      refine ru_go (t := (156, [some (.inr (some a0)), some (.inl x1), some (.inl x2), some (.inl x3), some (.inl x4), some (.inl x5), z6], [.inl 1, .inl x1, .inr (some a0)], M)) sm_a171_155 rfl rfl (st_iconst (by decide)) ?_
      refine ru_go (t := (160, [some (.inr (some a0)), some (.inl x1), some (.inl x2), some (.inl x3), some (.inl x4), some (.inl x5), z6], [.inl 1, .inl x1, .inr (some a0)], M)) sm_a171_156 rfl rfl (st_goto (pc := 156) (by decide)) ?_
      exact ru_call (p := 163) sm_a171_160 rfl (sc_virt (Or.inl rfl) rfl rfl h_4 (Nat.le_of_ble_eq_true rfl)) rfl h
theorem bb_171_163 {d : Nat} {M : sm_M} {Q : Option sm_V → sm_M → Prop} {a0 : Nat} {x1 : Int32} {x2 : Int32} {x3 : Int32} {x4 : Int32} {x5 : Int32} {z6 : Option sm_V}
    (h : Q (some (.inl 1)) M) :
    sm_Run (d + 1) 171 163 [some (.inr (some a0)), some (.inl x1), some (.inl x2), some (.inl x3), some (.inl x4), some (.inl x5), z6] [] M Q := by
  refine ru_go (t := (217, [some (.inr (some a0)), some (.inl x1), some (.inl x2), some (.inl x3), some (.inl x4), some (.inl x5), z6], [], M)) sm_a171_163 rfl rfl (st_goto (pc := 163) (by decide)) ?_
  refine ru_go (t := (218, [some (.inr (some a0)), some (.inl x1), some (.inl x2), some (.inl x3), some (.inl x4), some (.inl x5), z6], [.inl 1], M)) sm_a171_217 rfl rfl (st_iconst (by decide)) ?_
  exact ru_ret sm_a171_218 (sm_rvz rfl (by decide)) h
theorem bb_171_182 {d : Nat} {M : sm_M} {Q : Option sm_V → sm_M → Prop} {a0 : Nat} {x1 : Int32} {x2 : Int32} {x3 : Int32} {x4 : Int32} {x5 : Int32} {x6 : Int32}
    (h : ((64 ≤ x6 → Q (some (.inl 1)) M) ∧ (¬ (64 ≤ x6) → sm_K M a0 = 39 ∧ ∃ b_3, sm_R M a0 18 = some b_3 ∧ sm_iA M b_3 ∧ sm_in_ M b_3 ((64 * x1) + x6) ∧ sm_Run d 169 0 (sm_ent 169 [.inr (some a0), .inl x1, .inl (sm_I M b_3 ((64 * x1) + x6).toNatClampNeg)]) [] M (fun v M1 => sm_Run (d + 1) 171 206 [some (.inr (some a0)), some (.inl x1), some (.inl x2), some (.inl x3), some (.inl x4), some (.inl x5), some (.inl x6)] (v.toList ++ []) M1 Q)))) :
    sm_Run (d + 1) 171 182 [some (.inr (some a0)), some (.inl x1), some (.inl x2), some (.inl x3), some (.inl x4), some (.inl x5), some (.inl x6)] [] M Q := by
  refine ru_go (t := (184, [some (.inr (some a0)), some (.inl x1), some (.inl x2), some (.inl x3), some (.inl x4), some (.inl x5), some (.inl x6)], [.inl x6], M)) sm_a171_182 rfl rfl rfl ?_
  refine ru_go (t := (186, [some (.inr (some a0)), some (.inl x1), some (.inl x2), some (.inl x3), some (.inl x4), some (.inl x5), some (.inl x6)], [.inl 64, .inl x6], M)) sm_a171_184 rfl rfl (st_bipush (by decide)) ?_
  refine ru_icmp (pc := 186) (p := 212) (p2 := 189) sm_a171_186 (by decide) rfl ⟨fun hc_1 => ?_, fun hc_1 => ?_⟩
  · have h := h.1 hc_1
    refine ru_go (t := (217, [some (.inr (some a0)), some (.inl x1), some (.inl x2), some (.inl x3), some (.inl x4), some (.inl x5), some (.inl x6)], [], M)) sm_a171_212 rfl rfl (st_goto (pc := 212) (by decide)) ?_
    refine ru_go (t := (218, [some (.inr (some a0)), some (.inl x1), some (.inl x2), some (.inl x3), some (.inl x4), some (.inl x5), some (.inl x6)], [.inl 1], M)) sm_a171_217 rfl rfl (st_iconst (by decide)) ?_
    exact ru_ret sm_a171_218 (sm_rvz rfl (by decide)) h
  · have h := h.2 hc_1
    refine ru_go (t := (190, [some (.inr (some a0)), some (.inl x1), some (.inl x2), some (.inl x3), some (.inl x4), some (.inl x5), some (.inl x6)], [.inr (some a0)], M)) sm_a171_189 rfl rfl rfl ?_
    refine ru_go (t := (191, [some (.inr (some a0)), some (.inl x1), some (.inl x2), some (.inl x3), some (.inl x4), some (.inl x5), some (.inl x6)], [.inl x1, .inr (some a0)], M)) sm_a171_190 rfl rfl rfl ?_
    refine ru_go (t := (192, [some (.inr (some a0)), some (.inl x1), some (.inl x2), some (.inl x3), some (.inl x4), some (.inl x5), some (.inl x6)], [.inr (some a0), .inl x1, .inr (some a0)], M)) sm_a171_191 rfl rfl rfl ?_
    obtain ⟨h_2, h⟩ := h
    refine ru_go (t := (195, [some (.inr (some a0)), some (.inl x1), some (.inl x2), some (.inl x3), some (.inl x4), some (.inl x5), some (.inl x6)], [.inr (sm_R M a0 18), .inl x1, .inr (some a0)], M)) sm_a171_192 rfl rfl (st_getR h_2 rfl rfl) ?_
    refine ru_go (t := (197, [some (.inr (some a0)), some (.inl x1), some (.inl x2), some (.inl x3), some (.inl x4), some (.inl x5), some (.inl x6)], [.inl 64, .inr (sm_R M a0 18), .inl x1, .inr (some a0)], M)) sm_a171_195 rfl rfl (st_bipush (by decide)) ?_
    refine ru_go (t := (198, [some (.inr (some a0)), some (.inl x1), some (.inl x2), some (.inl x3), some (.inl x4), some (.inl x5), some (.inl x6)], [.inl x1, .inl 64, .inr (sm_R M a0 18), .inl x1, .inr (some a0)], M)) sm_a171_197 rfl rfl rfl ?_
    refine ru_go (t := (199, [some (.inr (some a0)), some (.inl x1), some (.inl x2), some (.inl x3), some (.inl x4), some (.inl x5), some (.inl x6)], [.inl (64 * x1), .inr (sm_R M a0 18), .inl x1, .inr (some a0)], M)) sm_a171_198 rfl rfl rfl ?_
    refine ru_go (t := (201, [some (.inr (some a0)), some (.inl x1), some (.inl x2), some (.inl x3), some (.inl x4), some (.inl x5), some (.inl x6)], [.inl x6, .inl (64 * x1), .inr (sm_R M a0 18), .inl x1, .inr (some a0)], M)) sm_a171_199 rfl rfl rfl ?_
    refine ru_go (t := (202, [some (.inr (some a0)), some (.inl x1), some (.inl x2), some (.inl x3), some (.inl x4), some (.inl x5), some (.inl x6)], [.inl ((64 * x1) + x6), .inr (sm_R M a0 18), .inl x1, .inr (some a0)], M)) sm_a171_201 rfl rfl rfl ?_
    obtain ⟨b_3, hb_4, h⟩ := h
    rw [hb_4]
    obtain ⟨h_5, h⟩ := h
    obtain ⟨h_6, h⟩ := h
    refine ru_go (t := (203, [some (.inr (some a0)), some (.inl x1), some (.inl x2), some (.inl x3), some (.inl x4), some (.inl x5), some (.inl x6)], [.inl (sm_I M b_3 ((64 * x1) + x6).toNatClampNeg), .inl x1, .inr (some a0)], M)) sm_a171_202 rfl rfl (st_iald h_5 h_6) ?_
    exact ru_call (p := 206) sm_a171_203 rfl (sc_virt (Or.inl rfl) rfl rfl h_2 (Nat.le_of_ble_eq_true rfl)) rfl h
theorem bb_171_206 {d : Nat} {M : sm_M} {Q : Option sm_V → sm_M → Prop} {a0 : Nat} {x1 : Int32} {x2 : Int32} {x3 : Int32} {x4 : Int32} {x5 : Int32} {x6 : Int32}
    (h : sm_Run (d + 1) 171 182 [some (.inr (some a0)), some (.inl x1), some (.inl x2), some (.inl x3), some (.inl x4), some (.inl x5), some (.inl (x6 + 1))] [] M Q) :
    sm_Run (d + 1) 171 206 [some (.inr (some a0)), some (.inl x1), some (.inl x2), some (.inl x3), some (.inl x4), some (.inl x5), some (.inl x6)] [] M Q := by
  refine ru_go (t := (209, [some (.inr (some a0)), some (.inl x1), some (.inl x2), some (.inl x3), some (.inl x4), some (.inl x5), some (.inl (x6 + 1))], [], M)) sm_a171_206 rfl rfl (st_iinc rfl (by decide)) ?_
  refine ru_go (t := (182, [some (.inr (some a0)), some (.inl x1), some (.inl x2), some (.inl x3), some (.inl x4), some (.inl x5), some (.inl (x6 + 1))], [], M)) sm_a171_209 rfl rfl (st_goto (pc := 209) (by decide)) ?_
  exact h

/-! WireBusModel.describe:(I)V -/
theorem sm_a172_0 : sm_at 172 0 = some (.aload_n 0, 1, (0, 0, 0, 0)) := by decide +kernel
theorem sm_a172_1 : sm_at 172 1 = some (.iload_n 1, 1, (0, 0, 0, 0)) := by decide +kernel
theorem sm_a172_2 : sm_at 172 2 = some (.bipush 18, 2, (0, 0, 0, 0)) := by decide +kernel
theorem sm_a172_4 : sm_at 172 4 = some (.invokevirtual 319, 3, (10, 169, 12, 1572)) := by decide +kernel
theorem sm_a172_7 : sm_at 172 7 = some (.aload_n 0, 1, (0, 0, 0, 0)) := by decide +kernel
theorem sm_a172_8 : sm_at 172 8 = some (.iload_n 1, 1, (0, 0, 0, 0)) := by decide +kernel
theorem sm_a172_9 : sm_at 172 9 = some (.iconst 1, 1, (0, 0, 0, 0)) := by decide +kernel
theorem sm_a172_10 : sm_at 172 10 = some (.invokevirtual 319, 3, (10, 169, 12, 1572)) := by decide +kernel
theorem sm_a172_13 : sm_at 172 13 = some (.aload_n 0, 1, (0, 0, 0, 0)) := by decide +kernel
theorem sm_a172_14 : sm_at 172 14 = some (.iload_n 1, 1, (0, 0, 0, 0)) := by decide +kernel
theorem sm_a172_15 : sm_at 172 15 = some (.iconst 0, 1, (0, 0, 0, 0)) := by decide +kernel
theorem sm_a172_16 : sm_at 172 16 = some (.invokevirtual 319, 3, (10, 169, 12, 1572)) := by decide +kernel
theorem sm_a172_19 : sm_at 172 19 = some (.aload_n 0, 1, (0, 0, 0, 0)) := by decide +kernel
theorem sm_a172_20 : sm_at 172 20 = some (.iload_n 1, 1, (0, 0, 0, 0)) := by decide +kernel
theorem sm_a172_21 : sm_at 172 21 = some (.iconst 2, 1, (0, 0, 0, 0)) := by decide +kernel
theorem sm_a172_22 : sm_at 172 22 = some (.invokevirtual 319, 3, (10, 169, 12, 1572)) := by decide +kernel
theorem sm_a172_25 : sm_at 172 25 = some (.aload_n 0, 1, (0, 0, 0, 0)) := by decide +kernel
theorem sm_a172_26 : sm_at 172 26 = some (.iload_n 1, 1, (0, 0, 0, 0)) := by decide +kernel
theorem sm_a172_27 : sm_at 172 27 = some (.sipush 255, 3, (0, 0, 0, 0)) := by decide +kernel
theorem sm_a172_30 : sm_at 172 30 = some (.invokevirtual 319, 3, (10, 169, 12, 1572)) := by decide +kernel
theorem sm_a172_33 : sm_at 172 33 = some (.aload_n 0, 1, (0, 0, 0, 0)) := by decide +kernel
theorem sm_a172_34 : sm_at 172 34 = some (.iload_n 1, 1, (0, 0, 0, 0)) := by decide +kernel
theorem sm_a172_35 : sm_at 172 35 = some (.iconst 0, 1, (0, 0, 0, 0)) := by decide +kernel
theorem sm_a172_36 : sm_at 172 36 = some (.invokevirtual 319, 3, (10, 169, 12, 1572)) := by decide +kernel
theorem sm_a172_39 : sm_at 172 39 = some (.aload_n 0, 1, (0, 0, 0, 0)) := by decide +kernel
theorem sm_a172_40 : sm_at 172 40 = some (.iload_n 1, 1, (0, 0, 0, 0)) := by decide +kernel
theorem sm_a172_41 : sm_at 172 41 = some (.iconst 0, 1, (0, 0, 0, 0)) := by decide +kernel
theorem sm_a172_42 : sm_at 172 42 = some (.invokevirtual 319, 3, (10, 169, 12, 1572)) := by decide +kernel
theorem sm_a172_45 : sm_at 172 45 = some (.aload_n 0, 1, (0, 0, 0, 0)) := by decide +kernel
theorem sm_a172_46 : sm_at 172 46 = some (.iload_n 1, 1, (0, 0, 0, 0)) := by decide +kernel
theorem sm_a172_47 : sm_at 172 47 = some (.aload_n 0, 1, (0, 0, 0, 0)) := by decide +kernel
theorem sm_a172_48 : sm_at 172 48 = some (.getfield 22, 3, (12, 6, 0, 1189)) := by decide +kernel
theorem sm_a172_51 : sm_at 172 51 = some (.iload_n 1, 1, (0, 0, 0, 0)) := by decide +kernel
theorem sm_a172_52 : sm_at 172 52 = some (.iaload, 1, (0, 0, 0, 0)) := by decide +kernel
theorem sm_a172_53 : sm_at 172 53 = some (.invokevirtual 319, 3, (10, 169, 12, 1572)) := by decide +kernel
theorem sm_a172_56 : sm_at 172 56 = some (.aload_n 0, 1, (0, 0, 0, 0)) := by decide +kernel
theorem sm_a172_57 : sm_at 172 57 = some (.iload_n 1, 1, (0, 0, 0, 0)) := by decide +kernel
theorem sm_a172_58 : sm_at 172 58 = some (.aload_n 0, 1, (0, 0, 0, 0)) := by decide +kernel
theorem sm_a172_59 : sm_at 172 59 = some (.getfield 25, 3, (12, 7, 0, 1190)) := by decide +kernel
theorem sm_a172_62 : sm_at 172 62 = some (.iload_n 1, 1, (0, 0, 0, 0)) := by decide +kernel
theorem sm_a172_63 : sm_at 172 63 = some (.iaload, 1, (0, 0, 0, 0)) := by decide +kernel
theorem sm_a172_64 : sm_at 172 64 = some (.sipush 255, 3, (0, 0, 0, 0)) := by decide +kernel
theorem sm_a172_67 : sm_at 172 67 = some (.iand, 1, (0, 0, 0, 0)) := by decide +kernel
theorem sm_a172_68 : sm_at 172 68 = some (.invokevirtual 319, 3, (10, 169, 12, 1572)) := by decide +kernel
theorem sm_a172_71 : sm_at 172 71 = some (.aload_n 0, 1, (0, 0, 0, 0)) := by decide +kernel
theorem sm_a172_72 : sm_at 172 72 = some (.iload_n 1, 1, (0, 0, 0, 0)) := by decide +kernel
theorem sm_a172_73 : sm_at 172 73 = some (.aload_n 0, 1, (0, 0, 0, 0)) := by decide +kernel
theorem sm_a172_74 : sm_at 172 74 = some (.getfield 25, 3, (12, 7, 0, 1190)) := by decide +kernel
theorem sm_a172_77 : sm_at 172 77 = some (.iload_n 1, 1, (0, 0, 0, 0)) := by decide +kernel
theorem sm_a172_78 : sm_at 172 78 = some (.iaload, 1, (0, 0, 0, 0)) := by decide +kernel
theorem sm_a172_79 : sm_at 172 79 = some (.bipush 8, 2, (0, 0, 0, 0)) := by decide +kernel
theorem sm_a172_81 : sm_at 172 81 = some (.ishr, 1, (0, 0, 0, 0)) := by decide +kernel
theorem sm_a172_82 : sm_at 172 82 = some (.invokevirtual 319, 3, (10, 169, 12, 1572)) := by decide +kernel
theorem sm_a172_85 : sm_at 172 85 = some (.aload_n 0, 1, (0, 0, 0, 0)) := by decide +kernel
theorem sm_a172_86 : sm_at 172 86 = some (.iload_n 1, 1, (0, 0, 0, 0)) := by decide +kernel
theorem sm_a172_87 : sm_at 172 87 = some (.aload_n 0, 1, (0, 0, 0, 0)) := by decide +kernel
theorem sm_a172_88 : sm_at 172 88 = some (.getfield 28, 3, (12, 8, 0, 1191)) := by decide +kernel
theorem sm_a172_91 : sm_at 172 91 = some (.iload_n 1, 1, (0, 0, 0, 0)) := by decide +kernel
theorem sm_a172_92 : sm_at 172 92 = some (.iaload, 1, (0, 0, 0, 0)) := by decide +kernel
theorem sm_a172_93 : sm_at 172 93 = some (.sipush 255, 3, (0, 0, 0, 0)) := by decide +kernel
theorem sm_a172_96 : sm_at 172 96 = some (.iand, 1, (0, 0, 0, 0)) := by decide +kernel
theorem sm_a172_97 : sm_at 172 97 = some (.invokevirtual 319, 3, (10, 169, 12, 1572)) := by decide +kernel
theorem sm_a172_100 : sm_at 172 100 = some (.aload_n 0, 1, (0, 0, 0, 0)) := by decide +kernel
theorem sm_a172_101 : sm_at 172 101 = some (.iload_n 1, 1, (0, 0, 0, 0)) := by decide +kernel
theorem sm_a172_102 : sm_at 172 102 = some (.aload_n 0, 1, (0, 0, 0, 0)) := by decide +kernel
theorem sm_a172_103 : sm_at 172 103 = some (.getfield 28, 3, (12, 8, 0, 1191)) := by decide +kernel
theorem sm_a172_106 : sm_at 172 106 = some (.iload_n 1, 1, (0, 0, 0, 0)) := by decide +kernel
theorem sm_a172_107 : sm_at 172 107 = some (.iaload, 1, (0, 0, 0, 0)) := by decide +kernel
theorem sm_a172_108 : sm_at 172 108 = some (.bipush 8, 2, (0, 0, 0, 0)) := by decide +kernel
theorem sm_a172_110 : sm_at 172 110 = some (.ishr, 1, (0, 0, 0, 0)) := by decide +kernel
theorem sm_a172_111 : sm_at 172 111 = some (.invokevirtual 319, 3, (10, 169, 12, 1572)) := by decide +kernel
theorem sm_a172_114 : sm_at 172 114 = some (.aload_n 0, 1, (0, 0, 0, 0)) := by decide +kernel
theorem sm_a172_115 : sm_at 172 115 = some (.iload_n 1, 1, (0, 0, 0, 0)) := by decide +kernel
theorem sm_a172_116 : sm_at 172 116 = some (.iconst 0, 1, (0, 0, 0, 0)) := by decide +kernel
theorem sm_a172_117 : sm_at 172 117 = some (.invokevirtual 319, 3, (10, 169, 12, 1572)) := by decide +kernel
theorem sm_a172_120 : sm_at 172 120 = some (.aload_n 0, 1, (0, 0, 0, 0)) := by decide +kernel
theorem sm_a172_121 : sm_at 172 121 = some (.iload_n 1, 1, (0, 0, 0, 0)) := by decide +kernel
theorem sm_a172_122 : sm_at 172 122 = some (.iconst 1, 1, (0, 0, 0, 0)) := by decide +kernel
theorem sm_a172_123 : sm_at 172 123 = some (.invokevirtual 319, 3, (10, 169, 12, 1572)) := by decide +kernel
theorem sm_a172_126 : sm_at 172 126 = some (.aload_n 0, 1, (0, 0, 0, 0)) := by decide +kernel
theorem sm_a172_127 : sm_at 172 127 = some (.iload_n 1, 1, (0, 0, 0, 0)) := by decide +kernel
theorem sm_a172_128 : sm_at 172 128 = some (.iconst 0, 1, (0, 0, 0, 0)) := by decide +kernel
theorem sm_a172_129 : sm_at 172 129 = some (.invokevirtual 319, 3, (10, 169, 12, 1572)) := by decide +kernel
theorem sm_a172_132 : sm_at 172 132 = some (.aload_n 0, 1, (0, 0, 0, 0)) := by decide +kernel
theorem sm_a172_133 : sm_at 172 133 = some (.iload_n 1, 1, (0, 0, 0, 0)) := by decide +kernel
theorem sm_a172_134 : sm_at 172 134 = some (.iconst 0, 1, (0, 0, 0, 0)) := by decide +kernel
theorem sm_a172_135 : sm_at 172 135 = some (.invokevirtual 319, 3, (10, 169, 12, 1572)) := by decide +kernel
theorem sm_a172_138 : sm_at 172 138 = some (.aload_n 0, 1, (0, 0, 0, 0)) := by decide +kernel
theorem sm_a172_139 : sm_at 172 139 = some (.iload_n 1, 1, (0, 0, 0, 0)) := by decide +kernel
theorem sm_a172_140 : sm_at 172 140 = some (.iconst 0, 1, (0, 0, 0, 0)) := by decide +kernel
theorem sm_a172_141 : sm_at 172 141 = some (.invokevirtual 319, 3, (10, 169, 12, 1572)) := by decide +kernel
theorem sm_a172_144 : sm_at 172 144 = some (.aload_n 0, 1, (0, 0, 0, 0)) := by decide +kernel
theorem sm_a172_145 : sm_at 172 145 = some (.iload_n 1, 1, (0, 0, 0, 0)) := by decide +kernel
theorem sm_a172_146 : sm_at 172 146 = some (.iconst 1, 1, (0, 0, 0, 0)) := by decide +kernel
theorem sm_a172_147 : sm_at 172 147 = some (.invokevirtual 319, 3, (10, 169, 12, 1572)) := by decide +kernel
theorem sm_a172_150 : sm_at 172 150 = some (.return_, 1, (0, 0, 0, 0)) := by decide +kernel
theorem bb_172_0 {d : Nat} {M : sm_M} {Q : Option sm_V → sm_M → Prop} {a0 : Nat} {x1 : Int32}
    (h : sm_K M a0 = 39 ∧ sm_Run d 169 0 (sm_ent 169 [.inr (some a0), .inl x1, .inl 18]) [] M (fun v M1 => sm_Run (d + 1) 172 7 [some (.inr (some a0)), some (.inl x1)] (v.toList ++ []) M1 Q)) :
    sm_Run (d + 1) 172 0 [some (.inr (some a0)), some (.inl x1)] [] M Q := by
  refine ru_go (t := (1, [some (.inr (some a0)), some (.inl x1)], [.inr (some a0)], M)) sm_a172_0 rfl rfl rfl ?_
  refine ru_go (t := (2, [some (.inr (some a0)), some (.inl x1)], [.inl x1, .inr (some a0)], M)) sm_a172_1 rfl rfl rfl ?_
  refine ru_go (t := (4, [some (.inr (some a0)), some (.inl x1)], [.inl 18, .inl x1, .inr (some a0)], M)) sm_a172_2 rfl rfl (st_bipush (by decide)) ?_
  obtain ⟨h_1, h⟩ := h
  exact ru_call (p := 7) sm_a172_4 rfl (sc_virt (Or.inl rfl) rfl rfl h_1 (Nat.le_of_ble_eq_true rfl)) rfl h
theorem bb_172_7 {d : Nat} {M : sm_M} {Q : Option sm_V → sm_M → Prop} {a0 : Nat} {x1 : Int32}
    (h : sm_K M a0 = 39 ∧ sm_Run d 169 0 (sm_ent 169 [.inr (some a0), .inl x1, .inl 1]) [] M (fun v M1 => sm_Run (d + 1) 172 13 [some (.inr (some a0)), some (.inl x1)] (v.toList ++ []) M1 Q)) :
    sm_Run (d + 1) 172 7 [some (.inr (some a0)), some (.inl x1)] [] M Q := by
  refine ru_go (t := (8, [some (.inr (some a0)), some (.inl x1)], [.inr (some a0)], M)) sm_a172_7 rfl rfl rfl ?_
  refine ru_go (t := (9, [some (.inr (some a0)), some (.inl x1)], [.inl x1, .inr (some a0)], M)) sm_a172_8 rfl rfl rfl ?_
  refine ru_go (t := (10, [some (.inr (some a0)), some (.inl x1)], [.inl 1, .inl x1, .inr (some a0)], M)) sm_a172_9 rfl rfl (st_iconst (by decide)) ?_
  obtain ⟨h_1, h⟩ := h
  exact ru_call (p := 13) sm_a172_10 rfl (sc_virt (Or.inl rfl) rfl rfl h_1 (Nat.le_of_ble_eq_true rfl)) rfl h
theorem bb_172_13 {d : Nat} {M : sm_M} {Q : Option sm_V → sm_M → Prop} {a0 : Nat} {x1 : Int32}
    (h : sm_K M a0 = 39 ∧ sm_Run d 169 0 (sm_ent 169 [.inr (some a0), .inl x1, .inl 0]) [] M (fun v M1 => sm_Run (d + 1) 172 19 [some (.inr (some a0)), some (.inl x1)] (v.toList ++ []) M1 Q)) :
    sm_Run (d + 1) 172 13 [some (.inr (some a0)), some (.inl x1)] [] M Q := by
  refine ru_go (t := (14, [some (.inr (some a0)), some (.inl x1)], [.inr (some a0)], M)) sm_a172_13 rfl rfl rfl ?_
  refine ru_go (t := (15, [some (.inr (some a0)), some (.inl x1)], [.inl x1, .inr (some a0)], M)) sm_a172_14 rfl rfl rfl ?_
  refine ru_go (t := (16, [some (.inr (some a0)), some (.inl x1)], [.inl 0, .inl x1, .inr (some a0)], M)) sm_a172_15 rfl rfl (st_iconst (by decide)) ?_
  obtain ⟨h_1, h⟩ := h
  exact ru_call (p := 19) sm_a172_16 rfl (sc_virt (Or.inl rfl) rfl rfl h_1 (Nat.le_of_ble_eq_true rfl)) rfl h
theorem bb_172_19 {d : Nat} {M : sm_M} {Q : Option sm_V → sm_M → Prop} {a0 : Nat} {x1 : Int32}
    (h : sm_K M a0 = 39 ∧ sm_Run d 169 0 (sm_ent 169 [.inr (some a0), .inl x1, .inl 2]) [] M (fun v M1 => sm_Run (d + 1) 172 25 [some (.inr (some a0)), some (.inl x1)] (v.toList ++ []) M1 Q)) :
    sm_Run (d + 1) 172 19 [some (.inr (some a0)), some (.inl x1)] [] M Q := by
  refine ru_go (t := (20, [some (.inr (some a0)), some (.inl x1)], [.inr (some a0)], M)) sm_a172_19 rfl rfl rfl ?_
  refine ru_go (t := (21, [some (.inr (some a0)), some (.inl x1)], [.inl x1, .inr (some a0)], M)) sm_a172_20 rfl rfl rfl ?_
  refine ru_go (t := (22, [some (.inr (some a0)), some (.inl x1)], [.inl 2, .inl x1, .inr (some a0)], M)) sm_a172_21 rfl rfl (st_iconst (by decide)) ?_
  obtain ⟨h_1, h⟩ := h
  exact ru_call (p := 25) sm_a172_22 rfl (sc_virt (Or.inl rfl) rfl rfl h_1 (Nat.le_of_ble_eq_true rfl)) rfl h
theorem bb_172_25 {d : Nat} {M : sm_M} {Q : Option sm_V → sm_M → Prop} {a0 : Nat} {x1 : Int32}
    (h : sm_K M a0 = 39 ∧ sm_Run d 169 0 (sm_ent 169 [.inr (some a0), .inl x1, .inl 255]) [] M (fun v M1 => sm_Run (d + 1) 172 33 [some (.inr (some a0)), some (.inl x1)] (v.toList ++ []) M1 Q)) :
    sm_Run (d + 1) 172 25 [some (.inr (some a0)), some (.inl x1)] [] M Q := by
  refine ru_go (t := (26, [some (.inr (some a0)), some (.inl x1)], [.inr (some a0)], M)) sm_a172_25 rfl rfl rfl ?_
  refine ru_go (t := (27, [some (.inr (some a0)), some (.inl x1)], [.inl x1, .inr (some a0)], M)) sm_a172_26 rfl rfl rfl ?_
  refine ru_go (t := (30, [some (.inr (some a0)), some (.inl x1)], [.inl 255, .inl x1, .inr (some a0)], M)) sm_a172_27 rfl rfl (st_sipush (by decide)) ?_
  obtain ⟨h_1, h⟩ := h
  exact ru_call (p := 33) sm_a172_30 rfl (sc_virt (Or.inl rfl) rfl rfl h_1 (Nat.le_of_ble_eq_true rfl)) rfl h
theorem bb_172_33 {d : Nat} {M : sm_M} {Q : Option sm_V → sm_M → Prop} {a0 : Nat} {x1 : Int32}
    (h : sm_K M a0 = 39 ∧ sm_Run d 169 0 (sm_ent 169 [.inr (some a0), .inl x1, .inl 0]) [] M (fun v M1 => sm_Run (d + 1) 172 39 [some (.inr (some a0)), some (.inl x1)] (v.toList ++ []) M1 Q)) :
    sm_Run (d + 1) 172 33 [some (.inr (some a0)), some (.inl x1)] [] M Q := by
  refine ru_go (t := (34, [some (.inr (some a0)), some (.inl x1)], [.inr (some a0)], M)) sm_a172_33 rfl rfl rfl ?_
  refine ru_go (t := (35, [some (.inr (some a0)), some (.inl x1)], [.inl x1, .inr (some a0)], M)) sm_a172_34 rfl rfl rfl ?_
  refine ru_go (t := (36, [some (.inr (some a0)), some (.inl x1)], [.inl 0, .inl x1, .inr (some a0)], M)) sm_a172_35 rfl rfl (st_iconst (by decide)) ?_
  obtain ⟨h_1, h⟩ := h
  exact ru_call (p := 39) sm_a172_36 rfl (sc_virt (Or.inl rfl) rfl rfl h_1 (Nat.le_of_ble_eq_true rfl)) rfl h
theorem bb_172_39 {d : Nat} {M : sm_M} {Q : Option sm_V → sm_M → Prop} {a0 : Nat} {x1 : Int32}
    (h : sm_K M a0 = 39 ∧ sm_Run d 169 0 (sm_ent 169 [.inr (some a0), .inl x1, .inl 0]) [] M (fun v M1 => sm_Run (d + 1) 172 45 [some (.inr (some a0)), some (.inl x1)] (v.toList ++ []) M1 Q)) :
    sm_Run (d + 1) 172 39 [some (.inr (some a0)), some (.inl x1)] [] M Q := by
  refine ru_go (t := (40, [some (.inr (some a0)), some (.inl x1)], [.inr (some a0)], M)) sm_a172_39 rfl rfl rfl ?_
  refine ru_go (t := (41, [some (.inr (some a0)), some (.inl x1)], [.inl x1, .inr (some a0)], M)) sm_a172_40 rfl rfl rfl ?_
  refine ru_go (t := (42, [some (.inr (some a0)), some (.inl x1)], [.inl 0, .inl x1, .inr (some a0)], M)) sm_a172_41 rfl rfl (st_iconst (by decide)) ?_
  obtain ⟨h_1, h⟩ := h
  exact ru_call (p := 45) sm_a172_42 rfl (sc_virt (Or.inl rfl) rfl rfl h_1 (Nat.le_of_ble_eq_true rfl)) rfl h
theorem bb_172_45 {d : Nat} {M : sm_M} {Q : Option sm_V → sm_M → Prop} {a0 : Nat} {x1 : Int32}
    (h : sm_K M a0 = 39 ∧ ∃ b_2, sm_R M a0 6 = some b_2 ∧ sm_iA M b_2 ∧ sm_in_ M b_2 x1 ∧ sm_Run d 169 0 (sm_ent 169 [.inr (some a0), .inl x1, .inl (sm_I M b_2 (x1).toNatClampNeg)]) [] M (fun v M1 => sm_Run (d + 1) 172 56 [some (.inr (some a0)), some (.inl x1)] (v.toList ++ []) M1 Q)) :
    sm_Run (d + 1) 172 45 [some (.inr (some a0)), some (.inl x1)] [] M Q := by
  refine ru_go (t := (46, [some (.inr (some a0)), some (.inl x1)], [.inr (some a0)], M)) sm_a172_45 rfl rfl rfl ?_
  refine ru_go (t := (47, [some (.inr (some a0)), some (.inl x1)], [.inl x1, .inr (some a0)], M)) sm_a172_46 rfl rfl rfl ?_
  refine ru_go (t := (48, [some (.inr (some a0)), some (.inl x1)], [.inr (some a0), .inl x1, .inr (some a0)], M)) sm_a172_47 rfl rfl rfl ?_
  obtain ⟨h_1, h⟩ := h
  refine ru_go (t := (51, [some (.inr (some a0)), some (.inl x1)], [.inr (sm_R M a0 6), .inl x1, .inr (some a0)], M)) sm_a172_48 rfl rfl (st_getR h_1 rfl rfl) ?_
  refine ru_go (t := (52, [some (.inr (some a0)), some (.inl x1)], [.inl x1, .inr (sm_R M a0 6), .inl x1, .inr (some a0)], M)) sm_a172_51 rfl rfl rfl ?_
  obtain ⟨b_2, hb_3, h⟩ := h
  rw [hb_3]
  obtain ⟨h_4, h⟩ := h
  obtain ⟨h_5, h⟩ := h
  refine ru_go (t := (53, [some (.inr (some a0)), some (.inl x1)], [.inl (sm_I M b_2 (x1).toNatClampNeg), .inl x1, .inr (some a0)], M)) sm_a172_52 rfl rfl (st_iald h_4 h_5) ?_
  exact ru_call (p := 56) sm_a172_53 rfl (sc_virt (Or.inl rfl) rfl rfl h_1 (Nat.le_of_ble_eq_true rfl)) rfl h
theorem bb_172_56 {d : Nat} {M : sm_M} {Q : Option sm_V → sm_M → Prop} {a0 : Nat} {x1 : Int32}
    (h : sm_K M a0 = 39 ∧ ∃ b_2, sm_R M a0 7 = some b_2 ∧ sm_iA M b_2 ∧ sm_in_ M b_2 x1 ∧ sm_Run d 169 0 (sm_ent 169 [.inr (some a0), .inl x1, .inl ((sm_I M b_2 (x1).toNatClampNeg) &&& 255)]) [] M (fun v M1 => sm_Run (d + 1) 172 71 [some (.inr (some a0)), some (.inl x1)] (v.toList ++ []) M1 Q)) :
    sm_Run (d + 1) 172 56 [some (.inr (some a0)), some (.inl x1)] [] M Q := by
  refine ru_go (t := (57, [some (.inr (some a0)), some (.inl x1)], [.inr (some a0)], M)) sm_a172_56 rfl rfl rfl ?_
  refine ru_go (t := (58, [some (.inr (some a0)), some (.inl x1)], [.inl x1, .inr (some a0)], M)) sm_a172_57 rfl rfl rfl ?_
  refine ru_go (t := (59, [some (.inr (some a0)), some (.inl x1)], [.inr (some a0), .inl x1, .inr (some a0)], M)) sm_a172_58 rfl rfl rfl ?_
  obtain ⟨h_1, h⟩ := h
  refine ru_go (t := (62, [some (.inr (some a0)), some (.inl x1)], [.inr (sm_R M a0 7), .inl x1, .inr (some a0)], M)) sm_a172_59 rfl rfl (st_getR h_1 rfl rfl) ?_
  refine ru_go (t := (63, [some (.inr (some a0)), some (.inl x1)], [.inl x1, .inr (sm_R M a0 7), .inl x1, .inr (some a0)], M)) sm_a172_62 rfl rfl rfl ?_
  obtain ⟨b_2, hb_3, h⟩ := h
  rw [hb_3]
  obtain ⟨h_4, h⟩ := h
  obtain ⟨h_5, h⟩ := h
  refine ru_go (t := (64, [some (.inr (some a0)), some (.inl x1)], [.inl (sm_I M b_2 (x1).toNatClampNeg), .inl x1, .inr (some a0)], M)) sm_a172_63 rfl rfl (st_iald h_4 h_5) ?_
  refine ru_go (t := (67, [some (.inr (some a0)), some (.inl x1)], [.inl 255, .inl (sm_I M b_2 (x1).toNatClampNeg), .inl x1, .inr (some a0)], M)) sm_a172_64 rfl rfl (st_sipush (by decide)) ?_
  refine ru_go (t := (68, [some (.inr (some a0)), some (.inl x1)], [.inl ((sm_I M b_2 (x1).toNatClampNeg) &&& 255), .inl x1, .inr (some a0)], M)) sm_a172_67 rfl rfl rfl ?_
  exact ru_call (p := 71) sm_a172_68 rfl (sc_virt (Or.inl rfl) rfl rfl h_1 (Nat.le_of_ble_eq_true rfl)) rfl h
theorem bb_172_71 {d : Nat} {M : sm_M} {Q : Option sm_V → sm_M → Prop} {a0 : Nat} {x1 : Int32}
    (h : sm_K M a0 = 39 ∧ ∃ b_2, sm_R M a0 7 = some b_2 ∧ sm_iA M b_2 ∧ sm_in_ M b_2 x1 ∧ sm_Run d 169 0 (sm_ent 169 [.inr (some a0), .inl x1, .inl ((sm_I M b_2 (x1).toNatClampNeg) >>> (8 &&& 31))]) [] M (fun v M1 => sm_Run (d + 1) 172 85 [some (.inr (some a0)), some (.inl x1)] (v.toList ++ []) M1 Q)) :
    sm_Run (d + 1) 172 71 [some (.inr (some a0)), some (.inl x1)] [] M Q := by
  refine ru_go (t := (72, [some (.inr (some a0)), some (.inl x1)], [.inr (some a0)], M)) sm_a172_71 rfl rfl rfl ?_
  refine ru_go (t := (73, [some (.inr (some a0)), some (.inl x1)], [.inl x1, .inr (some a0)], M)) sm_a172_72 rfl rfl rfl ?_
  refine ru_go (t := (74, [some (.inr (some a0)), some (.inl x1)], [.inr (some a0), .inl x1, .inr (some a0)], M)) sm_a172_73 rfl rfl rfl ?_
  obtain ⟨h_1, h⟩ := h
  refine ru_go (t := (77, [some (.inr (some a0)), some (.inl x1)], [.inr (sm_R M a0 7), .inl x1, .inr (some a0)], M)) sm_a172_74 rfl rfl (st_getR h_1 rfl rfl) ?_
  refine ru_go (t := (78, [some (.inr (some a0)), some (.inl x1)], [.inl x1, .inr (sm_R M a0 7), .inl x1, .inr (some a0)], M)) sm_a172_77 rfl rfl rfl ?_
  obtain ⟨b_2, hb_3, h⟩ := h
  rw [hb_3]
  obtain ⟨h_4, h⟩ := h
  obtain ⟨h_5, h⟩ := h
  refine ru_go (t := (79, [some (.inr (some a0)), some (.inl x1)], [.inl (sm_I M b_2 (x1).toNatClampNeg), .inl x1, .inr (some a0)], M)) sm_a172_78 rfl rfl (st_iald h_4 h_5) ?_
  refine ru_go (t := (81, [some (.inr (some a0)), some (.inl x1)], [.inl 8, .inl (sm_I M b_2 (x1).toNatClampNeg), .inl x1, .inr (some a0)], M)) sm_a172_79 rfl rfl (st_bipush (by decide)) ?_
  refine ru_go (t := (82, [some (.inr (some a0)), some (.inl x1)], [.inl ((sm_I M b_2 (x1).toNatClampNeg) >>> (8 &&& 31)), .inl x1, .inr (some a0)], M)) sm_a172_81 rfl rfl rfl ?_
  exact ru_call (p := 85) sm_a172_82 rfl (sc_virt (Or.inl rfl) rfl rfl h_1 (Nat.le_of_ble_eq_true rfl)) rfl h
theorem bb_172_85 {d : Nat} {M : sm_M} {Q : Option sm_V → sm_M → Prop} {a0 : Nat} {x1 : Int32}
    (h : sm_K M a0 = 39 ∧ ∃ b_2, sm_R M a0 8 = some b_2 ∧ sm_iA M b_2 ∧ sm_in_ M b_2 x1 ∧ sm_Run d 169 0 (sm_ent 169 [.inr (some a0), .inl x1, .inl ((sm_I M b_2 (x1).toNatClampNeg) &&& 255)]) [] M (fun v M1 => sm_Run (d + 1) 172 100 [some (.inr (some a0)), some (.inl x1)] (v.toList ++ []) M1 Q)) :
    sm_Run (d + 1) 172 85 [some (.inr (some a0)), some (.inl x1)] [] M Q := by
  refine ru_go (t := (86, [some (.inr (some a0)), some (.inl x1)], [.inr (some a0)], M)) sm_a172_85 rfl rfl rfl ?_
  refine ru_go (t := (87, [some (.inr (some a0)), some (.inl x1)], [.inl x1, .inr (some a0)], M)) sm_a172_86 rfl rfl rfl ?_
  refine ru_go (t := (88, [some (.inr (some a0)), some (.inl x1)], [.inr (some a0), .inl x1, .inr (some a0)], M)) sm_a172_87 rfl rfl rfl ?_
  obtain ⟨h_1, h⟩ := h
  refine ru_go (t := (91, [some (.inr (some a0)), some (.inl x1)], [.inr (sm_R M a0 8), .inl x1, .inr (some a0)], M)) sm_a172_88 rfl rfl (st_getR h_1 rfl rfl) ?_
  refine ru_go (t := (92, [some (.inr (some a0)), some (.inl x1)], [.inl x1, .inr (sm_R M a0 8), .inl x1, .inr (some a0)], M)) sm_a172_91 rfl rfl rfl ?_
  obtain ⟨b_2, hb_3, h⟩ := h
  rw [hb_3]
  obtain ⟨h_4, h⟩ := h
  obtain ⟨h_5, h⟩ := h
  refine ru_go (t := (93, [some (.inr (some a0)), some (.inl x1)], [.inl (sm_I M b_2 (x1).toNatClampNeg), .inl x1, .inr (some a0)], M)) sm_a172_92 rfl rfl (st_iald h_4 h_5) ?_
  refine ru_go (t := (96, [some (.inr (some a0)), some (.inl x1)], [.inl 255, .inl (sm_I M b_2 (x1).toNatClampNeg), .inl x1, .inr (some a0)], M)) sm_a172_93 rfl rfl (st_sipush (by decide)) ?_
  refine ru_go (t := (97, [some (.inr (some a0)), some (.inl x1)], [.inl ((sm_I M b_2 (x1).toNatClampNeg) &&& 255), .inl x1, .inr (some a0)], M)) sm_a172_96 rfl rfl rfl ?_
  exact ru_call (p := 100) sm_a172_97 rfl (sc_virt (Or.inl rfl) rfl rfl h_1 (Nat.le_of_ble_eq_true rfl)) rfl h
theorem bb_172_100 {d : Nat} {M : sm_M} {Q : Option sm_V → sm_M → Prop} {a0 : Nat} {x1 : Int32}
    (h : sm_K M a0 = 39 ∧ ∃ b_2, sm_R M a0 8 = some b_2 ∧ sm_iA M b_2 ∧ sm_in_ M b_2 x1 ∧ sm_Run d 169 0 (sm_ent 169 [.inr (some a0), .inl x1, .inl ((sm_I M b_2 (x1).toNatClampNeg) >>> (8 &&& 31))]) [] M (fun v M1 => sm_Run (d + 1) 172 114 [some (.inr (some a0)), some (.inl x1)] (v.toList ++ []) M1 Q)) :
    sm_Run (d + 1) 172 100 [some (.inr (some a0)), some (.inl x1)] [] M Q := by
  refine ru_go (t := (101, [some (.inr (some a0)), some (.inl x1)], [.inr (some a0)], M)) sm_a172_100 rfl rfl rfl ?_
  refine ru_go (t := (102, [some (.inr (some a0)), some (.inl x1)], [.inl x1, .inr (some a0)], M)) sm_a172_101 rfl rfl rfl ?_
  refine ru_go (t := (103, [some (.inr (some a0)), some (.inl x1)], [.inr (some a0), .inl x1, .inr (some a0)], M)) sm_a172_102 rfl rfl rfl ?_
  obtain ⟨h_1, h⟩ := h
  refine ru_go (t := (106, [some (.inr (some a0)), some (.inl x1)], [.inr (sm_R M a0 8), .inl x1, .inr (some a0)], M)) sm_a172_103 rfl rfl (st_getR h_1 rfl rfl) ?_
  refine ru_go (t := (107, [some (.inr (some a0)), some (.inl x1)], [.inl x1, .inr (sm_R M a0 8), .inl x1, .inr (some a0)], M)) sm_a172_106 rfl rfl rfl ?_
  obtain ⟨b_2, hb_3, h⟩ := h
  rw [hb_3]
  obtain ⟨h_4, h⟩ := h
  obtain ⟨h_5, h⟩ := h
  refine ru_go (t := (108, [some (.inr (some a0)), some (.inl x1)], [.inl (sm_I M b_2 (x1).toNatClampNeg), .inl x1, .inr (some a0)], M)) sm_a172_107 rfl rfl (st_iald h_4 h_5) ?_
  refine ru_go (t := (110, [some (.inr (some a0)), some (.inl x1)], [.inl 8, .inl (sm_I M b_2 (x1).toNatClampNeg), .inl x1, .inr (some a0)], M)) sm_a172_108 rfl rfl (st_bipush (by decide)) ?_
  refine ru_go (t := (111, [some (.inr (some a0)), some (.inl x1)], [.inl ((sm_I M b_2 (x1).toNatClampNeg) >>> (8 &&& 31)), .inl x1, .inr (some a0)], M)) sm_a172_110 rfl rfl rfl ?_
  exact ru_call (p := 114) sm_a172_111 rfl (sc_virt (Or.inl rfl) rfl rfl h_1 (Nat.le_of_ble_eq_true rfl)) rfl h
theorem bb_172_114 {d : Nat} {M : sm_M} {Q : Option sm_V → sm_M → Prop} {a0 : Nat} {x1 : Int32}
    (h : sm_K M a0 = 39 ∧ sm_Run d 169 0 (sm_ent 169 [.inr (some a0), .inl x1, .inl 0]) [] M (fun v M1 => sm_Run (d + 1) 172 120 [some (.inr (some a0)), some (.inl x1)] (v.toList ++ []) M1 Q)) :
    sm_Run (d + 1) 172 114 [some (.inr (some a0)), some (.inl x1)] [] M Q := by
  refine ru_go (t := (115, [some (.inr (some a0)), some (.inl x1)], [.inr (some a0)], M)) sm_a172_114 rfl rfl rfl ?_
  refine ru_go (t := (116, [some (.inr (some a0)), some (.inl x1)], [.inl x1, .inr (some a0)], M)) sm_a172_115 rfl rfl rfl ?_
  refine ru_go (t := (117, [some (.inr (some a0)), some (.inl x1)], [.inl 0, .inl x1, .inr (some a0)], M)) sm_a172_116 rfl rfl (st_iconst (by decide)) ?_
  obtain ⟨h_1, h⟩ := h
  exact ru_call (p := 120) sm_a172_117 rfl (sc_virt (Or.inl rfl) rfl rfl h_1 (Nat.le_of_ble_eq_true rfl)) rfl h
theorem bb_172_120 {d : Nat} {M : sm_M} {Q : Option sm_V → sm_M → Prop} {a0 : Nat} {x1 : Int32}
    (h : sm_K M a0 = 39 ∧ sm_Run d 169 0 (sm_ent 169 [.inr (some a0), .inl x1, .inl 1]) [] M (fun v M1 => sm_Run (d + 1) 172 126 [some (.inr (some a0)), some (.inl x1)] (v.toList ++ []) M1 Q)) :
    sm_Run (d + 1) 172 120 [some (.inr (some a0)), some (.inl x1)] [] M Q := by
  refine ru_go (t := (121, [some (.inr (some a0)), some (.inl x1)], [.inr (some a0)], M)) sm_a172_120 rfl rfl rfl ?_
  refine ru_go (t := (122, [some (.inr (some a0)), some (.inl x1)], [.inl x1, .inr (some a0)], M)) sm_a172_121 rfl rfl rfl ?_
  refine ru_go (t := (123, [some (.inr (some a0)), some (.inl x1)], [.inl 1, .inl x1, .inr (some a0)], M)) sm_a172_122 rfl rfl (st_iconst (by decide)) ?_
  obtain ⟨h_1, h⟩ := h
  exact ru_call (p := 126) sm_a172_123 rfl (sc_virt (Or.inl rfl) rfl rfl h_1 (Nat.le_of_ble_eq_true rfl)) rfl h
theorem bb_172_126 {d : Nat} {M : sm_M} {Q : Option sm_V → sm_M → Prop} {a0 : Nat} {x1 : Int32}
    (h : sm_K M a0 = 39 ∧ sm_Run d 169 0 (sm_ent 169 [.inr (some a0), .inl x1, .inl 0]) [] M (fun v M1 => sm_Run (d + 1) 172 132 [some (.inr (some a0)), some (.inl x1)] (v.toList ++ []) M1 Q)) :
    sm_Run (d + 1) 172 126 [some (.inr (some a0)), some (.inl x1)] [] M Q := by
  refine ru_go (t := (127, [some (.inr (some a0)), some (.inl x1)], [.inr (some a0)], M)) sm_a172_126 rfl rfl rfl ?_
  refine ru_go (t := (128, [some (.inr (some a0)), some (.inl x1)], [.inl x1, .inr (some a0)], M)) sm_a172_127 rfl rfl rfl ?_
  refine ru_go (t := (129, [some (.inr (some a0)), some (.inl x1)], [.inl 0, .inl x1, .inr (some a0)], M)) sm_a172_128 rfl rfl (st_iconst (by decide)) ?_
  obtain ⟨h_1, h⟩ := h
  exact ru_call (p := 132) sm_a172_129 rfl (sc_virt (Or.inl rfl) rfl rfl h_1 (Nat.le_of_ble_eq_true rfl)) rfl h
theorem bb_172_132 {d : Nat} {M : sm_M} {Q : Option sm_V → sm_M → Prop} {a0 : Nat} {x1 : Int32}
    (h : sm_K M a0 = 39 ∧ sm_Run d 169 0 (sm_ent 169 [.inr (some a0), .inl x1, .inl 0]) [] M (fun v M1 => sm_Run (d + 1) 172 138 [some (.inr (some a0)), some (.inl x1)] (v.toList ++ []) M1 Q)) :
    sm_Run (d + 1) 172 132 [some (.inr (some a0)), some (.inl x1)] [] M Q := by
  refine ru_go (t := (133, [some (.inr (some a0)), some (.inl x1)], [.inr (some a0)], M)) sm_a172_132 rfl rfl rfl ?_
  refine ru_go (t := (134, [some (.inr (some a0)), some (.inl x1)], [.inl x1, .inr (some a0)], M)) sm_a172_133 rfl rfl rfl ?_
  refine ru_go (t := (135, [some (.inr (some a0)), some (.inl x1)], [.inl 0, .inl x1, .inr (some a0)], M)) sm_a172_134 rfl rfl (st_iconst (by decide)) ?_
  obtain ⟨h_1, h⟩ := h
  exact ru_call (p := 138) sm_a172_135 rfl (sc_virt (Or.inl rfl) rfl rfl h_1 (Nat.le_of_ble_eq_true rfl)) rfl h
theorem bb_172_138 {d : Nat} {M : sm_M} {Q : Option sm_V → sm_M → Prop} {a0 : Nat} {x1 : Int32}
    (h : sm_K M a0 = 39 ∧ sm_Run d 169 0 (sm_ent 169 [.inr (some a0), .inl x1, .inl 0]) [] M (fun v M1 => sm_Run (d + 1) 172 144 [some (.inr (some a0)), some (.inl x1)] (v.toList ++ []) M1 Q)) :
    sm_Run (d + 1) 172 138 [some (.inr (some a0)), some (.inl x1)] [] M Q := by
  refine ru_go (t := (139, [some (.inr (some a0)), some (.inl x1)], [.inr (some a0)], M)) sm_a172_138 rfl rfl rfl ?_
  refine ru_go (t := (140, [some (.inr (some a0)), some (.inl x1)], [.inl x1, .inr (some a0)], M)) sm_a172_139 rfl rfl rfl ?_
  refine ru_go (t := (141, [some (.inr (some a0)), some (.inl x1)], [.inl 0, .inl x1, .inr (some a0)], M)) sm_a172_140 rfl rfl (st_iconst (by decide)) ?_
  obtain ⟨h_1, h⟩ := h
  exact ru_call (p := 144) sm_a172_141 rfl (sc_virt (Or.inl rfl) rfl rfl h_1 (Nat.le_of_ble_eq_true rfl)) rfl h
theorem bb_172_144 {d : Nat} {M : sm_M} {Q : Option sm_V → sm_M → Prop} {a0 : Nat} {x1 : Int32}
    (h : sm_K M a0 = 39 ∧ sm_Run d 169 0 (sm_ent 169 [.inr (some a0), .inl x1, .inl 1]) [] M (fun v M1 => sm_Run (d + 1) 172 150 [some (.inr (some a0)), some (.inl x1)] (v.toList ++ []) M1 Q)) :
    sm_Run (d + 1) 172 144 [some (.inr (some a0)), some (.inl x1)] [] M Q := by
  refine ru_go (t := (145, [some (.inr (some a0)), some (.inl x1)], [.inr (some a0)], M)) sm_a172_144 rfl rfl rfl ?_
  refine ru_go (t := (146, [some (.inr (some a0)), some (.inl x1)], [.inl x1, .inr (some a0)], M)) sm_a172_145 rfl rfl rfl ?_
  refine ru_go (t := (147, [some (.inr (some a0)), some (.inl x1)], [.inl 1, .inl x1, .inr (some a0)], M)) sm_a172_146 rfl rfl (st_iconst (by decide)) ?_
  obtain ⟨h_1, h⟩ := h
  exact ru_call (p := 150) sm_a172_147 rfl (sc_virt (Or.inl rfl) rfl rfl h_1 (Nat.le_of_ble_eq_true rfl)) rfl h
theorem bb_172_150 {d : Nat} {M : sm_M} {Q : Option sm_V → sm_M → Prop} {a0 : Nat} {x1 : Int32}
    (h : Q none M) :
    sm_Run (d + 1) 172 150 [some (.inr (some a0)), some (.inl x1)] [] M Q := by
  exact ru_ret sm_a172_150 (sm_rvv rfl) h

/-! WireBusModel.configure:(I)V -/
theorem sm_a173_0 : sm_at 173 0 = some (.iconst 0, 1, (0, 0, 0, 0)) := by decide +kernel
theorem sm_a173_1 : sm_at 173 1 = some (.istore_n 2, 1, (0, 0, 0, 0)) := by decide +kernel
theorem sm_a173_2 : sm_at 173 2 = some (.iload_n 2, 1, (0, 0, 0, 0)) := by decide +kernel
theorem sm_a173_3 : sm_at 173 3 = some (.bipush 18, 2, (0, 0, 0, 0)) := by decide +kernel
theorem sm_a173_5 : sm_at 173 5 = some (.if_icmp .ge 55, 3, (0, 0, 0, 0)) := by decide +kernel
theorem sm_a173_8 : sm_at 173 8 = some (.aload_n 0, 1, (0, 0, 0, 0)) := by decide +kernel
theorem sm_a173_9 : sm_at 173 9 = some (.iload_n 1, 1, (0, 0, 0, 0)) := by decide +kernel
theorem sm_a173_10 : sm_at 173 10 = some (.iload_n 2, 1, (0, 0, 0, 0)) := by decide +kernel
theorem sm_a173_11 : sm_at 173 11 = some (.iconst 2, 1, (0, 0, 0, 0)) := by decide +kernel
theorem sm_a173_12 : sm_at 173 12 = some (.if_icmp .ne 18, 3, (0, 0, 0, 0)) := by decide +kernel
theorem sm_a173_15 : sm_at 173 15 = some (.bipush 18, 2, (0, 0, 0, 0)) := by decide +kernel
theorem sm_a173_17 : sm_at 173 17 = some (.bipush 7, 2, (0, 0, 0, 0)) := by decide +kernel
theorem sm_a173_19 : sm_at 173 19 = some (.aload_n 0, 1, (0, 0, 0, 0)) := by decide +kernel
theorem sm_a173_20 : sm_at 173 20 = some (.getfield 31, 3, (12, 9, 0, 1192)) := by decide +kernel
theorem sm_a173_23 : sm_at 173 23 = some (.iload_n 1, 1, (0, 0, 0, 0)) := by decide +kernel
theorem sm_a173_24 : sm_at 173 24 = some (.iaload, 1, (0, 0, 0, 0)) := by decide +kernel
theorem sm_a173_25 : sm_at 173 25 = some (.imul, 1, (0, 0, 0, 0)) := by decide +kernel
theorem sm_a173_26 : sm_at 173 26 = some (.iadd, 1, (0, 0, 0, 0)) := by decide +kernel
theorem sm_a173_27 : sm_at 173 27 = some (.goto 24, 3, (0, 0, 0, 0)) := by decide +kernel
theorem sm_a173_30 : sm_at 173 30 = some (.iload_n 2, 1, (0, 0, 0, 0)) := by decide +kernel
theorem sm_a173_31 : sm_at 173 31 = some (.bipush 13, 2, (0, 0, 0, 0)) := by decide +kernel
theorem sm_a173_33 : sm_at 173 33 = some (.if_icmp .ne 12, 3, (0, 0, 0, 0)) := by decide +kernel
theorem sm_a173_36 : sm_at 173 36 = some (.aload_n 0, 1, (0, 0, 0, 0)) := by decide +kernel
theorem sm_a173_37 : sm_at 173 37 = some (.getfield 31, 3, (12, 9, 0, 1192)) := by decide +kernel
theorem sm_a173_40 : sm_at 173 40 = some (.iload_n 1, 1, (0, 0, 0, 0)) := by decide +kernel
theorem sm_a173_41 : sm_at 173 41 = some (.iaload, 1, (0, 0, 0, 0)) := by decide +kernel
theorem sm_a173_42 : sm_at 173 42 = some (.goto 9, 3, (0, 0, 0, 0)) := by decide +kernel
theorem sm_a173_45 : sm_at 173 45 = some (.aload_n 0, 1, (0, 0, 0, 0)) := by decide +kernel
theorem sm_a173_46 : sm_at 173 46 = some (.getfield 146, 3, (12, 55, 0, 1238)) := by decide +kernel
theorem sm_a173_49 : sm_at 173 49 = some (.iload_n 2, 1, (0, 0, 0, 0)) := by decide +kernel
theorem sm_a173_50 : sm_at 173 50 = some (.iaload, 1, (0, 0, 0, 0)) := by decide +kernel
theorem sm_a173_51 : sm_at 173 51 = some (.invokevirtual 319, 3, (10, 169, 12, 1572)) := by decide +kernel
theorem sm_a173_54 : sm_at 173 54 = some (.iinc 2 1, 3, (0, 0, 0, 0)) := by decide +kernel
theorem sm_a173_57 : sm_at 173 57 = some (.goto (-55), 3, (0, 0, 0, 0)) := by decide +kernel
theorem sm_a173_60 : sm_at 173 60 = some (.bipush 6, 2, (0, 0, 0, 0)) := by decide +kernel
theorem sm_a173_62 : sm_at 173 62 = some (.iload_n 1, 1, (0, 0, 0, 0)) := by decide +kernel
theorem sm_a173_63 : sm_at 173 63 = some (.imul, 1, (0, 0, 0, 0)) := by decide +kernel
theorem sm_a173_64 : sm_at 173 64 = some (.istore_n 2, 1, (0, 0, 0, 0)) := by decide +kernel
theorem sm_a173_65 : sm_at 173 65 = some (.iload_n 2, 1, (0, 0, 0, 0)) := by decide +kernel
theorem sm_a173_66 : sm_at 173 66 = some (.bipush 6, 2, (0, 0, 0, 0)) := by decide +kernel
theorem sm_a173_68 : sm_at 173 68 = some (.iload_n 1, 1, (0, 0, 0, 0)) := by decide +kernel
theorem sm_a173_69 : sm_at 173 69 = some (.imul, 1, (0, 0, 0, 0)) := by decide +kernel
theorem sm_a173_70 : sm_at 173 70 = some (.aload_n 0, 1, (0, 0, 0, 0)) := by decide +kernel
theorem sm_a173_71 : sm_at 173 71 = some (.getfield 31, 3, (12, 9, 0, 1192)) := by decide +kernel
theorem sm_a173_74 : sm_at 173 74 = some (.iload_n 1, 1, (0, 0, 0, 0)) := by decide +kernel
theorem sm_a173_75 : sm_at 173 75 = some (.iaload, 1, (0, 0, 0, 0)) := by decide +kernel
theorem sm_a173_76 : sm_at 173 76 = some (.iadd, 1, (0, 0, 0, 0)) := by decide +kernel
theorem sm_a173_77 : sm_at 173 77 = some (.if_icmp .ge 80, 3, (0, 0, 0, 0)) := by decide +kernel
theorem sm_a173_80 : sm_at 173 80 = some (.aload_n 0, 1, (0, 0, 0, 0)) := by decide +kernel
theorem sm_a173_81 : sm_at 173 81 = some (.iload_n 1, 1, (0, 0, 0, 0)) := by decide +kernel
theorem sm_a173_82 : sm_at 173 82 = some (.bipush 7, 2, (0, 0, 0, 0)) := by decide +kernel
theorem sm_a173_84 : sm_at 173 84 = some (.invokevirtual 319, 3, (10, 169, 12, 1572)) := by decide +kernel
theorem sm_a173_87 : sm_at 173 87 = some (.aload_n 0, 1, (0, 0, 0, 0)) := by decide +kernel
theorem sm_a173_88 : sm_at 173 88 = some (.iload_n 1, 1, (0, 0, 0, 0)) := by decide +kernel
theorem sm_a173_89 : sm_at 173 89 = some (.iconst 5, 1, (0, 0, 0, 0)) := by decide +kernel
theorem sm_a173_90 : sm_at 173 90 = some (.invokevirtual 319, 3, (10, 169, 12, 1572)) := by decide +kernel
theorem sm_a173_93 : sm_at 173 93 = some (.aload_n 0, 1, (0, 0, 0, 0)) := by decide +kernel
theorem sm_a173_94 : sm_at 173 94 = some (.iload_n 1, 1, (0, 0, 0, 0)) := by decide +kernel
theorem sm_a173_95 : sm_at 173 95 = some (.aload_n 0, 1, (0, 0, 0, 0)) := by decide +kernel
theorem sm_a173_96 : sm_at 173 96 = some (.getfield 34, 3, (12, 10, 0, 1193)) := by decide +kernel
theorem sm_a173_99 : sm_at 173 99 = some (.iload_n 2, 1, (0, 0, 0, 0)) := by decide +kernel
theorem sm_a173_100 : sm_at 173 100 = some (.iaload, 1, (0, 0, 0, 0)) := by decide +kernel
theorem sm_a173_101 : sm_at 173 101 = some (.invokevirtual 319, 3, (10, 169, 12, 1572)) := by decide +kernel
theorem sm_a173_104 : sm_at 173 104 = some (.aload_n 0, 1, (0, 0, 0, 0)) := by decide +kernel
theorem sm_a173_105 : sm_at 173 105 = some (.iload_n 1, 1, (0, 0, 0, 0)) := by decide +kernel
theorem sm_a173_106 : sm_at 173 106 = some (.aload_n 0, 1, (0, 0, 0, 0)) := by decide +kernel
theorem sm_a173_107 : sm_at 173 107 = some (.getfield 40, 3, (12, 12, 0, 1195)) := by decide +kernel
theorem sm_a173_110 : sm_at 173 110 = some (.iload_n 2, 1, (0, 0, 0, 0)) := by decide +kernel
theorem sm_a173_111 : sm_at 173 111 = some (.iaload, 1, (0, 0, 0, 0)) := by decide +kernel
theorem sm_a173_112 : sm_at 173 112 = some (.ifCond .ne 7, 3, (0, 0, 0, 0)) := by decide +kernel
theorem sm_a173_115 : sm_at 173 115 = some (.iconst 2, 1, (0, 0, 0, 0)) := by decide +kernel
theorem sm_a173_116 : sm_at 173 116 = some (.goto 4, 3, (0, 0, 0, 0)) := by decide +kernel
theorem sm_a173_119 : sm_at 173 119 = some (.iconst 3, 1, (0, 0, 0, 0)) := by decide +kernel
theorem sm_a173_120 : sm_at 173 120 = some (.invokevirtual 319, 3, (10, 169, 12, 1572)) := by decide +kernel
theorem sm_a173_123 : sm_at 173 123 = some (.aload_n 0, 1, (0, 0, 0, 0)) := by decide +kernel
theorem sm_a173_124 : sm_at 173 124 = some (.iload_n 1, 1, (0, 0, 0, 0)) := by decide +kernel
theorem sm_a173_125 : sm_at 173 125 = some (.aload_n 0, 1, (0, 0, 0, 0)) := by decide +kernel
theorem sm_a173_126 : sm_at 173 126 = some (.getfield 37, 3, (12, 11, 0, 1194)) := by decide +kernel
theorem sm_a173_129 : sm_at 173 129 = some (.iload_n 2, 1, (0, 0, 0, 0)) := by decide +kernel
theorem sm_a173_130 : sm_at 173 130 = some (.iaload, 1, (0, 0, 0, 0)) := by decide +kernel
theorem sm_a173_131 : sm_at 173 131 = some (.invokevirtual 319, 3, (10, 169, 12, 1572)) := by decide +kernel
theorem sm_a173_134 : sm_at 173 134 = some (.aload_n 0, 1, (0, 0, 0, 0)) := by decide +kernel
theorem sm_a173_135 : sm_at 173 135 = some (.iload_n 1, 1, (0, 0, 0, 0)) := by decide +kernel
theorem sm_a173_136 : sm_at 173 136 = some (.iconst 0, 1, (0, 0, 0, 0)) := by decide +kernel
theorem sm_a173_137 : sm_at 173 137 = some (.invokevirtual 319, 3, (10, 169, 12, 1572)) := by decide +kernel
theorem sm_a173_140 : sm_at 173 140 = some (.aload_n 0, 1, (0, 0, 0, 0)) := by decide +kernel
theorem sm_a173_141 : sm_at 173 141 = some (.iload_n 1, 1, (0, 0, 0, 0)) := by decide +kernel
theorem sm_a173_142 : sm_at 173 142 = some (.aload_n 0, 1, (0, 0, 0, 0)) := by decide +kernel
theorem sm_a173_143 : sm_at 173 143 = some (.getfield 40, 3, (12, 12, 0, 1195)) := by decide +kernel
theorem sm_a173_146 : sm_at 173 146 = some (.iload_n 2, 1, (0, 0, 0, 0)) := by decide +kernel
theorem sm_a173_147 : sm_at 173 147 = some (.iaload, 1, (0, 0, 0, 0)) := by decide +kernel
theorem sm_a173_148 : sm_at 173 148 = some (.invokevirtual 319, 3, (10, 169, 12, 1572)) := by decide +kernel
theorem sm_a173_151 : sm_at 173 151 = some (.iinc 2 1, 3, (0, 0, 0, 0)) := by decide +kernel
theorem sm_a173_154 : sm_at 173 154 = some (.goto (-89), 3, (0, 0, 0, 0)) := by decide +kernel
theorem sm_a173_157 : sm_at 173 157 = some (.return_, 1, (0, 0, 0, 0)) := by decide +kernel
theorem bb_173_0 {d : Nat} {M : sm_M} {Q : Option sm_V → sm_M → Prop} {a0 : Nat} {x1 : Int32} {z2 : Option sm_V}
    (h : sm_Run (d + 1) 173 2 [some (.inr (some a0)), some (.inl x1), some (.inl 0)] [] M Q) :
    sm_Run (d + 1) 173 0 [some (.inr (some a0)), some (.inl x1), z2] [] M Q := by
  refine ru_go (t := (1, [some (.inr (some a0)), some (.inl x1), z2], [.inl 0], M)) sm_a173_0 rfl rfl (st_iconst (by decide)) ?_
  refine ru_go (t := (2, [some (.inr (some a0)), some (.inl x1), some (.inl 0)], [], M)) sm_a173_1 rfl rfl rfl ?_
  exact h
theorem bb_173_2 {d : Nat} {M : sm_M} {Q : Option sm_V → sm_M → Prop} {a0 : Nat} {x1 : Int32} {x2 : Int32}
    (h : ((18 ≤ x2 → sm_Run (d + 1) 173 65 [some (.inr (some a0)), some (.inl x1), some (.inl (6 * x1))] [] M Q) ∧ (¬ (18 ≤ x2) → ((¬ x2 = 2 → ((¬ x2 = 13 → sm_K M a0 = 39 ∧ ∃ b_5, sm_R M a0 55 = some b_5 ∧ sm_iA M b_5 ∧ sm_in_ M b_5 x2 ∧ sm_Run d 169 0 (sm_ent 169 [.inr (some a0), .inl x1, .inl (sm_I M b_5 (x2).toNatClampNeg)]) [] M (fun v M1 => sm_Run (d + 1) 173 54 [some (.inr (some a0)), some (.inl x1), some (.inl x2)] (v.toList ++ []) M1 Q)) ∧ (¬ (¬ x2 = 13) → sm_K M a0 = 39 ∧ ∃ b_10, sm_R M a0 9 = some b_10 ∧ sm_iA M b_10 ∧ sm_in_ M b_10 x1 ∧ sm_Run d 169 0 (sm_ent 169 [.inr (some a0), .inl x1, .inl (sm_I M b_10 (x1).toNatClampNeg)]) [] M (fun v M1 => sm_Run (d + 1) 173 54 [some (.inr (some a0)), some (.inl x1), some (.inl x2)] (v.toList ++ []) M1 Q)))) ∧ (¬ (¬ x2 = 2) → sm_K M a0 = 39 ∧ ∃ b_15, sm_R M a0 9 = some b_15 ∧ sm_iA M b_15 ∧ sm_in_ M b_15 x1 ∧ sm_Run d 169 0 (sm_ent 169 [.inr (some a0), .inl x1, .inl (18 + (7 * (sm_I M b_15 (x1).toNatClampNeg)))]) [] M (fun v M1 => sm_Run (d + 1) 173 54 [some (.inr (some a0)), some (.inl x1), some (.inl x2)] (v.toList ++ []) M1 Q)))))) :
    sm_Run (d + 1) 173 2 [some (.inr (some a0)), some (.inl x1), some (.inl x2)] [] M Q := by
  refine ru_go (t := (3, [some (.inr (some a0)), some (.inl x1), some (.inl x2)], [.inl x2], M)) sm_a173_2 rfl rfl rfl ?_
  refine ru_go (t := (5, [some (.inr (some a0)), some (.inl x1), some (.inl x2)], [.inl 18, .inl x2], M)) sm_a173_3 rfl rfl (st_bipush (by decide)) ?_
  refine ru_icmp (pc := 5) (p := 60) (p2 := 8) sm_a173_5 (by decide) rfl ⟨fun hc_1 => ?_, fun hc_1 => ?_⟩
  · have h := h.1 hc_1
    refine ru_go (t := (62, [some (.inr (some a0)), some (.inl x1), some (.inl x2)], [.inl 6], M)) sm_a173_60 rfl rfl (st_bipush (by decide)) ?_
    refine ru_go (t := (63, [some (.inr (some a0)), some (.inl x1), some (.inl x2)], [.inl x1, .inl 6], M)) sm_a173_62 rfl rfl rfl ?_
    refine ru_go (t := (64, [some (.inr (some a0)), some (.inl x1), some (.inl x2)], [.inl (6 * x1)], M)) sm_a173_63 rfl rfl rfl ?_
    refine ru_go (t := (65, [some (.inr (some a0)), some (.inl x1), some (.inl (6 * x1))], [], M)) sm_a173_64 rfl rfl rfl ?_
    exact h
  · have h := h.2 hc_1
    refine ru_go (t := (9, [some (.inr (some a0)), some (.inl x1), some (.inl x2)], [.inr (some a0)], M)) sm_a173_8 rfl rfl rfl ?_
    refine ru_go (t := (10, [some (.inr (some a0)), some (.inl x1), some (.inl x2)], [.inl x1, .inr (some a0)], M)) sm_a173_9 rfl rfl rfl ?_
    refine ru_go (t := (11, [some (.inr (some a0)), some (.inl x1), some (.inl x2)], [.inl x2, .inl x1, .inr (some a0)], M)) sm_a173_10 rfl rfl rfl ?_
    refine ru_go (t := (12, [some (.inr (some a0)), some (.inl x1), some (.inl x2)], [.inl 2, .inl x2, .inl x1, .inr (some a0)], M)) sm_a173_11 rfl rfl (st_iconst (by decide)) ?_
    refine ru_icmp (pc := 12) (p := 30) (p2 := 15) sm_a173_12 (by decide) rfl ⟨fun hc_2 => ?_, fun hc_2 => ?_⟩
    · have h := h.1 hc_2
      refine ru_go (t := (31, [some (.inr (some a0)), some (.inl x1), some (.inl x2)], [.inl x2, .inl x1, .inr (some a0)], M)) sm_a173_30 rfl rfl rfl ?_
      refine ru_go (t := (33, [some (.inr (some a0)), some (.inl x1), some (.inl x2)], [.inl 13, .inl x2, .inl x1, .inr (some a0)], M)) sm_a173_31 rfl rfl (st_bipush (by decide)) ?_
      refine ru_icmp (pc := 33) (p := 45) (p2 := 36) sm_a173_33 (by decide) rfl ⟨fun hc_3 => ?_, fun hc_3 => ?_⟩
      · have h := h.1 hc_3
        refine ru_go (t := (46, [some (.inr (some a0)), some (.inl x1), some (.inl x2)], [.inr (some a0), .inl x1, .inr (some a0)], M)) sm_a173_45 rfl rfl rfl ?_
        obtain ⟨h_4, h⟩ := h
        refine ru_go (t := (49, [some (.inr (some a0)), some (.inl x1), some (.inl x2)], [.inr (sm_R M a0 55), .inl x1, .inr (some a0)], M)) sm_a173_46 rfl rfl (st_getR h_4 rfl rfl) ?_
        refine ru_go (t := (50, [some (.inr (some a0)), some (.inl x1), some (.inl x2)], [.inl x2, .inr (sm_R M a0 55), .inl x1, .inr (some a0)], M)) sm_a173_49 rfl rfl rfl ?_
        obtain ⟨b_5, hb_6, h⟩ := h
        rw [hb_6]
        obtain ⟨h_7, h⟩ := h
        obtain ⟨h_8, h⟩ := h
        refine ru_go (t := (51, [some (.inr (some a0)), some (.inl x1), some (.inl x2)], [.inl (sm_I M b_5 (x2).toNatClampNeg), .inl x1, .inr (some a0)], M)) sm_a173_50 rfl rfl (st_iald h_7 h_8) ?_
        exact ru_call (p := 54) sm_a173_51 rfl (sc_virt (Or.inl rfl) rfl rfl h_4 (Nat.le_of_ble_eq_true rfl)) rfl h
      · have h := h.2 hc_3
        refine ru_go (t := (37, [some (.inr (some a0)), some (.inl x1), some (.inl x2)], [.inr (some a0), .inl x1, .inr (some a0)], M)) sm_a173_36 rfl rfl rfl ?_
        obtain ⟨h_9, h⟩ := h
        refine ru_go (t := (40, [some (.inr (some a0)), some (.inl x1), some (.inl x2)], [.inr (sm_R M a0 9), .inl x1, .inr (some a0)], M)) sm_a173_37 rfl rfl (st_getR h_9 rfl rfl) ?_
        refine ru_go (t := (41, [some (.inr (some a0)), some (.inl x1), some (.inl x2)], [.inl x1, .inr (sm_R M a0 9), .inl x1, .inr (some a0)], M)) sm_a173_40 rfl rfl rfl ?_
        obtain ⟨b_10, hb_11, h⟩ := h
        rw [hb_11]
        obtain ⟨h_12, h⟩ := h
        obtain ⟨h_13, h⟩ := h
        refine ru_go (t := (42, [some (.inr (some a0)), some (.inl x1), some (.inl x2)], [.inl (sm_I M b_10 (x1).toNatClampNeg), .inl x1, .inr (some a0)], M)) sm_a173_41 rfl rfl (st_iald h_12 h_13) ?_
        refine ru_go (t := (51, [some (.inr (some a0)), some (.inl x1), some (.inl x2)], [.inl (sm_I M b_10 (x1).toNatClampNeg), .inl x1, .inr (some a0)], M)) sm_a173_42 rfl rfl (st_goto (pc := 42) (by decide)) ?_
        exact ru_call (p := 54) sm_a173_51 rfl (sc_virt (Or.inl rfl) rfl rfl h_9 (Nat.le_of_ble_eq_true rfl)) rfl h
    · have h := h.2 hc_2
      refine ru_go (t := (17, [some (.inr (some a0)), some (.inl x1), some (.inl x2)], [.inl 18, .inl x1, .inr (some a0)], M)) sm_a173_15 rfl rfl (st_bipush (by decide)) ?_
      refine ru_go (t := (19, [some (.inr (some a0)), some (.inl x1), some (.inl x2)], [.inl 7, .inl 18, .inl x1, .inr (some a0)], M)) sm_a173_17 rfl rfl (st_bipush (by decide)) ?_
      refine ru_go (t := (20, [some (.inr (some a0)), some (.inl x1), some (.inl x2)], [.inr (some a0), .inl 7, .inl 18, .inl x1, .inr (some a0)], M)) sm_a173_19 rfl rfl rfl ?_
      obtain ⟨h_14, h⟩ := h
      refine ru_go (t := (23, [some (.inr (some a0)), some (.inl x1), some (.inl x2)], [.inr (sm_R M a0 9), .inl 7, .inl 18, .inl x1, .inr (some a0)], M)) sm_a173_20 rfl rfl (st_getR h_14 rfl rfl) ?_
      refine ru_go (t := (24, [some (.inr (some a0)), some (.inl x1), some (.inl x2)], [.inl x1, .inr (sm_R M a0 9), .inl 7, .inl 18, .inl x1, .inr (some a0)], M)) sm_a173_23 rfl rfl rfl ?_
      obtain ⟨b_15, hb_16, h⟩ := h
      rw [hb_16]
      obtain ⟨h_17, h⟩ := h
      obtain ⟨h_18, h⟩ := h
      refine ru_go (t := (25, [some (.inr (some a0)), some (.inl x1), some (.inl x2)], [.inl (sm_I M b_15 (x1).toNatClampNeg), .inl 7, .inl 18, .inl x1, .inr (some a0)], M)) sm_a173_24 rfl rfl (st_iald h_17 h_18) ?_
      refine ru_go (t := (26, [some (.inr (some a0)), some (.inl x1), some (.inl x2)], [.inl (7 * (sm_I M b_15 (x1).toNatClampNeg)), .inl 18, .inl x1, .inr (some a0)], M)) sm_a173_25 rfl rfl rfl ?_
      refine ru_go (t := (27, [some (.inr (some a0)), some (.inl x1), some (.inl x2)], [.inl (18 + (7 * (sm_I M b_15 (x1).toNatClampNeg))), .inl x1, .inr (some a0)], M)) sm_a173_26 rfl rfl rfl ?_
      refine ru_go (t := (51, [some (.inr (some a0)), some (.inl x1), some (.inl x2)], [.inl (18 + (7 * (sm_I M b_15 (x1).toNatClampNeg))), .inl x1, .inr (some a0)], M)) sm_a173_27 rfl rfl (st_goto (pc := 27) (by decide)) ?_
      exact ru_call (p := 54) sm_a173_51 rfl (sc_virt (Or.inl rfl) rfl rfl h_14 (Nat.le_of_ble_eq_true rfl)) rfl h
theorem bb_173_54 {d : Nat} {M : sm_M} {Q : Option sm_V → sm_M → Prop} {a0 : Nat} {x1 : Int32} {x2 : Int32}
    (h : sm_Run (d + 1) 173 2 [some (.inr (some a0)), some (.inl x1), some (.inl (x2 + 1))] [] M Q) :
    sm_Run (d + 1) 173 54 [some (.inr (some a0)), some (.inl x1), some (.inl x2)] [] M Q := by
  refine ru_go (t := (57, [some (.inr (some a0)), some (.inl x1), some (.inl (x2 + 1))], [], M)) sm_a173_54 rfl rfl (st_iinc rfl (by decide)) ?_
  refine ru_go (t := (2, [some (.inr (some a0)), some (.inl x1), some (.inl (x2 + 1))], [], M)) sm_a173_57 rfl rfl (st_goto (pc := 57) (by decide)) ?_
  exact h
theorem bb_173_65 {d : Nat} {M : sm_M} {Q : Option sm_V → sm_M → Prop} {a0 : Nat} {x1 : Int32} {x2 : Int32}
    (h : sm_K M a0 = 39 ∧ ∃ b_2, sm_R M a0 9 = some b_2 ∧ sm_iA M b_2 ∧ sm_in_ M b_2 x1 ∧ ((((6 * x1) + (sm_I M b_2 (x1).toNatClampNeg)) ≤ x2 → Q none M) ∧ (¬ (((6 * x1) + (sm_I M b_2 (x1).toNatClampNeg)) ≤ x2) → sm_Run d 169 0 (sm_ent 169 [.inr (some a0), .inl x1, .inl 7]) [] M (fun v M1 => sm_Run (d + 1) 173 87 [some (.inr (some a0)), some (.inl x1), some (.inl x2)] (v.toList ++ []) M1 Q)))) :
    sm_Run (d + 1) 173 65 [some (.inr (some a0)), some (.inl x1), some (.inl x2)] [] M Q := by
  refine ru_go (t := (66, [some (.inr (some a0)), some (.inl x1), some (.inl x2)], [.inl x2], M)) sm_a173_65 rfl rfl rfl ?_
  refine ru_go (t := (68, [some (.inr (some a0)), some (.inl x1), some (.inl x2)], [.inl 6, .inl x2], M)) sm_a173_66 rfl rfl (st_bipush (by decide)) ?_
  refine ru_go (t := (69, [some (.inr (some a0)), some (.inl x1), some (.inl x2)], [.inl x1, .inl 6, .inl x2], M)) sm_a173_68 rfl rfl rfl ?_
  refine ru_go (t := (70, [some (.inr (some a0)), some (.inl x1), some (.inl x2)], [.inl (6 * x1), .inl x2], M)) sm_a173_69 rfl rfl rfl ?_
  refine ru_go (t := (71, [some (.inr (some a0)), some (.inl x1), some (.inl x2)], [.inr (some a0), .inl (6 * x1), .inl x2], M)) sm_a173_70 rfl rfl rfl ?_
  obtain ⟨h_1, h⟩ := h
  refine ru_go (t := (74, [some (.inr (some a0)), some (.inl x1), some (.inl x2)], [.inr (sm_R M a0 9), .inl (6 * x1), .inl x2], M)) sm_a173_71 rfl rfl (st_getR h_1 rfl rfl) ?_
  refine ru_go (t := (75, [some (.inr (some a0)), some (.inl x1), some (.inl x2)], [.inl x1, .inr (sm_R M a0 9), .inl (6 * x1), .inl x2], M)) sm_a173_74 rfl rfl rfl ?_
  obtain ⟨b_2, hb_3, h⟩ := h
  rw [hb_3]
  obtain ⟨h_4, h⟩ := h
  obtain ⟨h_5, h⟩ := h
  refine ru_go (t := (76, [some (.inr (some a0)), some (.inl x1), some (.inl x2)], [.inl (sm_I M b_2 (x1).toNatClampNeg), .inl (6 * x1), .inl x2], M)) sm_a173_75 rfl rfl (st_iald h_4 h_5) ?_
  refine ru_go (t := (77, [some (.inr (some a0)), some (.inl x1), some (.inl x2)], [.inl ((6 * x1) + (sm_I M b_2 (x1).toNatClampNeg)), .inl x2], M)) sm_a173_76 rfl rfl rfl ?_
  refine ru_icmp (pc := 77) (p := 157) (p2 := 80) sm_a173_77 (by decide) rfl ⟨fun hc_6 => ?_, fun hc_6 => ?_⟩
  · have h := h.1 hc_6
    exact ru_ret sm_a173_157 (sm_rvv rfl) h
  · have h := h.2 hc_6
    refine ru_go (t := (81, [some (.inr (some a0)), some (.inl x1), some (.inl x2)], [.inr (some a0)], M)) sm_a173_80 rfl rfl rfl ?_
    refine ru_go (t := (82, [some (.inr (some a0)), some (.inl x1), some (.inl x2)], [.inl x1, .inr (some a0)], M)) sm_a173_81 rfl rfl rfl ?_
    refine ru_go (t := (84, [some (.inr (some a0)), some (.inl x1), some (.inl x2)], [.inl 7, .inl x1, .inr (some a0)], M)) sm_a173_82 rfl rfl (st_bipush (by decide)) ?_
    exact ru_call (p := 87) sm_a173_84 rfl (sc_virt (Or.inl rfl) rfl rfl h_1 (Nat.le_of_ble_eq_true rfl)) rfl h
theorem bb_173_87 {d : Nat} {M : sm_M} {Q : Option sm_V → sm_M → Prop} {a0 : Nat} {x1 : Int32} {x2 : Int32}
    (h : sm_K M a0 = 39 ∧ sm_Run d 169 0 (sm_ent 169 [.inr (some a0), .inl x1, .inl 5]) [] M (fun v M1 => sm_Run (d + 1) 173 93 [some (.inr (some a0)), some (.inl x1), some (.inl x2)] (v.toList ++ []) M1 Q)) :
    sm_Run (d + 1) 173 87 [some (.inr (some a0)), some (.inl x1), some (.inl x2)] [] M Q := by
  refine ru_go (t := (88, [some (.inr (some a0)), some (.inl x1), some (.inl x2)], [.inr (some a0)], M)) sm_a173_87 rfl rfl rfl ?_
  refine ru_go (t := (89, [some (.inr (some a0)), some (.inl x1), some (.inl x2)], [.inl x1, .inr (some a0)], M)) sm_a173_88 rfl rfl rfl ?_
  refine ru_go (t := (90, [some (.inr (some a0)), some (.inl x1), some (.inl x2)], [.inl 5, .inl x1, .inr (some a0)], M)) sm_a173_89 rfl rfl (st_iconst (by decide)) ?_
  obtain ⟨h_1, h⟩ := h
  exact ru_call (p := 93) sm_a173_90 rfl (sc_virt (Or.inl rfl) rfl rfl h_1 (Nat.le_of_ble_eq_true rfl)) rfl h
theorem bb_173_93 {d : Nat} {M : sm_M} {Q : Option sm_V → sm_M → Prop} {a0 : Nat} {x1 : Int32} {x2 : Int32}
    (h : sm_K M a0 = 39 ∧ ∃ b_2, sm_R M a0 10 = some b_2 ∧ sm_iA M b_2 ∧ sm_in_ M b_2 x2 ∧ sm_Run d 169 0 (sm_ent 169 [.inr (some a0), .inl x1, .inl (sm_I M b_2 (x2).toNatClampNeg)]) [] M (fun v M1 => sm_Run (d + 1) 173 104 [some (.inr (some a0)), some (.inl x1), some (.inl x2)] (v.toList ++ []) M1 Q)) :
    sm_Run (d + 1) 173 93 [some (.inr (some a0)), some (.inl x1), some (.inl x2)] [] M Q := by
  refine ru_go (t := (94, [some (.inr (some a0)), some (.inl x1), some (.inl x2)], [.inr (some a0)], M)) sm_a173_93 rfl rfl rfl ?_
  refine ru_go (t := (95, [some (.inr (some a0)), some (.inl x1), some (.inl x2)], [.inl x1, .inr (some a0)], M)) sm_a173_94 rfl rfl rfl ?_
  refine ru_go (t := (96, [some (.inr (some a0)), some (.inl x1), some (.inl x2)], [.inr (some a0), .inl x1, .inr (some a0)], M)) sm_a173_95 rfl rfl rfl ?_
  obtain ⟨h_1, h⟩ := h
  refine ru_go (t := (99, [some (.inr (some a0)), some (.inl x1), some (.inl x2)], [.inr (sm_R M a0 10), .inl x1, .inr (some a0)], M)) sm_a173_96 rfl rfl (st_getR h_1 rfl rfl) ?_
  refine ru_go (t := (100, [some (.inr (some a0)), some (.inl x1), some (.inl x2)], [.inl x2, .inr (sm_R M a0 10), .inl x1, .inr (some a0)], M)) sm_a173_99 rfl rfl rfl ?_
  obtain ⟨b_2, hb_3, h⟩ := h
  rw [hb_3]
  obtain ⟨h_4, h⟩ := h
  obtain ⟨h_5, h⟩ := h
  refine ru_go (t := (101, [some (.inr (some a0)), some (.inl x1), some (.inl x2)], [.inl (sm_I M b_2 (x2).toNatClampNeg), .inl x1, .inr (some a0)], M)) sm_a173_100 rfl rfl (st_iald h_4 h_5) ?_
  exact ru_call (p := 104) sm_a173_101 rfl (sc_virt (Or.inl rfl) rfl rfl h_1 (Nat.le_of_ble_eq_true rfl)) rfl h
theorem bb_173_104 {d : Nat} {M : sm_M} {Q : Option sm_V → sm_M → Prop} {a0 : Nat} {x1 : Int32} {x2 : Int32}
    (h : sm_K M a0 = 39 ∧ ∃ b_2, sm_R M a0 12 = some b_2 ∧ sm_iA M b_2 ∧ sm_in_ M b_2 x2 ∧ ((¬ (sm_I M b_2 (x2).toNatClampNeg) = 0 → sm_Run d 169 0 (sm_ent 169 [.inr (some a0), .inl x1, .inl 3]) [] M (fun v M1 => sm_Run (d + 1) 173 123 [some (.inr (some a0)), some (.inl x1), some (.inl x2)] (v.toList ++ []) M1 Q)) ∧ (¬ (¬ (sm_I M b_2 (x2).toNatClampNeg) = 0) → sm_Run d 169 0 (sm_ent 169 [.inr (some a0), .inl x1, .inl 2]) [] M (fun v M1 => sm_Run (d + 1) 173 123 [some (.inr (some a0)), some (.inl x1), some (.inl x2)] (v.toList ++ []) M1 Q)))) :
    sm_Run (d + 1) 173 104 [some (.inr (some a0)), some (.inl x1), some (.inl x2)] [] M Q := by
  refine ru_go (t := (105, [some (.inr (some a0)), some (.inl x1), some (.inl x2)], [.inr (some a0)], M)) sm_a173_104 rfl rfl rfl ?_
  refine ru_go (t := (106, [some (.inr (some a0)), some (.inl x1), some (.inl x2)], [.inl x1, .inr (some a0)], M)) sm_a173_105 rfl rfl rfl ?_
  refine ru_go (t := (107, [some (.inr (some a0)), some (.inl x1), some (.inl x2)], [.inr (some a0), .inl x1, .inr (some a0)], M)) sm_a173_106 rfl rfl rfl ?_
  obtain ⟨h_1, h⟩ := h
  refine ru_go (t := (110, [some (.inr (some a0)), some (.inl x1), some (.inl x2)], [.inr (sm_R M a0 12), .inl x1, .inr (some a0)], M)) sm_a173_107 rfl rfl (st_getR h_1 rfl rfl) ?_
  refine ru_go (t := (111, [some (.inr (some a0)), some (.inl x1), some (.inl x2)], [.inl x2, .inr (sm_R M a0 12), .inl x1, .inr (some a0)], M)) sm_a173_110 rfl rfl rfl ?_
  obtain ⟨b_2, hb_3, h⟩ := h
  rw [hb_3]
  obtain ⟨h_4, h⟩ := h
  obtain ⟨h_5, h⟩ := h
  refine ru_go (t := (112, [some (.inr (some a0)), some (.inl x1), some (.inl x2)], [.inl (sm_I M b_2 (x2).toNatClampNeg), .inl x1, .inr (some a0)], M)) sm_a173_111 rfl rfl (st_iald h_4 h_5) ?_
  refine ru_if (pc := 112) (p := 119) (p2 := 115) sm_a173_112 (by decide) rfl ⟨fun hc_6 => ?_, fun hc_6 => ?_⟩
  · have h := h.1 hc_6
    refine ru_go (t := (120, [some (.inr (some a0)), some (.inl x1), some (.inl x2)], [.inl 3, .inl x1, .inr (some a0)], M)) sm_a173_119 rfl rfl (st_iconst (by decide)) ?_
    exact ru_call (p := 123) sm_a173_120 rfl (sc_virt (Or.inl rfl) rfl rfl h_1 (Nat.le_of_ble_eq_true rfl)) rfl h
  · have h := h.2 hc_6
    refine ru_go (t := (116, [some (.inr (some a0)), some (.inl x1), some (.inl x2)], [.inl 2, .inl x1, .inr (some a0)], M)) sm_a173_115 rfl rfl (st_iconst (by decide)) ?_
    refine ru_go (t := (120, [some (.inr (some a0)), some (.inl x1), some (.inl x2)], [.inl 2, .inl x1, .inr (some a0)], M)) sm_a173_116 rfl rfl (st_goto (pc := 116) (by decide)) ?_
    exact ru_call (p := 123) sm_a173_120 rfl (sc_virt (Or.inl rfl) rfl rfl h_1 (Nat.le_of_ble_eq_true rfl)) rfl h
theorem bb_173_123 {d : Nat} {M : sm_M} {Q : Option sm_V → sm_M → Prop} {a0 : Nat} {x1 : Int32} {x2 : Int32}
    (h : sm_K M a0 = 39 ∧ ∃ b_2, sm_R M a0 11 = some b_2 ∧ sm_iA M b_2 ∧ sm_in_ M b_2 x2 ∧ sm_Run d 169 0 (sm_ent 169 [.inr (some a0), .inl x1, .inl (sm_I M b_2 (x2).toNatClampNeg)]) [] M (fun v M1 => sm_Run (d + 1) 173 134 [some (.inr (some a0)), some (.inl x1), some (.inl x2)] (v.toList ++ []) M1 Q)) :
    sm_Run (d + 1) 173 123 [some (.inr (some a0)), some (.inl x1), some (.inl x2)] [] M Q := by
  refine ru_go (t := (124, [some (.inr (some a0)), some (.inl x1), some (.inl x2)], [.inr (some a0)], M)) sm_a173_123 rfl rfl rfl ?_
  refine ru_go (t := (125, [some (.inr (some a0)), some (.inl x1), some (.inl x2)], [.inl x1, .inr (some a0)], M)) sm_a173_124 rfl rfl rfl ?_
  refine ru_go (t := (126, [some (.inr (some a0)), some (.inl x1), some (.inl x2)], [.inr (some a0), .inl x1, .inr (some a0)], M)) sm_a173_125 rfl rfl rfl ?_
  obtain ⟨h_1, h⟩ := h
  refine ru_go (t := (129, [some (.inr (some a0)), some (.inl x1), some (.inl x2)], [.inr (sm_R M a0 11), .inl x1, .inr (some a0)], M)) sm_a173_126 rfl rfl (st_getR h_1 rfl rfl) ?_
  refine ru_go (t := (130, [some (.inr (some a0)), some (.inl x1), some (.inl x2)], [.inl x2, .inr (sm_R M a0 11), .inl x1, .inr (some a0)], M)) sm_a173_129 rfl rfl rfl ?_
  obtain ⟨b_2, hb_3, h⟩ := h
  rw [hb_3]
  obtain ⟨h_4, h⟩ := h
  obtain ⟨h_5, h⟩ := h
  refine ru_go (t := (131, [some (.inr (some a0)), some (.inl x1), some (.inl x2)], [.inl (sm_I M b_2 (x2).toNatClampNeg), .inl x1, .inr (some a0)], M)) sm_a173_130 rfl rfl (st_iald h_4 h_5) ?_
  exact ru_call (p := 134) sm_a173_131 rfl (sc_virt (Or.inl rfl) rfl rfl h_1 (Nat.le_of_ble_eq_true rfl)) rfl h
theorem bb_173_134 {d : Nat} {M : sm_M} {Q : Option sm_V → sm_M → Prop} {a0 : Nat} {x1 : Int32} {x2 : Int32}
    (h : sm_K M a0 = 39 ∧ sm_Run d 169 0 (sm_ent 169 [.inr (some a0), .inl x1, .inl 0]) [] M (fun v M1 => sm_Run (d + 1) 173 140 [some (.inr (some a0)), some (.inl x1), some (.inl x2)] (v.toList ++ []) M1 Q)) :
    sm_Run (d + 1) 173 134 [some (.inr (some a0)), some (.inl x1), some (.inl x2)] [] M Q := by
  refine ru_go (t := (135, [some (.inr (some a0)), some (.inl x1), some (.inl x2)], [.inr (some a0)], M)) sm_a173_134 rfl rfl rfl ?_
  refine ru_go (t := (136, [some (.inr (some a0)), some (.inl x1), some (.inl x2)], [.inl x1, .inr (some a0)], M)) sm_a173_135 rfl rfl rfl ?_
  refine ru_go (t := (137, [some (.inr (some a0)), some (.inl x1), some (.inl x2)], [.inl 0, .inl x1, .inr (some a0)], M)) sm_a173_136 rfl rfl (st_iconst (by decide)) ?_
  obtain ⟨h_1, h⟩ := h
  exact ru_call (p := 140) sm_a173_137 rfl (sc_virt (Or.inl rfl) rfl rfl h_1 (Nat.le_of_ble_eq_true rfl)) rfl h
theorem bb_173_140 {d : Nat} {M : sm_M} {Q : Option sm_V → sm_M → Prop} {a0 : Nat} {x1 : Int32} {x2 : Int32}
    (h : sm_K M a0 = 39 ∧ ∃ b_2, sm_R M a0 12 = some b_2 ∧ sm_iA M b_2 ∧ sm_in_ M b_2 x2 ∧ sm_Run d 169 0 (sm_ent 169 [.inr (some a0), .inl x1, .inl (sm_I M b_2 (x2).toNatClampNeg)]) [] M (fun v M1 => sm_Run (d + 1) 173 151 [some (.inr (some a0)), some (.inl x1), some (.inl x2)] (v.toList ++ []) M1 Q)) :
    sm_Run (d + 1) 173 140 [some (.inr (some a0)), some (.inl x1), some (.inl x2)] [] M Q := by
  refine ru_go (t := (141, [some (.inr (some a0)), some (.inl x1), some (.inl x2)], [.inr (some a0)], M)) sm_a173_140 rfl rfl rfl ?_
  refine ru_go (t := (142, [some (.inr (some a0)), some (.inl x1), some (.inl x2)], [.inl x1, .inr (some a0)], M)) sm_a173_141 rfl rfl rfl ?_
  refine ru_go (t := (143, [some (.inr (some a0)), some (.inl x1), some (.inl x2)], [.inr (some a0), .inl x1, .inr (some a0)], M)) sm_a173_142 rfl rfl rfl ?_
  obtain ⟨h_1, h⟩ := h
  refine ru_go (t := (146, [some (.inr (some a0)), some (.inl x1), some (.inl x2)], [.inr (sm_R M a0 12), .inl x1, .inr (some a0)], M)) sm_a173_143 rfl rfl (st_getR h_1 rfl rfl) ?_
  refine ru_go (t := (147, [some (.inr (some a0)), some (.inl x1), some (.inl x2)], [.inl x2, .inr (sm_R M a0 12), .inl x1, .inr (some a0)], M)) sm_a173_146 rfl rfl rfl ?_
  obtain ⟨b_2, hb_3, h⟩ := h
  rw [hb_3]
  obtain ⟨h_4, h⟩ := h
  obtain ⟨h_5, h⟩ := h
  refine ru_go (t := (148, [some (.inr (some a0)), some (.inl x1), some (.inl x2)], [.inl (sm_I M b_2 (x2).toNatClampNeg), .inl x1, .inr (some a0)], M)) sm_a173_147 rfl rfl (st_iald h_4 h_5) ?_
  exact ru_call (p := 151) sm_a173_148 rfl (sc_virt (Or.inl rfl) rfl rfl h_1 (Nat.le_of_ble_eq_true rfl)) rfl h
theorem bb_173_151 {d : Nat} {M : sm_M} {Q : Option sm_V → sm_M → Prop} {a0 : Nat} {x1 : Int32} {x2 : Int32}
    (h : sm_Run (d + 1) 173 65 [some (.inr (some a0)), some (.inl x1), some (.inl (x2 + 1))] [] M Q) :
    sm_Run (d + 1) 173 151 [some (.inr (some a0)), some (.inl x1), some (.inl x2)] [] M Q := by
  refine ru_go (t := (154, [some (.inr (some a0)), some (.inl x1), some (.inl (x2 + 1))], [], M)) sm_a173_151 rfl rfl (st_iinc rfl (by decide)) ?_
  refine ru_go (t := (65, [some (.inr (some a0)), some (.inl x1), some (.inl (x2 + 1))], [], M)) sm_a173_154 rfl rfl (st_goto (pc := 154) (by decide)) ?_
  exact h

/-! WireBusModel.orders:(IIII)V -/
theorem sm_a174_0 : sm_at 174 0 = some (.aload_n 0, 1, (0, 0, 0, 0)) := by decide +kernel
theorem sm_a174_1 : sm_at 174 1 = some (.iload_n 1, 1, (0, 0, 0, 0)) := by decide +kernel
theorem sm_a174_2 : sm_at 174 2 = some (.iload 4, 2, (0, 0, 0, 0)) := by decide +kernel
theorem sm_a174_4 : sm_at 174 4 = some (.invokevirtual 296, 3, (10, 155, 12, 1470)) := by decide +kernel
theorem sm_a174_7 : sm_at 174 7 = some (.istore 5, 2, (0, 0, 0, 0)) := by decide +kernel
theorem sm_a174_9 : sm_at 174 9 = some (.iconst 1, 1, (0, 0, 0, 0)) := by decide +kernel
theorem sm_a174_10 : sm_at 174 10 = some (.istore 6, 2, (0, 0, 0, 0)) := by decide +kernel
theorem sm_a174_12 : sm_at 174 12 = some (.iload_n 2, 1, (0, 0, 0, 0)) := by decide +kernel
theorem sm_a174_13 : sm_at 174 13 = some (.iconst 5, 1, (0, 0, 0, 0)) := by decide +kernel
theorem sm_a174_14 : sm_at 174 14 = some (.if_icmp .ne 24, 3, (0, 0, 0, 0)) := by decide +kernel
theorem sm_a174_17 : sm_at 174 17 = some (.iload_n 3, 1, (0, 0, 0, 0)) := by decide +kernel
theorem sm_a174_18 : sm_at 174 18 = some (.ifCond .le 20, 3, (0, 0, 0, 0)) := by decide +kernel
theorem sm_a174_21 : sm_at 174 21 = some (.iload_n 3, 1, (0, 0, 0, 0)) := by decide +kernel
theorem sm_a174_22 : sm_at 174 22 = some (.sipush 128, 3, (0, 0, 0, 0)) := by decide +kernel
theorem sm_a174_25 : sm_at 174 25 = some (.if_icmp .ge 13, 3, (0, 0, 0, 0)) := by decide +kernel
theorem sm_a174_28 : sm_at 174 28 = some (.aload_n 0, 1, (0, 0, 0, 0)) := by decide +kernel
theorem sm_a174_29 : sm_at 174 29 = some (.getfield 95, 3, (12, 30, 0, 1213)) := by decide +kernel
theorem sm_a174_32 : sm_at 174 32 = some (.iload_n 1, 1, (0, 0, 0, 0)) := by decide +kernel
theorem sm_a174_33 : sm_at 174 33 = some (.iload_n 3, 1, (0, 0, 0, 0)) := by decide +kernel
theorem sm_a174_34 : sm_at 174 34 = some (.iastore, 1, (1, 0, 0, 0)) := by decide +kernel
theorem sm_a174_35 : sm_at 174 35 = some (.goto 193, 3, (0, 0, 0, 0)) := by decide +kernel
theorem sm_a174_38 : sm_at 174 38 = some (.iload_n 2, 1, (0, 0, 0, 0)) := by decide +kernel
theorem sm_a174_39 : sm_at 174 39 = some (.bipush 9, 2, (0, 0, 0, 0)) := by decide +kernel
theorem sm_a174_41 : sm_at 174 41 = some (.if_icmp .ne 78, 3, (0, 0, 0, 0)) := by decide +kernel
theorem sm_a174_44 : sm_at 174 44 = some (.iload_n 3, 1, (0, 0, 0, 0)) := by decide +kernel
theorem sm_a174_45 : sm_at 174 45 = some (.iconst 2, 1, (0, 0, 0, 0)) := by decide +kernel
theorem sm_a174_46 : sm_at 174 46 = some (.if_icmp .ge 73, 3, (0, 0, 0, 0)) := by decide +kernel
theorem sm_a174_49 : sm_at 174 49 = some (.aload_n 0, 1, (0, 0, 0, 0)) := by decide +kernel
theorem sm_a174_50 : sm_at 174 50 = some (.getfield 16, 3, (12, 4, 0, 1187)) := by decide +kernel
theorem sm_a174_53 : sm_at 174 53 = some (.iload_n 1, 1, (0, 0, 0, 0)) := by decide +kernel
theorem sm_a174_54 : sm_at 174 54 = some (.iaload, 1, (0, 0, 0, 0)) := by decide +kernel
theorem sm_a174_55 : sm_at 174 55 = some (.iconst 1, 1, (0, 0, 0, 0)) := by decide +kernel
theorem sm_a174_56 : sm_at 174 56 = some (.if_icmp .eq 63, 3, (0, 0, 0, 0)) := by decide +kernel
theorem sm_a174_59 : sm_at 174 59 = some (.aload_n 0, 1, (0, 0, 0, 0)) := by decide +kernel
theorem sm_a174_60 : sm_at 174 60 = some (.getfield 16, 3, (12, 4, 0, 1187)) := by decide +kernel
theorem sm_a174_63 : sm_at 174 63 = some (.iload_n 1, 1, (0, 0, 0, 0)) := by decide +kernel
theorem sm_a174_64 : sm_at 174 64 = some (.iconst 2, 1, (0, 0, 0, 0)) := by decide +kernel
theorem sm_a174_65 : sm_at 174 65 = some (.iload_n 3, 1, (0, 0, 0, 0)) := by decide +kernel
theorem sm_a174_66 : sm_at 174 66 = some (.iadd, 1, (0, 0, 0, 0)) := by decide +kernel
theorem sm_a174_67 : sm_at 174 67 = some (.iastore, 1, (1, 0, 0, 0)) := by decide +kernel
theorem sm_a174_68 : sm_at 174 68 = some (.bipush 6, 2, (0, 0, 0, 0)) := by decide +kernel
theorem sm_a174_70 : sm_at 174 70 = some (.iload_n 1, 1, (0, 0, 0, 0)) := by decide +kernel
theorem sm_a174_71 : sm_at 174 71 = some (.imul, 1, (0, 0, 0, 0)) := by decide +kernel
theorem sm_a174_72 : sm_at 174 72 = some (.istore 7, 2, (0, 0, 0, 0)) := by decide +kernel
theorem sm_a174_74 : sm_at 174 74 = some (.iload 7, 2, (0, 0, 0, 0)) := by decide +kernel
theorem sm_a174_76 : sm_at 174 76 = some (.bipush 6, 2, (0, 0, 0, 0)) := by decide +kernel
theorem sm_a174_78 : sm_at 174 78 = some (.iload_n 1, 1, (0, 0, 0, 0)) := by decide +kernel
theorem sm_a174_79 : sm_at 174 79 = some (.imul, 1, (0, 0, 0, 0)) := by decide +kernel
theorem sm_a174_80 : sm_at 174 80 = some (.bipush 6, 2, (0, 0, 0, 0)) := by decide +kernel
theorem sm_a174_82 : sm_at 174 82 = some (.iadd, 1, (0, 0, 0, 0)) := by decide +kernel
theorem sm_a174_83 : sm_at 174 83 = some (.if_icmp .ge 33, 3, (0, 0, 0, 0)) := by decide +kernel
theorem sm_a174_86 : sm_at 174 86 = some (.aload_n 0, 1, (0, 0, 0, 0)) := by decide +kernel
theorem sm_a174_87 : sm_at 174 87 = some (.getfield 43, 3, (12, 13, 0, 1196)) := by decide +kernel
theorem sm_a174_90 : sm_at 174 90 = some (.iload 7, 2, (0, 0, 0, 0)) := by decide +kernel
theorem sm_a174_92 : sm_at 174 92 = some (.iconst 0, 1, (0, 0, 0, 0)) := by decide +kernel
theorem sm_a174_93 : sm_at 174 93 = some (.iastore, 1, (1, 0, 0, 0)) := by decide +kernel
theorem sm_a174_94 : sm_at 174 94 = some (.aload_n 0, 1, (0, 0, 0, 0)) := by decide +kernel
theorem sm_a174_95 : sm_at 174 95 = some (.getfield 46, 3, (12, 14, 0, 1197)) := by decide +kernel
theorem sm_a174_98 : sm_at 174 98 = some (.iload 7, 2, (0, 0, 0, 0)) := by decide +kernel
theorem sm_a174_100 : sm_at 174 100 = some (.iconst 0, 1, (0, 0, 0, 0)) := by decide +kernel
theorem sm_a174_101 : sm_at 174 101 = some (.bastore, 1, (1, 0, 0, 0)) := by decide +kernel
theorem sm_a174_102 : sm_at 174 102 = some (.aload_n 0, 1, (0, 0, 0, 0)) := by decide +kernel
theorem sm_a174_103 : sm_at 174 103 = some (.getfield 53, 3, (12, 16, 0, 1199)) := by decide +kernel
theorem sm_a174_106 : sm_at 174 106 = some (.iload 7, 2, (0, 0, 0, 0)) := by decide +kernel
theorem sm_a174_108 : sm_at 174 108 = some (.iconst (-1), 1, (0, 0, 0, 0)) := by decide +kernel
theorem sm_a174_109 : sm_at 174 109 = some (.iastore, 1, (1, 0, 0, 0)) := by decide +kernel
theorem sm_a174_110 : sm_at 174 110 = some (.iinc 7 1, 3, (0, 0, 0, 0)) := by decide +kernel
theorem sm_a174_113 : sm_at 174 113 = some (.goto (-39), 3, (0, 0, 0, 0)) := by decide +kernel
theorem sm_a174_116 : sm_at 174 116 = some (.goto 112, 3, (0, 0, 0, 0)) := by decide +kernel
theorem sm_a174_119 : sm_at 174 119 = some (.iload_n 2, 1, (0, 0, 0, 0)) := by decide +kernel
theorem sm_a174_120 : sm_at 174 120 = some (.sipush 513, 3, (0, 0, 0, 0)) := by decide +kernel
theorem sm_a174_123 : sm_at 174 123 = some (.if_icmp .eq 10, 3, (0, 0, 0, 0)) := by decide +kernel
theorem sm_a174_126 : sm_at 174 126 = some (.iload_n 2, 1, (0, 0, 0, 0)) := by decide +kernel
theorem sm_a174_127 : sm_at 174 127 = some (.sipush 515, 3, (0, 0, 0, 0)) := by decide +kernel
theorem sm_a174_130 : sm_at 174 130 = some (.if_icmp .ne 95, 3, (0, 0, 0, 0)) := by decide +kernel
theorem sm_a174_133 : sm_at 174 133 = some (.iload_n 3, 1, (0, 0, 0, 0)) := by decide +kernel
theorem sm_a174_134 : sm_at 174 134 = some (.ifCond .ne 91, 3, (0, 0, 0, 0)) := by decide +kernel
theorem sm_a174_137 : sm_at 174 137 = some (.iload 5, 2, (0, 0, 0, 0)) := by decide +kernel
theorem sm_a174_139 : sm_at 174 139 = some (.iconst (-1), 1, (0, 0, 0, 0)) := by decide +kernel
theorem sm_a174_140 : sm_at 174 140 = some (.if_icmp .eq 85, 3, (0, 0, 0, 0)) := by decide +kernel
theorem sm_a174_143 : sm_at 174 143 = some (.aload_n 0, 1, (0, 0, 0, 0)) := by decide +kernel
theorem sm_a174_144 : sm_at 174 144 = some (.getfield 16, 3, (12, 4, 0, 1187)) := by decide +kernel
theorem sm_a174_147 : sm_at 174 147 = some (.iload_n 1, 1, (0, 0, 0, 0)) := by decide +kernel
theorem sm_a174_148 : sm_at 174 148 = some (.iaload, 1, (0, 0, 0, 0)) := by decide +kernel
theorem sm_a174_149 : sm_at 174 149 = some (.iconst 3, 1, (0, 0, 0, 0)) := by decide +kernel
theorem sm_a174_150 : sm_at 174 150 = some (.if_icmp .ne 75, 3, (0, 0, 0, 0)) := by decide +kernel
theorem sm_a174_153 : sm_at 174 153 = some (.aload_n 0, 1, (0, 0, 0, 0)) := by decide +kernel
theorem sm_a174_154 : sm_at 174 154 = some (.getfield 46, 3, (12, 14, 0, 1197)) := by decide +kernel
theorem sm_a174_157 : sm_at 174 157 = some (.iload 5, 2, (0, 0, 0, 0)) := by decide +kernel
theorem sm_a174_159 : sm_at 174 159 = some (.iload_n 2, 1, (0, 0, 0, 0)) := by decide +kernel
theorem sm_a174_160 : sm_at 174 160 = some (.sipush 515, 3, (0, 0, 0, 0)) := by decide +kernel
theorem sm_a174_163 : sm_at 174 163 = some (.if_icmp .ne 7, 3, (0, 0, 0, 0)) := by decide +kernel
theorem sm_a174_166 : sm_at 174 166 = some (.iconst 1, 1, (0, 0, 0, 0)) := by decide +kernel
theorem sm_a174_167 : sm_at 174 167 = some (.goto 4, 3, (0, 0, 0, 0)) := by decide +kernel
theorem sm_a174_170 : sm_at 174 170 = some (.iconst 0, 1, (0, 0, 0, 0)) := by decide +kernel
theorem sm_a174_171 : sm_at 174 171 = some (.bastore, 1, (1, 0, 0, 0)) := by decide +kernel
theorem sm_a174_172 : sm_at 174 172 = some (.aload_n 0, 1, (0, 0, 0, 0)) := by decide +kernel
theorem sm_a174_173 : sm_at 174 173 = some (.getfield 43, 3, (12, 13, 0, 1196)) := by decide +kernel
theorem sm_a174_176 : sm_at 174 176 = some (.iload 5, 2, (0, 0, 0, 0)) := by decide +kernel
theorem sm_a174_178 : sm_at 174 178 = some (.iload_n 2, 1, (0, 0, 0, 0)) := by decide +kernel
theorem sm_a174_179 : sm_at 174 179 = some (.sipush 513, 3, (0, 0, 0, 0)) := by decide +kernel
theorem sm_a174_182 : sm_at 174 182 = some (.if_icmp .ne 7, 3, (0, 0, 0, 0)) := by decide +kernel
theorem sm_a174_185 : sm_at 174 185 = some (.iconst 0, 1, (0, 0, 0, 0)) := by decide +kernel
theorem sm_a174_186 : sm_at 174 186 = some (.goto 10, 3, (0, 0, 0, 0)) := by decide +kernel
theorem sm_a174_189 : sm_at 174 189 = some (.aload_n 0, 1, (0, 0, 0, 0)) := by decide +kernel
theorem sm_a174_190 : sm_at 174 190 = some (.getfield 43, 3, (12, 13, 0, 1196)) := by decide +kernel
theorem sm_a174_193 : sm_at 174 193 = some (.iload 5, 2, (0, 0, 0, 0)) := by decide +kernel
theorem sm_a174_195 : sm_at 174 195 = some (.iaload, 1, (0, 0, 0, 0)) := by decide +kernel
theorem sm_a174_196 : sm_at 174 196 = some (.iastore, 1, (1, 0, 0, 0)) := by decide +kernel
theorem sm_a174_197 : sm_at 174 197 = some (.aload_n 0, 1, (0, 0, 0, 0)) := by decide +kernel
theorem sm_a174_198 : sm_at 174 198 = some (.getfield 53, 3, (12, 16, 0, 1199)) := by decide +kernel
theorem sm_a174_201 : sm_at 174 201 = some (.iload 5, 2, (0, 0, 0, 0)) := by decide +kernel
theorem sm_a174_203 : sm_at 174 203 = some (.iload_n 2, 1, (0, 0, 0, 0)) := by decide +kernel
theorem sm_a174_204 : sm_at 174 204 = some (.sipush 513, 3, (0, 0, 0, 0)) := by decide +kernel
theorem sm_a174_207 : sm_at 174 207 = some (.if_icmp .ne 7, 3, (0, 0, 0, 0)) := by decide +kernel
theorem sm_a174_210 : sm_at 174 210 = some (.iconst (-1), 1, (0, 0, 0, 0)) := by decide +kernel
theorem sm_a174_211 : sm_at 174 211 = some (.goto 10, 3, (0, 0, 0, 0)) := by decide +kernel
theorem sm_a174_214 : sm_at 174 214 = some (.aload_n 0, 1, (0, 0, 0, 0)) := by decide +kernel
theorem sm_a174_215 : sm_at 174 215 = some (.getfield 53, 3, (12, 16, 0, 1199)) := by decide +kernel
theorem sm_a174_218 : sm_at 174 218 = some (.iload 5, 2, (0, 0, 0, 0)) := by decide +kernel
theorem sm_a174_220 : sm_at 174 220 = some (.iaload, 1, (0, 0, 0, 0)) := by decide +kernel
theorem sm_a174_221 : sm_at 174 221 = some (.iastore, 1, (1, 0, 0, 0)) := by decide +kernel
theorem sm_a174_222 : sm_at 174 222 = some (.goto 6, 3, (0, 0, 0, 0)) := by decide +kernel
theorem sm_a174_225 : sm_at 174 225 = some (.iconst 0, 1, (0, 0, 0, 0)) := by decide +kernel
theorem sm_a174_226 : sm_at 174 226 = some (.istore 6, 2, (0, 0, 0, 0)) := by decide +kernel
theorem sm_a174_228 : sm_at 174 228 = some (.aload_n 0, 1, (0, 0, 0, 0)) := by decide +kernel
theorem sm_a174_229 : sm_at 174 229 = some (.getfield 68, 3, (12, 21, 0, 1204)) := by decide +kernel
theorem sm_a174_232 : sm_at 174 232 = some (.iload_n 1, 1, (0, 0, 0, 0)) := by decide +kernel
theorem sm_a174_233 : sm_at 174 233 = some (.iload 6, 2, (0, 0, 0, 0)) := by decide +kernel
theorem sm_a174_235 : sm_at 174 235 = some (.ifCond .eq 7, 3, (0, 0, 0, 0)) := by decide +kernel
theorem sm_a174_238 : sm_at 174 238 = some (.iconst 4, 1, (0, 0, 0, 0)) := by decide +kernel
theorem sm_a174_239 : sm_at 174 239 = some (.goto 4, 3, (0, 0, 0, 0)) := by decide +kernel
theorem sm_a174_242 : sm_at 174 242 = some (.iconst 1, 1, (0, 0, 0, 0)) := by decide +kernel
theorem sm_a174_243 : sm_at 174 243 = some (.iastore, 1, (1, 0, 0, 0)) := by decide +kernel
theorem sm_a174_244 : sm_at 174 244 = some (.return_, 1, (0, 0, 0, 0)) := by decide +kernel
theorem bb_174_0 {d : Nat} {M : sm_M} {Q : Option sm_V → sm_M → Prop} {a0 : Nat} {x1 : Int32} {x2 : Int32} {x3 : Int32} {x4 : Int32} {z5 : Option sm_V} {z6 : Option sm_V} {z7 : Option sm_V}
    (h : sm_K M a0 = 39 ∧ sm_Run d 155 0 (sm_ent 155 [.inr (some a0), .inl x1, .inl x4]) [] M (fun v M1 => sm_Run (d + 1) 174 7 [some (.inr (some a0)), some (.inl x1), some (.inl x2), some (.inl x3), some (.inl x4), z5, z6, z7] (v.toList ++ []) M1 Q)) :
    sm_Run (d + 1) 174 0 [some (.inr (some a0)), some (.inl x1), some (.inl x2), some (.inl x3), some (.inl x4), z5, z6, z7] [] M Q := by
  refine ru_go (t := (1, [some (.inr (some a0)), some (.inl x1), some (.inl x2), some (.inl x3), some (.inl x4), z5, z6, z7], [.inr (some a0)], M)) sm_a174_0 rfl rfl rfl ?_
  refine ru_go (t := (2, [some (.inr (some a0)), some (.inl x1), some (.inl x2), some (.inl x3), some (.inl x4), z5, z6, z7], [.inl x1, .inr (some a0)], M)) sm_a174_1 rfl rfl rfl ?_
  refine ru_go (t := (4, [some (.inr (some a0)), some (.inl x1), some (.inl x2), some (.inl x3), some (.inl x4), z5, z6, z7], [.inl x4, .inl x1, .inr (some a0)], M)) sm_a174_2 rfl rfl rfl ?_
  obtain ⟨h_1, h⟩ := h
  exact ru_call (p := 7) sm_a174_4 rfl (sc_virt (Or.inl rfl) rfl rfl h_1 (Nat.le_of_ble_eq_true rfl)) rfl h
theorem bb_174_7 {d : Nat} {M : sm_M} {Q : Option sm_V → sm_M → Prop} {a0 : Nat} {x1 : Int32} {x2 : Int32} {x3 : Int32} {x4 : Int32} {z5 : Option sm_V} {z6 : Option sm_V} {z7 : Option sm_V} {y0 : Int32}
    (h : ((¬ x2 = 5 → sm_Run (d + 1) 174 38 [some (.inr (some a0)), some (.inl x1), some (.inl x2), some (.inl x3), some (.inl x4), some (.inl y0), some (.inl 1), z7] [] M Q) ∧ (¬ (¬ x2 = 5) → ((x3 ≤ 0 → sm_Run (d + 1) 174 38 [some (.inr (some a0)), some (.inl x1), some (.inl x2), some (.inl x3), some (.inl x4), some (.inl y0), some (.inl 1), z7] [] M Q) ∧ (¬ (x3 ≤ 0) → ((128 ≤ x3 → sm_Run (d + 1) 174 38 [some (.inr (some a0)), some (.inl x1), some (.inl x2), some (.inl x3), some (.inl x4), some (.inl y0), some (.inl 1), z7] [] M Q) ∧ (¬ (128 ≤ x3) → sm_K M a0 = 39 ∧ ∃ b_5, sm_R M a0 30 = some b_5 ∧ sm_wA 1 M b_5 ∧ sm_in_ M b_5 x1 ∧ sm_Run (d + 1) 174 228 [some (.inr (some a0)), some (.inl x1), some (.inl x2), some (.inl x3), some (.inl x4), some (.inl y0), some (.inl 1), z7] [] (sm_putI M b_5 (x1).toNatClampNeg x3) Q))))))) :
    sm_Run (d + 1) 174 7 [some (.inr (some a0)), some (.inl x1), some (.inl x2), some (.inl x3), some (.inl x4), z5, z6, z7] [.inl y0] M Q := by
  refine ru_go (t := (9, [some (.inr (some a0)), some (.inl x1), some (.inl x2), some (.inl x3), some (.inl x4), some (.inl y0), z6, z7], [], M)) sm_a174_7 rfl rfl rfl ?_
  refine ru_go (t := (10, [some (.inr (some a0)), some (.inl x1), some (.inl x2), some (.inl x3), some (.inl x4), some (.inl y0), z6, z7], [.inl 1], M)) sm_a174_9 rfl rfl (st_iconst (by decide)) ?_
  refine ru_go (t := (12, [some (.inr (some a0)), some (.inl x1), some (.inl x2), some (.inl x3), some (.inl x4), some (.inl y0), some (.inl 1), z7], [], M)) sm_a174_10 rfl rfl rfl ?_
  refine ru_go (t := (13, [some (.inr (some a0)), some (.inl x1), some (.inl x2), some (.inl x3), some (.inl x4), some (.inl y0), some (.inl 1), z7], [.inl x2], M)) sm_a174_12 rfl rfl rfl ?_
  refine ru_go (t := (14, [some (.inr (some a0)), some (.inl x1), some (.inl x2), some (.inl x3), some (.inl x4), some (.inl y0), some (.inl 1), z7], [.inl 5, .inl x2], M)) sm_a174_13 rfl rfl (st_iconst (by decide)) ?_
  refine ru_icmp (pc := 14) (p := 38) (p2 := 17) sm_a174_14 (by decide) rfl ⟨fun hc_1 => ?_, fun hc_1 => ?_⟩
  · have h := h.1 hc_1
    exact h
  · have h := h.2 hc_1
    refine ru_go (t := (18, [some (.inr (some a0)), some (.inl x1), some (.inl x2), some (.inl x3), some (.inl x4), some (.inl y0), some (.inl 1), z7], [.inl x3], M)) sm_a174_17 rfl rfl rfl ?_
    refine ru_if (pc := 18) (p := 38) (p2 := 21) sm_a174_18 (by decide) rfl ⟨fun hc_2 => ?_, fun hc_2 => ?_⟩
    · have h := h.1 hc_2
      exact h
    · have h := h.2 hc_2
      refine ru_go (t := (22, [some (.inr (some a0)), some (.inl x1), some (.inl x2), some (.inl x3), some (.inl x4), some (.inl y0), some (.inl 1), z7], [.inl x3], M)) sm_a174_21 rfl rfl rfl ?_
      refine ru_go (t := (25, [some (.inr (some a0)), some (.inl x1), some (.inl x2), some (.inl x3), some (.inl x4), some (.inl y0), some (.inl 1), z7], [.inl 128, .inl x3], M)) sm_a174_22 rfl rfl (st_sipush (by decide)) ?_
      refine ru_icmp (pc := 25) (p := 38) (p2 := 28) sm_a174_25 (by decide) rfl ⟨fun hc_3 => ?_, fun hc_3 => ?_⟩
      · have h := h.1 hc_3
        exact h
      · have h := h.2 hc_3
        refine ru_go (t := (29, [some (.inr (some a0)), some (.inl x1), some (.inl x2), some (.inl x3), some (.inl x4), some (.inl y0), some (.inl 1), z7], [.inr (some a0)], M)) sm_a174_28 rfl rfl rfl ?_
        obtain ⟨h_4, h⟩ := h
        refine ru_go (t := (32, [some (.inr (some a0)), some (.inl x1), some (.inl x2), some (.inl x3), some (.inl x4), some (.inl y0), some (.inl 1), z7], [.inr (sm_R M a0 30)], M)) sm_a174_29 rfl rfl (st_getR h_4 rfl rfl) ?_
        refine ru_go (t := (33, [some (.inr (some a0)), some (.inl x1), some (.inl x2), some (.inl x3), some (.inl x4), some (.inl y0), some (.inl 1), z7], [.inl x1, .inr (sm_R M a0 30)], M)) sm_a174_32 rfl rfl rfl ?_
        refine ru_go (t := (34, [some (.inr (some a0)), some (.inl x1), some (.inl x2), some (.inl x3), some (.inl x4), some (.inl y0), some (.inl 1), z7], [.inl x3, .inl x1, .inr (sm_R M a0 30)], M)) sm_a174_33 rfl rfl rfl ?_
        obtain ⟨b_5, hb_6, h⟩ := h
        rw [hb_6]
        obtain ⟨h_7, h⟩ := h
        obtain ⟨h_8, h⟩ := h
        refine ru_go (t := (35, [some (.inr (some a0)), some (.inl x1), some (.inl x2), some (.inl x3), some (.inl x4), some (.inl y0), some (.inl 1), z7], [], sm_putI M b_5 (x1).toNatClampNeg x3)) sm_a174_34 rfl rfl (st_iast h_7 h_8) ?_
        refine ru_go (t := (228, [some (.inr (some a0)), some (.inl x1), some (.inl x2), some (.inl x3), some (.inl x4), some (.inl y0), some (.inl 1), z7], [], sm_putI M b_5 (x1).toNatClampNeg x3)) sm_a174_35 rfl rfl (st_goto (pc := 35) (by decide)) ?_
        exact h
theorem bb_174_38 {d : Nat} {M : sm_M} {Q : Option sm_V → sm_M → Prop} {a0 : Nat} {x1 : Int32} {x2 : Int32} {x3 : Int32} {x4 : Int32} {x5 : Int32} {x6 : Int32} {z7 : Option sm_V}
    (h : ((¬ x2 = 9 → sm_Run (d + 1) 174 119 [some (.inr (some a0)), some (.inl x1), some (.inl x2), some (.inl x3), some (.inl x4), some (.inl x5), some (.inl x6), z7] [] M Q) ∧ (¬ (¬ x2 = 9) → ((2 ≤ x3 → sm_Run (d + 1) 174 119 [some (.inr (some a0)), some (.inl x1), some (.inl x2), some (.inl x3), some (.inl x4), some (.inl x5), some (.inl x6), z7] [] M Q) ∧ (¬ (2 ≤ x3) → sm_K M a0 = 39 ∧ ∃ b_4, sm_R M a0 4 = some b_4 ∧ sm_iA M b_4 ∧ sm_in_ M b_4 x1 ∧ (((sm_I M b_4 (x1).toNatClampNeg) = 1 → sm_Run (d + 1) 174 119 [some (.inr (some a0)), some (.inl x1), some (.inl x2), some (.inl x3), some (.inl x4), some (.inl x5), some (.inl x6), z7] [] M Q) ∧ (¬ ((sm_I M b_4 (x1).toNatClampNeg) = 1) → ∃ b_9, sm_R M a0 4 = some b_9 ∧ sm_wA 1 M b_9 ∧ sm_in_ M b_9 x1 ∧ sm_Run (d + 1) 174 74 [some (.inr (some a0)), some (.inl x1), some (.inl x2), some (.inl x3), some (.inl x4), some (.inl x5), some (.inl x6), some (.inl (6 * x1))] [] (sm_putI M b_9 (x1).toNatClampNeg (2 + x3)) Q))))))) :
    sm_Run (d + 1) 174 38 [some (.inr (some a0)), some (.inl x1), some (.inl x2), some (.inl x3), some (.inl x4), some (.inl x5), some (.inl x6), z7] [] M Q := by
  refine ru_go (t := (39, [some (.inr (some a0)), some (.inl x1), some (.inl x2), some (.inl x3), some (.inl x4), some (.inl x5), some (.inl x6), z7], [.inl x2], M)) sm_a174_38 rfl rfl rfl ?_
  refine ru_go (t := (41, [some (.inr (some a0)), some (.inl x1), some (.inl x2), some (.inl x3), some (.inl x4), some (.inl x5), some (.inl x6), z7], [.inl 9, .inl x2], M)) sm_a174_39 rfl rfl (st_bipush (by decide)) ?_
  refine ru_icmp (pc := 41) (p := 119) (p2 := 44) sm_a174_41 (by decide) rfl ⟨fun hc_1 => ?_, fun hc_1 => ?_⟩
  · have h := h.1 hc_1
    exact h
  · have h := h.2 hc_1
    refine ru_go (t := (45, [some (.inr (some a0)), some (.inl x1), some (.inl x2), some (.inl x3), some (.inl x4), some (.inl x5), some (.inl x6), z7], [.inl x3], M)) sm_a174_44 rfl rfl rfl ?_
    refine ru_go (t := (46, [some (.inr (some a0)), some (.inl x1), some (.inl x2), some (.inl x3), some (.inl x4), some (.inl x5), some (.inl x6), z7], [.inl 2, .inl x3], M)) sm_a174_45 rfl rfl (st_iconst (by decide)) ?_
    refine ru_icmp (pc := 46) (p := 119) (p2 := 49) sm_a174_46 (by decide) rfl ⟨fun hc_2 => ?_, fun hc_2 => ?_⟩
    · have h := h.1 hc_2
      exact h
    · have h := h.2 hc_2
      refine ru_go (t := (50, [some (.inr (some a0)), some (.inl x1), some (.inl x2), some (.inl x3), some (.inl x4), some (.inl x5), some (.inl x6), z7], [.inr (some a0)], M)) sm_a174_49 rfl rfl rfl ?_
      obtain ⟨h_3, h⟩ := h
      refine ru_go (t := (53, [some (.inr (some a0)), some (.inl x1), some (.inl x2), some (.inl x3), some (.inl x4), some (.inl x5), some (.inl x6), z7], [.inr (sm_R M a0 4)], M)) sm_a174_50 rfl rfl (st_getR h_3 rfl rfl) ?_
      refine ru_go (t := (54, [some (.inr (some a0)), some (.inl x1), some (.inl x2), some (.inl x3), some (.inl x4), some (.inl x5), some (.inl x6), z7], [.inl x1, .inr (sm_R M a0 4)], M)) sm_a174_53 rfl rfl rfl ?_
      obtain ⟨b_4, hb_5, h⟩ := h
      rw [hb_5]
      obtain ⟨h_6, h⟩ := h
      obtain ⟨h_7, h⟩ := h
      refine ru_go (t := (55, [some (.inr (some a0)), some (.inl x1), some (.inl x2), some (.inl x3), some (.inl x4), some (.inl x5), some (.inl x6), z7], [.inl (sm_I M b_4 (x1).toNatClampNeg)], M)) sm_a174_54 rfl rfl (st_iald h_6 h_7) ?_
      refine ru_go (t := (56, [some (.inr (some a0)), some (.inl x1), some (.inl x2), some (.inl x3), some (.inl x4), some (.inl x5), some (.inl x6), z7], [.inl 1, .inl (sm_I M b_4 (x1).toNatClampNeg)], M)) sm_a174_55 rfl rfl (st_iconst (by decide)) ?_
      refine ru_icmp (pc := 56) (p := 119) (p2 := 59) sm_a174_56 (by decide) rfl ⟨fun hc_8 => ?_, fun hc_8 => ?_⟩
      · have h := h.1 hc_8
        exact h
      · have h := h.2 hc_8
        refine ru_go (t := (60, [some (.inr (some a0)), some (.inl x1), some (.inl x2), some (.inl x3), some (.inl x4), some (.inl x5), some (.inl x6), z7], [.inr (some a0)], M)) sm_a174_59 rfl rfl rfl ?_
        refine ru_go (t := (63, [some (.inr (some a0)), some (.inl x1), some (.inl x2), some (.inl x3), some (.inl x4), some (.inl x5), some (.inl x6), z7], [.inr (sm_R M a0 4)], M)) sm_a174_60 rfl rfl (st_getR h_3 rfl rfl) ?_
        refine ru_go (t := (64, [some (.inr (some a0)), some (.inl x1), some (.inl x2), some (.inl x3), some (.inl x4), some (.inl x5), some (.inl x6), z7], [.inl x1, .inr (sm_R M a0 4)], M)) sm_a174_63 rfl rfl rfl ?_
        refine ru_go (t := (65, [some (.inr (some a0)), some (.inl x1), some (.inl x2), some (.inl x3), some (.inl x4), some (.inl x5), some (.inl x6), z7], [.inl 2, .inl x1, .inr (sm_R M a0 4)], M)) sm_a174_64 rfl rfl (st_iconst (by decide)) ?_
        refine ru_go (t := (66, [some (.inr (some a0)), some (.inl x1), some (.inl x2), some (.inl x3), some (.inl x4), some (.inl x5), some (.inl x6), z7], [.inl x3, .inl 2, .inl x1, .inr (sm_R M a0 4)], M)) sm_a174_65 rfl rfl rfl ?_
        refine ru_go (t := (67, [some (.inr (some a0)), some (.inl x1), some (.inl x2), some (.inl x3), some (.inl x4), some (.inl x5), some (.inl x6), z7], [.inl (2 + x3), .inl x1, .inr (sm_R M a0 4)], M)) sm_a174_66 rfl rfl rfl ?_
        obtain ⟨b_9, hb_10, h⟩ := h
        rw [hb_10]
        obtain ⟨h_11, h⟩ := h
        obtain ⟨h_12, h⟩ := h
        refine ru_go (t := (68, [some (.inr (some a0)), some (.inl x1), some (.inl x2), some (.inl x3), some (.inl x4), some (.inl x5), some (.inl x6), z7], [], sm_putI M b_9 (x1).toNatClampNeg (2 + x3))) sm_a174_67 rfl rfl (st_iast h_11 h_12) ?_
        refine ru_go (t := (70, [some (.inr (some a0)), some (.inl x1), some (.inl x2), some (.inl x3), some (.inl x4), some (.inl x5), some (.inl x6), z7], [.inl 6], sm_putI M b_9 (x1).toNatClampNeg (2 + x3))) sm_a174_68 rfl rfl (st_bipush (by decide)) ?_
        refine ru_go (t := (71, [some (.inr (some a0)), some (.inl x1), some (.inl x2), some (.inl x3), some (.inl x4), some (.inl x5), some (.inl x6), z7], [.inl x1, .inl 6], sm_putI M b_9 (x1).toNatClampNeg (2 + x3))) sm_a174_70 rfl rfl rfl ?_
        refine ru_go (t := (72, [some (.inr (some a0)), some (.inl x1), some (.inl x2), some (.inl x3), some (.inl x4), some (.inl x5), some (.inl x6), z7], [.inl (6 * x1)], sm_putI M b_9 (x1).toNatClampNeg (2 + x3))) sm_a174_71 rfl rfl rfl ?_
        refine ru_go (t := (74, [some (.inr (some a0)), some (.inl x1), some (.inl x2), some (.inl x3), some (.inl x4), some (.inl x5), some (.inl x6), some (.inl (6 * x1))], [], sm_putI M b_9 (x1).toNatClampNeg (2 + x3))) sm_a174_72 rfl rfl rfl ?_
        exact h
theorem bb_174_74 {d : Nat} {M : sm_M} {Q : Option sm_V → sm_M → Prop} {a0 : Nat} {x1 : Int32} {x2 : Int32} {x3 : Int32} {x4 : Int32} {x5 : Int32} {x6 : Int32} {x7 : Int32}
    (h : ((((6 * x1) + 6) ≤ x7 → sm_Run (d + 1) 174 228 [some (.inr (some a0)), some (.inl x1), some (.inl x2), some (.inl x3), some (.inl x4), some (.inl x5), some (.inl x6), some (.inl x7)] [] M Q) ∧ (¬ (((6 * x1) + 6) ≤ x7) → sm_K M a0 = 39 ∧ ∃ b_3, sm_R M a0 13 = some b_3 ∧ sm_wA 1 M b_3 ∧ sm_in_ M b_3 x7 ∧ ∃ b_7, sm_R (sm_putI M b_3 (x7).toNatClampNeg 0) a0 14 = some b_7 ∧ sm_wZ 1 M b_7 ∧ sm_in_ M b_7 x7 ∧ ∃ b_11, sm_R (sm_putI (sm_putI M b_3 (x7).toNatClampNeg 0) b_7 (x7).toNatClampNeg 0) a0 16 = some b_11 ∧ sm_wA 1 M b_11 ∧ sm_in_ M b_11 x7 ∧ sm_Run (d + 1) 174 74 [some (.inr (some a0)), some (.inl x1), some (.inl x2), some (.inl x3), some (.inl x4), some (.inl x5), some (.inl x6), some (.inl (x7 + 1))] [] (sm_putI (sm_putI (sm_putI M b_3 (x7).toNatClampNeg 0) b_7 (x7).toNatClampNeg 0) b_11 (x7).toNatClampNeg (-1)) Q))) :
    sm_Run (d + 1) 174 74 [some (.inr (some a0)), some (.inl x1), some (.inl x2), some (.inl x3), some (.inl x4), some (.inl x5), some (.inl x6), some (.inl x7)] [] M Q := by
  refine ru_go (t := (76, [some (.inr (some a0)), some (.inl x1), some (.inl x2), some (.inl x3), some (.inl x4), some (.inl x5), some (.inl x6), some (.inl x7)], [.inl x7], M)) sm_a174_74 rfl rfl rfl ?_
  refine ru_go (t := (78, [some (.inr (some a0)), some (.inl x1), some (.inl x2), some (.inl x3), some (.inl x4), some (.inl x5), some (.inl x6), some (.inl x7)], [.inl 6, .inl x7], M)) sm_a174_76 rfl rfl (st_bipush (by decide)) ?_
  refine ru_go (t := (79, [some (.inr (some a0)), some (.inl x1), some (.inl x2), some (.inl x3), some (.inl x4), some (.inl x5), some (.inl x6), some (.inl x7)], [.inl x1, .inl 6, .inl x7], M)) sm_a174_78 rfl rfl rfl ?_
  refine ru_go (t := (80, [some (.inr (some a0)), some (.inl x1), some (.inl x2), some (.inl x3), some (.inl x4), some (.inl x5), some (.inl x6), some (.inl x7)], [.inl (6 * x1), .inl x7], M)) sm_a174_79 rfl rfl rfl ?_
  refine ru_go (t := (82, [some (.inr (some a0)), some (.inl x1), some (.inl x2), some (.inl x3), some (.inl x4), some (.inl x5), some (.inl x6), some (.inl x7)], [.inl 6, .inl (6 * x1), .inl x7], M)) sm_a174_80 rfl rfl (st_bipush (by decide)) ?_
  refine ru_go (t := (83, [some (.inr (some a0)), some (.inl x1), some (.inl x2), some (.inl x3), some (.inl x4), some (.inl x5), some (.inl x6), some (.inl x7)], [.inl ((6 * x1) + 6), .inl x7], M)) sm_a174_82 rfl rfl rfl ?_
  refine ru_icmp (pc := 83) (p := 116) (p2 := 86) sm_a174_83 (by decide) rfl ⟨fun hc_1 => ?_, fun hc_1 => ?_⟩
  · have h := h.1 hc_1
    refine ru_go (t := (228, [some (.inr (some a0)), some (.inl x1), some (.inl x2), some (.inl x3), some (.inl x4), some (.inl x5), some (.inl x6), some (.inl x7)], [], M)) sm_a174_116 rfl rfl (st_goto (pc := 116) (by decide)) ?_
    exact h
  · have h := h.2 hc_1
    refine ru_go (t := (87, [some (.inr (some a0)), some (.inl x1), some (.inl x2), some (.inl x3), some (.inl x4), some (.inl x5), some (.inl x6), some (.inl x7)], [.inr (some a0)], M)) sm_a174_86 rfl rfl rfl ?_
    obtain ⟨h_2, h⟩ := h
    refine ru_go (t := (90, [some (.inr (some a0)), some (.inl x1), some (.inl x2), some (.inl x3), some (.inl x4), some (.inl x5), some (.inl x6), some (.inl x7)], [.inr (sm_R M a0 13)], M)) sm_a174_87 rfl rfl (st_getR h_2 rfl rfl) ?_
    refine ru_go (t := (92, [some (.inr (some a0)), some (.inl x1), some (.inl x2), some (.inl x3), some (.inl x4), some (.inl x5), some (.inl x6), some (.inl x7)], [.inl x7, .inr (sm_R M a0 13)], M)) sm_a174_90 rfl rfl rfl ?_
    refine ru_go (t := (93, [some (.inr (some a0)), some (.inl x1), some (.inl x2), some (.inl x3), some (.inl x4), some (.inl x5), some (.inl x6), some (.inl x7)], [.inl 0, .inl x7, .inr (sm_R M a0 13)], M)) sm_a174_92 rfl rfl (st_iconst (by decide)) ?_
    obtain ⟨b_3, hb_4, h⟩ := h
    rw [hb_4]
    obtain ⟨h_5, h⟩ := h
    obtain ⟨h_6, h⟩ := h
    refine ru_go (t := (94, [some (.inr (some a0)), some (.inl x1), some (.inl x2), some (.inl x3), some (.inl x4), some (.inl x5), some (.inl x6), some (.inl x7)], [], sm_putI M b_3 (x7).toNatClampNeg 0)) sm_a174_93 rfl rfl (st_iast h_5 h_6) ?_
    refine ru_go (t := (95, [some (.inr (some a0)), some (.inl x1), some (.inl x2), some (.inl x3), some (.inl x4), some (.inl x5), some (.inl x6), some (.inl x7)], [.inr (some a0)], sm_putI M b_3 (x7).toNatClampNeg 0)) sm_a174_94 rfl rfl rfl ?_
    refine ru_go (t := (98, [some (.inr (some a0)), some (.inl x1), some (.inl x2), some (.inl x3), some (.inl x4), some (.inl x5), some (.inl x6), some (.inl x7)], [.inr (sm_R (sm_putI M b_3 (x7).toNatClampNeg 0) a0 14)], sm_putI M b_3 (x7).toNatClampNeg 0)) sm_a174_95 rfl rfl (st_getR h_2 rfl rfl) ?_
    refine ru_go (t := (100, [some (.inr (some a0)), some (.inl x1), some (.inl x2), some (.inl x3), some (.inl x4), some (.inl x5), some (.inl x6), some (.inl x7)], [.inl x7, .inr (sm_R (sm_putI M b_3 (x7).toNatClampNeg 0) a0 14)], sm_putI M b_3 (x7).toNatClampNeg 0)) sm_a174_98 rfl rfl rfl ?_
    refine ru_go (t := (101, [some (.inr (some a0)), some (.inl x1), some (.inl x2), some (.inl x3), some (.inl x4), some (.inl x5), some (.inl x6), some (.inl x7)], [.inl 0, .inl x7, .inr (sm_R (sm_putI M b_3 (x7).toNatClampNeg 0) a0 14)], sm_putI M b_3 (x7).toNatClampNeg 0)) sm_a174_100 rfl rfl (st_iconst (by decide)) ?_
    obtain ⟨b_7, hb_8, h⟩ := h
    rw [hb_8]
    obtain ⟨h_9, h⟩ := h
    obtain ⟨h_10, h⟩ := h
    refine ru_go (t := (102, [some (.inr (some a0)), some (.inl x1), some (.inl x2), some (.inl x3), some (.inl x4), some (.inl x5), some (.inl x6), some (.inl x7)], [], sm_putI (sm_putI M b_3 (x7).toNatClampNeg 0) b_7 (x7).toNatClampNeg 0)) sm_a174_101 rfl rfl (st_zast h_9 h_10 (by decide)) ?_
    refine ru_go (t := (103, [some (.inr (some a0)), some (.inl x1), some (.inl x2), some (.inl x3), some (.inl x4), some (.inl x5), some (.inl x6), some (.inl x7)], [.inr (some a0)], sm_putI (sm_putI M b_3 (x7).toNatClampNeg 0) b_7 (x7).toNatClampNeg 0)) sm_a174_102 rfl rfl rfl ?_
    refine ru_go (t := (106, [some (.inr (some a0)), some (.inl x1), some (.inl x2), some (.inl x3), some (.inl x4), some (.inl x5), some (.inl x6), some (.inl x7)], [.inr (sm_R (sm_putI (sm_putI M b_3 (x7).toNatClampNeg 0) b_7 (x7).toNatClampNeg 0) a0 16)], sm_putI (sm_putI M b_3 (x7).toNatClampNeg 0) b_7 (x7).toNatClampNeg 0)) sm_a174_103 rfl rfl (st_getR h_2 rfl rfl) ?_
    refine ru_go (t := (108, [some (.inr (some a0)), some (.inl x1), some (.inl x2), some (.inl x3), some (.inl x4), some (.inl x5), some (.inl x6), some (.inl x7)], [.inl x7, .inr (sm_R (sm_putI (sm_putI M b_3 (x7).toNatClampNeg 0) b_7 (x7).toNatClampNeg 0) a0 16)], sm_putI (sm_putI M b_3 (x7).toNatClampNeg 0) b_7 (x7).toNatClampNeg 0)) sm_a174_106 rfl rfl rfl ?_
    refine ru_go (t := (109, [some (.inr (some a0)), some (.inl x1), some (.inl x2), some (.inl x3), some (.inl x4), some (.inl x5), some (.inl x6), some (.inl x7)], [.inl (-1), .inl x7, .inr (sm_R (sm_putI (sm_putI M b_3 (x7).toNatClampNeg 0) b_7 (x7).toNatClampNeg 0) a0 16)], sm_putI (sm_putI M b_3 (x7).toNatClampNeg 0) b_7 (x7).toNatClampNeg 0)) sm_a174_108 rfl rfl (st_iconst (by decide)) ?_
    obtain ⟨b_11, hb_12, h⟩ := h
    rw [hb_12]
    obtain ⟨h_13, h⟩ := h
    obtain ⟨h_14, h⟩ := h
    refine ru_go (t := (110, [some (.inr (some a0)), some (.inl x1), some (.inl x2), some (.inl x3), some (.inl x4), some (.inl x5), some (.inl x6), some (.inl x7)], [], sm_putI (sm_putI (sm_putI M b_3 (x7).toNatClampNeg 0) b_7 (x7).toNatClampNeg 0) b_11 (x7).toNatClampNeg (-1))) sm_a174_109 rfl rfl (st_iast h_13 h_14) ?_
    refine ru_go (t := (113, [some (.inr (some a0)), some (.inl x1), some (.inl x2), some (.inl x3), some (.inl x4), some (.inl x5), some (.inl x6), some (.inl (x7 + 1))], [], sm_putI (sm_putI (sm_putI M b_3 (x7).toNatClampNeg 0) b_7 (x7).toNatClampNeg 0) b_11 (x7).toNatClampNeg (-1))) sm_a174_110 rfl rfl (st_iinc rfl (by decide)) ?_
    refine ru_go (t := (74, [some (.inr (some a0)), some (.inl x1), some (.inl x2), some (.inl x3), some (.inl x4), some (.inl x5), some (.inl x6), some (.inl (x7 + 1))], [], sm_putI (sm_putI (sm_putI M b_3 (x7).toNatClampNeg 0) b_7 (x7).toNatClampNeg 0) b_11 (x7).toNatClampNeg (-1))) sm_a174_113 rfl rfl (st_goto (pc := 113) (by decide)) ?_
    exact h
theorem bb_174_119 {d : Nat} {M : sm_M} {Q : Option sm_V → sm_M → Prop} {a0 : Nat} {x1 : Int32} {x2 : Int32} {x3 : Int32} {x4 : Int32} {x5 : Int32} {x6 : Int32} {z7 : Option sm_V}
    (h : ((x2 = 513 → sm_Run (d + 1) 174 133 [some (.inr (some a0)), some (.inl x1), some (.inl x2), some (.inl x3), some (.inl x4), some (.inl x5), some (.inl x6), z7] [] M Q) ∧ (¬ (x2 = 513) → ((¬ x2 = 515 → sm_Run (d + 1) 174 225 [some (.inr (some a0)), some (.inl x1), some (.inl x2), some (.inl x3), some (.inl x4), some (.inl x5), some (.inl x6), z7] [] M Q) ∧ (¬ (¬ x2 = 515) → sm_Run (d + 1) 174 133 [some (.inr (some a0)), some (.inl x1), some (.inl x2), some (.inl x3), some (.inl x4), some (.inl x5), some (.inl x6), z7] [] M Q))))) :
    sm_Run (d + 1) 174 119 [some (.inr (some a0)), some (.inl x1), some (.inl x2), some (.inl x3), some (.inl x4), some (.inl x5), some (.inl x6), z7] [] M Q := by
  refine ru_go (t := (120, [some (.inr (some a0)), some (.inl x1), some (.inl x2), some (.inl x3), some (.inl x4), some (.inl x5), some (.inl x6), z7], [.inl x2], M)) sm_a174_119 rfl rfl rfl ?_
  refine ru_go (t := (123, [some (.inr (some a0)), some (.inl x1), some (.inl x2), some (.inl x3), some (.inl x4), some (.inl x5), some (.inl x6), z7], [.inl 513, .inl x2], M)) sm_a174_120 rfl rfl (st_sipush (by decide)) ?_
  refine ru_icmp (pc := 123) (p := 133) (p2 := 126) sm_a174_123 (by decide) rfl ⟨fun hc_1 => ?_, fun hc_1 => ?_⟩
  · have h := h.1 hc_1
    exact h
  · have h := h.2 hc_1
    refine ru_go (t := (127, [some (.inr (some a0)), some (.inl x1), some (.inl x2), some (.inl x3), some (.inl x4), some (.inl x5), some (.inl x6), z7], [.inl x2], M)) sm_a174_126 rfl rfl rfl ?_
    refine ru_go (t := (130, [some (.inr (some a0)), some (.inl x1), some (.inl x2), some (.inl x3), some (.inl x4), some (.inl x5), some (.inl x6), z7], [.inl 515, .inl x2], M)) sm_a174_127 rfl rfl (st_sipush (by decide)) ?_
    refine ru_icmp (pc := 130) (p := 225) (p2 := 133) sm_a174_130 (by decide) rfl ⟨fun hc_2 => ?_, fun hc_2 => ?_⟩
    · have h := h.1 hc_2
      exact h
    · have h := h.2 hc_2
      exact h
theorem bb_174_133 {d : Nat} {M : sm_M} {Q : Option sm_V → sm_M → Prop} {a0 : Nat} {x1 : Int32} {x2 : Int32} {x3 : Int32} {x4 : Int32} {x5 : Int32} {x6 : Int32} {z7 : Option sm_V}
    (h : ((¬ x3 = 0 → sm_Run (d + 1) 174 225 [some (.inr (some a0)), some (.inl x1), some (.inl x2), some (.inl x3), some (.inl x4), some (.inl x5), some (.inl x6), z7] [] M Q) ∧ (¬ (¬ x3 = 0) → ((x5 = (-1) → sm_Run (d + 1) 174 225 [some (.inr (some a0)), some (.inl x1), some (.inl x2), some (.inl x3), some (.inl x4), some (.inl x5), some (.inl x6), z7] [] M Q) ∧ (¬ (x5 = (-1)) → sm_K M a0 = 39 ∧ ∃ b_4, sm_R M a0 4 = some b_4 ∧ sm_iA M b_4 ∧ sm_in_ M b_4 x1 ∧ ((¬ (sm_I M b_4 (x1).toNatClampNeg) = 3 → sm_Run (d + 1) 174 225 [some (.inr (some a0)), some (.inl x1), some (.inl x2), some (.inl x3), some (.inl x4), some (.inl x5), some (.inl x6), z7] [] M Q) ∧ (¬ (¬ (sm_I M b_4 (x1).toNatClampNeg) = 3) → ((¬ x2 = 515 → ∃ b_10, sm_R M a0 14 = some b_10 ∧ sm_wZ 1 M b_10 ∧ sm_in_ M b_10 x5 ∧ ((¬ x2 = 513 → ∃ b_15, sm_R (sm_putI M b_10 (x5).toNatClampNeg 0) a0 13 = some b_15 ∧ sm_iA M b_15 ∧ sm_in_ M b_15 x5 ∧ sm_wA 1 M b_15 ∧ ∃ b_20, sm_R (sm_putI (sm_putI M b_10 (x5).toNatClampNeg 0) b_15 (x5).toNatClampNeg (sm_I (sm_putI M b_10 (x5).toNatClampNeg 0) b_15 (x5).toNatClampNeg)) a0 16 = some b_20 ∧ sm_iA M b_20 ∧ sm_in_ M b_20 x5 ∧ sm_wA 1 M b_20 ∧ sm_Run (d + 1) 174 228 [some (.inr (some a0)), some (.inl x1), some (.inl x2), some (.inl x3), some (.inl x4), some (.inl x5), some (.inl x6), z7] [] (sm_putI (sm_putI (sm_putI M b_10 (x5).toNatClampNeg 0) b_15 (x5).toNatClampNeg (sm_I (sm_putI M b_10 (x5).toNatClampNeg 0) b_15 (x5).toNatClampNeg)) b_20 (x5).toNatClampNeg (sm_I (sm_putI (sm_putI M b_10 (x5).toNatClampNeg 0) b_15 (x5).toNatClampNeg (sm_I (sm_putI M b_10 (x5).toNatClampNeg 0) b_15 (x5).toNatClampNeg)) b_20 (x5).toNatClampNeg)) Q) ∧ (¬ (¬ x2 = 513) → ∃ b_25, sm_R (sm_putI M b_10 (x5).toNatClampNeg 0) a0 13 = some b_25 ∧ sm_wA 1 M b_25 ∧ sm_in_ M b_25 x5 ∧ ∃ b_29, sm_R (sm_putI (sm_putI M b_10 (x5).toNatClampNeg 0) b_25 (x5).toNatClampNeg 0) a0 16 = some b_29 ∧ sm_wA 1 M b_29 ∧ sm_in_ M b_29 x5 ∧ sm_Run (d + 1) 174 228 [some (.inr (some a0)), some (.inl x1), some (.inl x2), some (.inl x3), some (.inl x4), some (.inl x5), some (.inl x6), z7] [] (sm_putI (sm_putI (sm_putI M b_10 (x5).toNatClampNeg 0) b_25 (x5).toNatClampNeg 0) b_29 (x5).toNatClampNeg (-1)) Q))) ∧ (¬ (¬ x2 = 515) → ∃ b_33, sm_R M a0 14 = some b_33 ∧ sm_wZ 1 M b_33 ∧ sm_in_ M b_33 x5 ∧ ((¬ x2 = 513 → ∃ b_38, sm_R (sm_putI M b_33 (x5).toNatClampNeg 1) a0 13 = some b_38 ∧ sm_iA M b_38 ∧ sm_in_ M b_38 x5 ∧ sm_wA 1 M b_38 ∧ ∃ b_43, sm_R (sm_putI (sm_putI M b_33 (x5).toNatClampNeg 1) b_38 (x5).toNatClampNeg (sm_I (sm_putI M b_33 (x5).toNatClampNeg 1) b_38 (x5).toNatClampNeg)) a0 16 = some b_43 ∧ sm_iA M b_43 ∧ sm_in_ M b_43 x5 ∧ sm_wA 1 M b_43 ∧ sm_Run (d + 1) 174 228 [some (.inr (some a0)), some (.inl x1), some (.inl x2), some (.inl x3), some (.inl x4), some (.inl x5), some (.inl x6), z7] [] (sm_putI (sm_putI (sm_putI M b_33 (x5).toNatClampNeg 1) b_38 (x5).toNatClampNeg (sm_I (sm_putI M b_33 (x5).toNatClampNeg 1) b_38 (x5).toNatClampNeg)) b_43 (x5).toNatClampNeg (sm_I (sm_putI (sm_putI M b_33 (x5).toNatClampNeg 1) b_38 (x5).toNatClampNeg (sm_I (sm_putI M b_33 (x5).toNatClampNeg 1) b_38 (x5).toNatClampNeg)) b_43 (x5).toNatClampNeg)) Q) ∧ (¬ (¬ x2 = 513) → ∃ b_48, sm_R (sm_putI M b_33 (x5).toNatClampNeg 1) a0 13 = some b_48 ∧ sm_wA 1 M b_48 ∧ sm_in_ M b_48 x5 ∧ ∃ b_52, sm_R (sm_putI (sm_putI M b_33 (x5).toNatClampNeg 1) b_48 (x5).toNatClampNeg 0) a0 16 = some b_52 ∧ sm_wA 1 M b_52 ∧ sm_in_ M b_52 x5 ∧ sm_Run (d + 1) 174 228 [some (.inr (some a0)), some (.inl x1), some (.inl x2), some (.inl x3), some (.inl x4), some (.inl x5), some (.inl x6), z7] [] (sm_putI (sm_putI (sm_putI M b_33 (x5).toNatClampNeg 1) b_48 (x5).toNatClampNeg 0) b_52 (x5).toNatClampNeg (-1)) Q))))))))))) :
    sm_Run (d + 1) 174 133 [some (.inr (some a0)), some (.inl x1), some (.inl x2), some (.inl x3), some (.inl x4), some (.inl x5), some (.inl x6), z7] [] M Q := by
  refine ru_go (t := (134, [some (.inr (some a0)), some (.inl x1), some (.inl x2), some (.inl x3), some (.inl x4), some (.inl x5), some (.inl x6), z7], [.inl x3], M)) sm_a174_133 rfl rfl rfl ?_
  refine ru_if (pc := 134) (p := 225) (p2 := 137) sm_a174_134 (by decide) rfl ⟨fun hc_1 => ?_, fun hc_1 => ?_⟩
  · have h := h.1 hc_1
    exact h
  · have h := h.2 hc_1
    refine ru_go (t := (139, [some (.inr (some a0)), some (.inl x1), some (.inl x2), some (.inl x3), some (.inl x4), some (.inl x5), some (.inl x6), z7], [.inl x5], M)) sm_a174_137 rfl rfl rfl ?_
    refine ru_go (t := (140, [some (.inr (some a0)), some (.inl x1), some (.inl x2), some (.inl x3), some (.inl x4), some (.inl x5), some (.inl x6), z7], [.inl (-1), .inl x5], M)) sm_a174_139 rfl rfl (st_iconst (by decide)) ?_
    refine ru_icmp (pc := 140) (p := 225) (p2 := 143) sm_a174_140 (by decide) rfl ⟨fun hc_2 => ?_, fun hc_2 => ?_⟩
    · have h := h.1 hc_2
      exact h
    · have h := h.2 hc_2
      refine ru_go (t := (144, [some (.inr (some a0)), some (.inl x1), some (.inl x2), some (.inl x3), some (.inl x4), some (.inl x5), some (.inl x6), z7], [.inr (some a0)], M)) sm_a174_143 rfl rfl rfl ?_
      obtain ⟨h_3, h⟩ := h
      refine ru_go (t := (147, [some (.inr (some a0)), some (.inl x1), some (.inl x2), some (.inl x3), some (.inl x4), some (.inl x5), some (.inl x6), z7], [.inr (sm_R M a0 4)], M)) sm_a174_144 rfl rfl (st_getR h_3 rfl rfl) ?_
      refine ru_go (t := (148, [some (.inr (some a0)), some (.inl x1), some (.inl x2), some (.inl x3), some (.inl x4), some (.inl x5), some (.inl x6), z7], [.inl x1, .inr (sm_R M a0 4)], M)) sm_a174_147 rfl rfl rfl ?_
      obtain ⟨b_4, hb_5, h⟩ := h
      rw [hb_5]
      obtain ⟨h_6, h⟩ := h
      obtain ⟨h_7, h⟩ := h
      refine ru_go (t := (149, [some (.inr (some a0)), some (.inl x1), some (.inl x2), some (.inl x3), some (.inl x4), some (.inl x5), some (.inl x6), z7], [.inl (sm_I M b_4 (x1).toNatClampNeg)], M)) sm_a174_148 rfl rfl (st_iald h_6 h_7) ?_
      refine ru_go (t := (150, [some (.inr (some a0)), some (.inl x1), some (.inl x2), some (.inl x3), some (.inl x4), some (.inl x5), some (.inl x6), z7], [.inl 3, .inl (sm_I M b_4 (x1).toNatClampNeg)], M)) sm_a174_149 rfl rfl (st_iconst (by decide)) ?_
      refine ru_icmp (pc := 150) (p := 225) (p2 := 153) sm_a174_150 (by decide) rfl ⟨fun hc_8 => ?_, fun hc_8 => ?_⟩
      · have h := h.1 hc_8
        exact h
      · have h := h.2 hc_8
        refine ru_go (t := (154, [some (.inr (some a0)), some (.inl x1), some (.inl x2), some (.inl x3), some (.inl x4), some (.inl x5), some (.inl x6), z7], [.inr (some a0)], M)) sm_a174_153 rfl rfl rfl ?_
        refine ru_go (t := (157, [some (.inr (some a0)), some (.inl x1), some (.inl x2), some (.inl x3), some (.inl x4), some (.inl x5), some (.inl x6), z7], [.inr (sm_R M a0 14)], M)) sm_a174_154 rfl rfl (st_getR h_3 rfl rfl) ?_
        refine ru_go (t := (159, [some (.inr (some a0)), some (.inl x1), some (.inl x2), some (.inl x3), some (.inl x4), some (.inl x5), some (.inl x6), z7], [.inl x5, .inr (sm_R M a0 14)], M)) sm_a174_157 rfl rfl rfl ?_
        refine ru_go (t := (160, [some (.inr (some a0)), some (.inl x1), some (.inl x2), some (.inl x3), some (.inl x4), some (.inl x5), some (.inl x6), z7], [.inl x2, .inl x5, .inr (sm_R M a0 14)], M)) sm_a174_159 rfl rfl rfl ?_
        refine ru_go (t := (163, [some (.inr (some a0)), some (.inl x1), some (.inl x2), some (.inl x3), some (.inl x4), some (.inl x5), some (.inl x6), z7], [.inl 515, .inl x2, .inl x5, .inr (sm_R M a0 14)], M)) sm_a174_160 rfl rfl (st_sipush (by decide)) ?_
        refine ru_icmp (pc := 163) (p := 170) (p2 := 166) sm_a174_163 (by decide) rfl ⟨fun hc_9 => ?_, fun hc_9 => ?_⟩
        · have h := h.1 hc_9
          refine ru_go (t := (171, [some (.inr (some a0)), some (.inl x1), some (.inl x2), some (.inl x3), some (.inl x4), some (.inl x5), some (.inl x6), z7], [.inl 0, .inl x5, .inr (sm_R M a0 14)], M)) sm_a174_170 rfl rfl (st_iconst (by decide)) ?_
          obtain ⟨b_10, hb_11, h⟩ := h
          rw [hb_11]
          obtain ⟨h_12, h⟩ := h
          obtain ⟨h_13, h⟩ := h
          refine ru_go (t := (172, [some (.inr (some a0)), some (.inl x1), some (.inl x2), some (.inl x3), some (.inl x4), some (.inl x5), some (.inl x6), z7], [], sm_putI M b_10 (x5).toNatClampNeg 0)) sm_a174_171 rfl rfl (st_zast h_12 h_13 (by decide)) ?_
          refine ru_go (t := (173, [some (.inr (some a0)), some (.inl x1), some (.inl x2), some (.inl x3), some (.inl x4), some (.inl x5), some (.inl x6), z7], [.inr (some a0)], sm_putI M b_10 (x5).toNatClampNeg 0)) sm_a174_172 rfl rfl rfl ?_
          refine ru_go (t := (176, [some (.inr (some a0)), some (.inl x1), some (.inl x2), some (.inl x3), some (.inl x4), some (.inl x5), some (.inl x6), z7], [.inr (sm_R (sm_putI M b_10 (x5).toNatClampNeg 0) a0 13)], sm_putI M b_10 (x5).toNatClampNeg 0)) sm_a174_173 rfl rfl (st_getR h_3 rfl rfl) ?_
          refine ru_go (t := (178, [some (.inr (some a0)), some (.inl x1), some (.inl x2), some (.inl x3), some (.inl x4), some (.inl x5), some (.inl x6), z7], [.inl x5, .inr (sm_R (sm_putI M b_10 (x5).toNatClampNeg 0) a0 13)], sm_putI M b_10 (x5).toNatClampNeg 0)) sm_a174_176 rfl rfl rfl ?_
          refine ru_go (t := (179, [some (.inr (some a0)), some (.inl x1), some (.inl x2), some (.inl x3), some (.inl x4), some (.inl x5), some (.inl x6), z7], [.inl x2, .inl x5, .inr (sm_R (sm_putI M b_10 (x5).toNatClampNeg 0) a0 13)], sm_putI M b_10 (x5).toNatClampNeg 0)) sm_a174_178 rfl rfl rfl ?_
          refine ru_go (t := (182, [some (.inr (some a0)), some (.inl x1), some (.inl x2), some (.inl x3), some (.inl x4), some (.inl x5), some (.inl x6), z7], [.inl 513, .inl x2, .inl x5, .inr (sm_R (sm_putI M b_10 (x5).toNatClampNeg 0) a0 13)], sm_putI M b_10 (x5).toNatClampNeg 0)) sm_a174_179 rfl rfl (st_sipush (by decide)) ?_
          refine ru_icmp (pc := 182) (p := 189) (p2 := 185) sm_a174_182 (by decide) rfl ⟨fun hc_14 => ?_, fun hc_14 => ?_⟩
          · have h := h.1 hc_14
            refine ru_go (t := (190, [some (.inr (some a0)), some (.inl x1), some (.inl x2), some (.inl x3), some (.inl x4), some (.inl x5), some (.inl x6), z7], [.inr (some a0), .inl x5, .inr (sm_R (sm_putI M b_10 (x5).toNatClampNeg 0) a0 13)], sm_putI M b_10 (x5).toNatClampNeg 0)) sm_a174_189 rfl rfl rfl ?_
            refine ru_go (t := (193, [some (.inr (some a0)), some (.inl x1), some (.inl x2), some (.inl x3), some (.inl x4), some (.inl x5), some (.inl x6), z7], [.inr (sm_R (sm_putI M b_10 (x5).toNatClampNeg 0) a0 13), .inl x5, .inr (sm_R (sm_putI M b_10 (x5).toNatClampNeg 0) a0 13)], sm_putI M b_10 (x5).toNatClampNeg 0)) sm_a174_190 rfl rfl (st_getR h_3 rfl rfl) ?_
            refine ru_go (t := (195, [some (.inr (some a0)), some (.inl x1), some (.inl x2), some (.inl x3), some (.inl x4), some (.inl x5), some (.inl x6), z7], [.inl x5, .inr (sm_R (sm_putI M b_10 (x5).toNatClampNeg 0) a0 13), .inl x5, .inr (sm_R (sm_putI M b_10 (x5).toNatClampNeg 0) a0 13)], sm_putI M b_10 (x5).toNatClampNeg 0)) sm_a174_193 rfl rfl rfl ?_
            obtain ⟨b_15, hb_16, h⟩ := h
            rw [hb_16]
            obtain ⟨h_17, h⟩ := h
            obtain ⟨h_18, h⟩ := h
            refine ru_go (t := (196, [some (.inr (some a0)), some (.inl x1), some (.inl x2), some (.inl x3), some (.inl x4), some (.inl x5), some (.inl x6), z7], [.inl (sm_I (sm_putI M b_10 (x5).toNatClampNeg 0) b_15 (x5).toNatClampNeg), .inl x5, .inr (some b_15)], sm_putI M b_10 (x5).toNatClampNeg 0)) sm_a174_195 rfl rfl (st_iald h_17 h_18) ?_
            obtain ⟨h_19, h⟩ := h
            refine ru_go (t := (197, [some (.inr (some a0)), some (.inl x1), some (.inl x2), some (.inl x3), some (.inl x4), some (.inl x5), some (.inl x6), z7], [], sm_putI (sm_putI M b_10 (x5).toNatClampNeg 0) b_15 (x5).toNatClampNeg (sm_I (sm_putI M b_10 (x5).toNatClampNeg 0) b_15 (x5).toNatClampNeg))) sm_a174_196 rfl rfl (st_iast h_19 h_18) ?_
            refine ru_go (t := (198, [some (.inr (some a0)), some (.inl x1), some (.inl x2), some (.inl x3), some (.inl x4), some (.inl x5), some (.inl x6), z7], [.inr (some a0)], sm_putI (sm_putI M b_10 (x5).toNatClampNeg 0) b_15 (x5).toNatClampNeg (sm_I (sm_putI M b_10 (x5).toNatClampNeg 0) b_15 (x5).toNatClampNeg))) sm_a174_197 rfl rfl rfl ?_
            refine ru_go (t := (201, [some (.inr (some a0)), some (.inl x1), some (.inl x2), some (.inl x3), some (.inl x4), some (.inl x5), some (.inl x6), z7], [.inr (sm_R (sm_putI (sm_putI M b_10 (x5).toNatClampNeg 0) b_15 (x5).toNatClampNeg (sm_I (sm_putI M b_10 (x5).toNatClampNeg 0) b_15 (x5).toNatClampNeg)) a0 16)], sm_putI (sm_putI M b_10 (x5).toNatClampNeg 0) b_15 (x5).toNatClampNeg (sm_I (sm_putI M b_10 (x5).toNatClampNeg 0) b_15 (x5).toNatClampNeg))) sm_a174_198 rfl rfl (st_getR h_3 rfl rfl) ?_
            refine ru_go (t := (203, [some (.inr (some a0)), some (.inl x1), some (.inl x2), some (.inl x3), some (.inl x4), some (.inl x5), some (.inl x6), z7], [.inl x5, .inr (sm_R (sm_putI (sm_putI M b_10 (x5).toNatClampNeg 0) b_15 (x5).toNatClampNeg (sm_I (sm_putI M b_10 (x5).toNatClampNeg 0) b_15 (x5).toNatClampNeg)) a0 16)], sm_putI (sm_putI M b_10 (x5).toNatClampNeg 0) b_15 (x5).toNatClampNeg (sm_I (sm_putI M b_10 (x5).toNatClampNeg 0) b_15 (x5).toNatClampNeg))) sm_a174_201 rfl rfl rfl ?_
            refine ru_go (t := (204, [some (.inr (some a0)), some (.inl x1), some (.inl x2), some (.inl x3), some (.inl x4), some (.inl x5), some (.inl x6), z7], [.inl x2, .inl x5, .inr (sm_R (sm_putI (sm_putI M b_10 (x5).toNatClampNeg 0) b_15 (x5).toNatClampNeg (sm_I (sm_putI M b_10 (x5).toNatClampNeg 0) b_15 (x5).toNatClampNeg)) a0 16)], sm_putI (sm_putI M b_10 (x5).toNatClampNeg 0) b_15 (x5).toNatClampNeg (sm_I (sm_putI M b_10 (x5).toNatClampNeg 0) b_15 (x5).toNatClampNeg))) sm_a174_203 rfl rfl rfl ?_
            refine ru_go (t := (207, [some (.inr (some a0)), some (.inl x1), some (.inl x2), some (.inl x3), some (.inl x4), some (.inl x5), some (.inl x6), z7], [.inl 513, .inl x2, .inl x5, .inr (sm_R (sm_putI (sm_putI M b_10 (x5).toNatClampNeg 0) b_15 (x5).toNatClampNeg (sm_I (sm_putI M b_10 (x5).toNatClampNeg 0) b_15 (x5).toNatClampNeg)) a0 16)], sm_putI (sm_putI M b_10 (x5).toNatClampNeg 0) b_15 (x5).toNatClampNeg (sm_I (sm_putI M b_10 (x5).toNatClampNeg 0) b_15 (x5).toNatClampNeg))) sm_a174_204 rfl rfl (st_sipush (by decide)) ?_
            refine ru_icmp (pc := 207) (p := 214) (p2 := 210) sm_a174_207 (by decide) rfl ⟨fun _ => ?_, fun hc => absurd hc_14 hc⟩
            refine ru_go (t := (215, [some (.inr (some a0)), some (.inl x1), some (.inl x2), some (.inl x3), some (.inl x4), some (.inl x5), some (.inl x6), z7], [.inr (some a0), .inl x5, .inr (sm_R (sm_putI (sm_putI M b_10 (x5).toNatClampNeg 0) b_15 (x5).toNatClampNeg (sm_I (sm_putI M b_10 (x5).toNatClampNeg 0) b_15 (x5).toNatClampNeg)) a0 16)], sm_putI (sm_putI M b_10 (x5).toNatClampNeg 0) b_15 (x5).toNatClampNeg (sm_I (sm_putI M b_10 (x5).toNatClampNeg 0) b_15 (x5).toNatClampNeg))) sm_a174_214 rfl rfl rfl ?_
            refine ru_go (t := (218, [some (.inr (some a0)), some (.inl x1), some (.inl x2), some (.inl x3), some (.inl x4), some (.inl x5), some (.inl x6), z7], [.inr (sm_R (sm_putI (sm_putI M b_10 (x5).toNatClampNeg 0) b_15 (x5).toNatClampNeg (sm_I (sm_putI M b_10 (x5).toNatClampNeg 0) b_15 (x5).toNatClampNeg)) a0 16), .inl x5, .inr (sm_R (sm_putI (sm_putI M b_10 (x5).toNatClampNeg 0) b_15 (x5).toNatClampNeg (sm_I (sm_putI M b_10 (x5).toNatClampNeg 0) b_15 (x5).toNatClampNeg)) a0 16)], sm_putI (sm_putI M b_10 (x5).toNatClampNeg 0) b_15 (x5).toNatClampNeg (sm_I (sm_putI M b_10 (x5).toNatClampNeg 0) b_15 (x5).toNatClampNeg))) sm_a174_215 rfl rfl (st_getR h_3 rfl rfl) ?_
            refine ru_go (t := (220, [some (.inr (some a0)), some (.inl x1), some (.inl x2), some (.inl x3), some (.inl x4), some (.inl x5), some (.inl x6), z7], [.inl x5, .inr (sm_R (sm_putI (sm_putI M b_10 (x5).toNatClampNeg 0) b_15 (x5).toNatClampNeg (sm_I (sm_putI M b_10 (x5).toNatClampNeg 0) b_15 (x5).toNatClampNeg)) a0 16), .inl x5, .inr (sm_R (sm_putI (sm_putI M b_10 (x5).toNatClampNeg 0) b_15 (x5).toNatClampNeg (sm_I (sm_putI M b_10 (x5).toNatClampNeg 0) b_15 (x5).toNatClampNeg)) a0 16)], sm_putI (sm_putI M b_10 (x5).toNatClampNeg 0) b_15 (x5).toNatClampNeg (sm_I (sm_putI M b_10 (x5).toNatClampNeg 0) b_15 (x5).toNatClampNeg))) sm_a174_218 rfl rfl rfl ?_
            obtain ⟨b_20, hb_21, h⟩ := h
            rw [hb_21]
            obtain ⟨h_22, h⟩ := h
            obtain ⟨h_23, h⟩ := h
            refine ru_go (t := (221, [some (.inr (some a0)), some (.inl x1), some (.inl x2), some (.inl x3), some (.inl x4), some (.inl x5), some (.inl x6), z7], [.inl (sm_I (sm_putI (sm_putI M b_10 (x5).toNatClampNeg 0) b_15 (x5).toNatClampNeg (sm_I (sm_putI M b_10 (x5).toNatClampNeg 0) b_15 (x5).toNatClampNeg)) b_20 (x5).toNatClampNeg), .inl x5, .inr (some b_20)], sm_putI (sm_putI M b_10 (x5).toNatClampNeg 0) b_15 (x5).toNatClampNeg (sm_I (sm_putI M b_10 (x5).toNatClampNeg 0) b_15 (x5).toNatClampNeg))) sm_a174_220 rfl rfl (st_iald h_22 h_23) ?_
            obtain ⟨h_24, h⟩ := h
            refine ru_go (t := (222, [some (.inr (some a0)), some (.inl x1), some (.inl x2), some (.inl x3), some (.inl x4), some (.inl x5), some (.inl x6), z7], [], sm_putI (sm_putI (sm_putI M b_10 (x5).toNatClampNeg 0) b_15 (x5).toNatClampNeg (sm_I (sm_putI M b_10 (x5).toNatClampNeg 0) b_15 (x5).toNatClampNeg)) b_20 (x5).toNatClampNeg (sm_I (sm_putI (sm_putI M b_10 (x5).toNatClampNeg 0) b_15 (x5).toNatClampNeg (sm_I (sm_putI M b_10 (x5).toNatClampNeg 0) b_15 (x5).toNatClampNeg)) b_20 (x5).toNatClampNeg))) sm_a174_221 rfl rfl (st_iast h_24 h_23) ?_
            refine ru_go (t := (228, [some (.inr (some a0)), some (.inl x1), some (.inl x2), some (.inl x3), some (.inl x4), some (.inl x5), some (.inl x6), z7], [], sm_putI (sm_putI (sm_putI M b_10 (x5).toNatClampNeg 0) b_15 (x5).toNatClampNeg (sm_I (sm_putI M b_10 (x5).toNatClampNeg 0) b_15 (x5).toNatClampNeg)) b_20 (x5).toNatClampNeg (sm_I (sm_putI (sm_putI M b_10 (x5).toNatClampNeg 0) b_15 (x5).toNatClampNeg (sm_I (sm_putI M b_10 (x5).toNatClampNeg 0) b_15 (x5).toNatClampNeg)) b_20 (x5).toNatClampNeg))) sm_a174_222 rfl rfl (st_goto (pc := 222) (by decide)) ?_
            exact h
          · have h := h.2 hc_14
            refine ru_go (t := (186, [some (.inr (some a0)), some (.inl x1), some (.inl x2), some (.inl x3), some (.inl x4), some (.inl x5), some (.inl x6), z7], [.inl 0, .inl x5, .inr (sm_R (sm_putI M b_10 (x5).toNatClampNeg 0) a0 13)], sm_putI M b_10 (x5).toNatClampNeg 0)) sm_a174_185 rfl rfl (st_iconst (by decide)) ?_
            refine ru_go (t := (196, [some (.inr (some a0)), some (.inl x1), some (.inl x2), some (.inl x3), some (.inl x4), some (.inl x5), some (.inl x6), z7], [.inl 0, .inl x5, .inr (sm_R (sm_putI M b_10 (x5).toNatClampNeg 0) a0 13)], sm_putI M b_10 (x5).toNatClampNeg 0)) sm_a174_186 rfl rfl (st_goto (pc := 186) (by decide)) ?_
            obtain ⟨b_25, hb_26, h⟩ := h
            rw [hb_26]
            obtain ⟨h_27, h⟩ := h
            obtain ⟨h_28, h⟩ := h
            refine ru_go (t := (197, [some (.inr (some a0)), some (.inl x1), some (.inl x2), some (.inl x3), some (.inl x4), some (.inl x5), some (.inl x6), z7], [], sm_putI (sm_putI M b_10 (x5).toNatClampNeg 0) b_25 (x5).toNatClampNeg 0)) sm_a174_196 rfl rfl (st_iast h_27 h_28) ?_
            refine ru_go (t := (198, [some (.inr (some a0)), some (.inl x1), some (.inl x2), some (.inl x3), some (.inl x4), some (.inl x5), some (.inl x6), z7], [.inr (some a0)], sm_putI (sm_putI M b_10 (x5).toNatClampNeg 0) b_25 (x5).toNatClampNeg 0)) sm_a174_197 rfl rfl rfl ?_
            refine ru_go (t := (201, [some (.inr (some a0)), some (.inl x1), some (.inl x2), some (.inl x3), some (.inl x4), some (.inl x5), some (.inl x6), z7], [.inr (sm_R (sm_putI (sm_putI M b_10 (x5).toNatClampNeg 0) b_25 (x5).toNatClampNeg 0) a0 16)], sm_putI (sm_putI M b_10 (x5).toNatClampNeg 0) b_25 (x5).toNatClampNeg 0)) sm_a174_198 rfl rfl (st_getR h_3 rfl rfl) ?_
            refine ru_go (t := (203, [some (.inr (some a0)), some (.inl x1), some (.inl x2), some (.inl x3), some (.inl x4), some (.inl x5), some (.inl x6), z7], [.inl x5, .inr (sm_R (sm_putI (sm_putI M b_10 (x5).toNatClampNeg 0) b_25 (x5).toNatClampNeg 0) a0 16)], sm_putI (sm_putI M b_10 (x5).toNatClampNeg 0) b_25 (x5).toNatClampNeg 0)) sm_a174_201 rfl rfl rfl ?_
            refine ru_go (t := (204, [some (.inr (some a0)), some (.inl x1), some (.inl x2), some (.inl x3), some (.inl x4), some (.inl x5), some (.inl x6), z7], [.inl x2, .inl x5, .inr (sm_R (sm_putI (sm_putI M b_10 (x5).toNatClampNeg 0) b_25 (x5).toNatClampNeg 0) a0 16)], sm_putI (sm_putI M b_10 (x5).toNatClampNeg 0) b_25 (x5).toNatClampNeg 0)) sm_a174_203 rfl rfl rfl ?_
            refine ru_go (t := (207, [some (.inr (some a0)), some (.inl x1), some (.inl x2), some (.inl x3), some (.inl x4), some (.inl x5), some (.inl x6), z7], [.inl 513, .inl x2, .inl x5, .inr (sm_R (sm_putI (sm_putI M b_10 (x5).toNatClampNeg 0) b_25 (x5).toNatClampNeg 0) a0 16)], sm_putI (sm_putI M b_10 (x5).toNatClampNeg 0) b_25 (x5).toNatClampNeg 0)) sm_a174_204 rfl rfl (st_sipush (by decide)) ?_
            refine ru_icmp (pc := 207) (p := 214) (p2 := 210) sm_a174_207 (by decide) rfl ⟨fun hc => absurd hc hc_14, fun _ => ?_⟩
            refine ru_go (t := (211, [some (.inr (some a0)), some (.inl x1), some (.inl x2), some (.inl x3), some (.inl x4), some (.inl x5), some (.inl x6), z7], [.inl (-1), .inl x5, .inr (sm_R (sm_putI (sm_putI M b_10 (x5).toNatClampNeg 0) b_25 (x5).toNatClampNeg 0) a0 16)], sm_putI (sm_putI M b_10 (x5).toNatClampNeg 0) b_25 (x5).toNatClampNeg 0)) sm_a174_210 rfl rfl (st_iconst (by decide)) ?_
            refine ru_go (t := (221, [some (.inr (some a0)), some (.inl x1), some (.inl x2), some (.inl x3), some (.inl x4), some (.inl x5), some (.inl x6), z7], [.inl (-1), .inl x5, .inr (sm_R (sm_putI (sm_putI M b_10 (x5).toNatClampNeg 0) b_25 (x5).toNatClampNeg 0) a0 16)], sm_putI (sm_putI M b_10 (x5).toNatClampNeg 0) b_25 (x5).toNatClampNeg 0)) sm_a174_211 rfl rfl (st_goto (pc := 211) (by decide)) ?_
            obtain ⟨b_29, hb_30, h⟩ := h
            rw [hb_30]
            obtain ⟨h_31, h⟩ := h
            obtain ⟨h_32, h⟩ := h
            refine ru_go (t := (222, [some (.inr (some a0)), some (.inl x1), some (.inl x2), some (.inl x3), some (.inl x4), some (.inl x5), some (.inl x6), z7], [], sm_putI (sm_putI (sm_putI M b_10 (x5).toNatClampNeg 0) b_25 (x5).toNatClampNeg 0) b_29 (x5).toNatClampNeg (-1))) sm_a174_221 rfl rfl (st_iast h_31 h_32) ?_
            refine ru_go (t := (228, [some (.inr (some a0)), some (.inl x1), some (.inl x2), some (.inl x3), some (.inl x4), some (.inl x5), some (.inl x6), z7], [], sm_putI (sm_putI (sm_putI M b_10 (x5).toNatClampNeg 0) b_25 (x5).toNatClampNeg 0) b_29 (x5).toNatClampNeg (-1))) sm_a174_222 rfl rfl (st_goto (pc := 222) (by decide)) ?_
            exact h
        · have h := h.2 hc_9
          refine ru_go (t := (167, [some (.inr (some a0)), some (.inl x1), some (.inl x2), some (.inl x3), some (.inl x4), some (.inl x5), some (.inl x6), z7], [.inl 1, .inl x5, .inr (sm_R M a0 14)], M)) sm_a174_166 rfl rfl (st_iconst (by decide)) ?_
          refine ru_go (t := (171, [some (.inr (some a0)), some (.inl x1), some (.inl x2), some (.inl x3), some (.inl x4), some (.inl x5), some (.inl x6), z7], [.inl 1, .inl x5, .inr (sm_R M a0 14)], M)) sm_a174_167 rfl rfl (st_goto (pc := 167) (by decide)) ?_
          obtain ⟨b_33, hb_34, h⟩ := h
          rw [hb_34]
          obtain ⟨h_35, h⟩ := h
          obtain ⟨h_36, h⟩ := h
          refine ru_go (t := (172, [some (.inr (some a0)), some (.inl x1), some (.inl x2), some (.inl x3), some (.inl x4), some (.inl x5), some (.inl x6), z7], [], sm_putI M b_33 (x5).toNatClampNeg 1)) sm_a174_171 rfl rfl (st_zast h_35 h_36 (by decide)) ?_
          refine ru_go (t := (173, [some (.inr (some a0)), some (.inl x1), some (.inl x2), some (.inl x3), some (.inl x4), some (.inl x5), some (.inl x6), z7], [.inr (some a0)], sm_putI M b_33 (x5).toNatClampNeg 1)) sm_a174_172 rfl rfl rfl ?_
          refine ru_go (t := (176, [some (.inr (some a0)), some (.inl x1), some (.inl x2), some (.inl x3), some (.inl x4), some (.inl x5), some (.inl x6), z7], [.inr (sm_R (sm_putI M b_33 (x5).toNatClampNeg 1) a0 13)], sm_putI M b_33 (x5).toNatClampNeg 1)) sm_a174_173 rfl rfl (st_getR h_3 rfl rfl) ?_
          refine ru_go (t := (178, [some (.inr (some a0)), some (.inl x1), some (.inl x2), some (.inl x3), some (.inl x4), some (.inl x5), some (.inl x6), z7], [.inl x5, .inr (sm_R (sm_putI M b_33 (x5).toNatClampNeg 1) a0 13)], sm_putI M b_33 (x5).toNatClampNeg 1)) sm_a174_176 rfl rfl rfl ?_
          refine ru_go (t := (179, [some (.inr (some a0)), some (.inl x1), some (.inl x2), some (.inl x3), some (.inl x4), some (.inl x5), some (.inl x6), z7], [.inl x2, .inl x5, .inr (sm_R (sm_putI M b_33 (x5).toNatClampNeg 1) a0 13)], sm_putI M b_33 (x5).toNatClampNeg 1)) sm_a174_178 rfl rfl rfl ?_
          refine ru_go (t := (182, [some (.inr (some a0)), some (.inl x1), some (.inl x2), some (.inl x3), some (.inl x4), some (.inl x5), some (.inl x6), z7], [.inl 513, .inl x2, .inl x5, .inr (sm_R (sm_putI M b_33 (x5).toNatClampNeg 1) a0 13)], sm_putI M b_33 (x5).toNatClampNeg 1)) sm_a174_179 rfl rfl (st_sipush (by decide)) ?_
          refine ru_icmp (pc := 182) (p := 189) (p2 := 185) sm_a174_182 (by decide) rfl ⟨fun hc_37 => ?_, fun hc_37 => ?_⟩
          · have h := h.1 hc_37
            refine ru_go (t := (190, [some (.inr (some a0)), some (.inl x1), some (.inl x2), some (.inl x3), some (.inl x4), some (.inl x5), some (.inl x6), z7], [.inr (some a0), .inl x5, .inr (sm_R (sm_putI M b_33 (x5).toNatClampNeg 1) a0 13)], sm_putI M b_33 (x5).toNatClampNeg 1)) sm_a174_189 rfl rfl rfl ?_
            refine ru_go (t := (193, [some (.inr (some a0)), some (.inl x1), some (.inl x2), some (.inl x3), some (.inl x4), some (.inl x5), some (.inl x6), z7], [.inr (sm_R (sm_putI M b_33 (x5).toNatClampNeg 1) a0 13), .inl x5, .inr (sm_R (sm_putI M b_33 (x5).toNatClampNeg 1) a0 13)], sm_putI M b_33 (x5).toNatClampNeg 1)) sm_a174_190 rfl rfl (st_getR h_3 rfl rfl) ?_
            refine ru_go (t := (195, [some (.inr (some a0)), some (.inl x1), some (.inl x2), some (.inl x3), some (.inl x4), some (.inl x5), some (.inl x6), z7], [.inl x5, .inr (sm_R (sm_putI M b_33 (x5).toNatClampNeg 1) a0 13), .inl x5, .inr (sm_R (sm_putI M b_33 (x5).toNatClampNeg 1) a0 13)], sm_putI M b_33 (x5).toNatClampNeg 1)) sm_a174_193 rfl rfl rfl ?_
            obtain ⟨b_38, hb_39, h⟩ := h
            rw [hb_39]
            obtain ⟨h_40, h⟩ := h
            obtain ⟨h_41, h⟩ := h
            refine ru_go (t := (196, [some (.inr (some a0)), some (.inl x1), some (.inl x2), some (.inl x3), some (.inl x4), some (.inl x5), some (.inl x6), z7], [.inl (sm_I (sm_putI M b_33 (x5).toNatClampNeg 1) b_38 (x5).toNatClampNeg), .inl x5, .inr (some b_38)], sm_putI M b_33 (x5).toNatClampNeg 1)) sm_a174_195 rfl rfl (st_iald h_40 h_41) ?_
            obtain ⟨h_42, h⟩ := h
            refine ru_go (t := (197, [some (.inr (some a0)), some (.inl x1), some (.inl x2), some (.inl x3), some (.inl x4), some (.inl x5), some (.inl x6), z7], [], sm_putI (sm_putI M b_33 (x5).toNatClampNeg 1) b_38 (x5).toNatClampNeg (sm_I (sm_putI M b_33 (x5).toNatClampNeg 1) b_38 (x5).toNatClampNeg))) sm_a174_196 rfl rfl (st_iast h_42 h_41) ?_
            refine ru_go (t := (198, [some (.inr (some a0)), some (.inl x1), some (.inl x2), some (.inl x3), some (.inl x4), some (.inl x5), some (.inl x6), z7], [.inr (some a0)], sm_putI (sm_putI M b_33 (x5).toNatClampNeg 1) b_38 (x5).toNatClampNeg (sm_I (sm_putI M b_33 (x5).toNatClampNeg 1) b_38 (x5).toNatClampNeg))) sm_a174_197 rfl rfl rfl ?_
            refine ru_go (t := (201, [some (.inr (some a0)), some (.inl x1), some (.inl x2), some (.inl x3), some (.inl x4), some (.inl x5), some (.inl x6), z7], [.inr (sm_R (sm_putI (sm_putI M b_33 (x5).toNatClampNeg 1) b_38 (x5).toNatClampNeg (sm_I (sm_putI M b_33 (x5).toNatClampNeg 1) b_38 (x5).toNatClampNeg)) a0 16)], sm_putI (sm_putI M b_33 (x5).toNatClampNeg 1) b_38 (x5).toNatClampNeg (sm_I (sm_putI M b_33 (x5).toNatClampNeg 1) b_38 (x5).toNatClampNeg))) sm_a174_198 rfl rfl (st_getR h_3 rfl rfl) ?_
            refine ru_go (t := (203, [some (.inr (some a0)), some (.inl x1), some (.inl x2), some (.inl x3), some (.inl x4), some (.inl x5), some (.inl x6), z7], [.inl x5, .inr (sm_R (sm_putI (sm_putI M b_33 (x5).toNatClampNeg 1) b_38 (x5).toNatClampNeg (sm_I (sm_putI M b_33 (x5).toNatClampNeg 1) b_38 (x5).toNatClampNeg)) a0 16)], sm_putI (sm_putI M b_33 (x5).toNatClampNeg 1) b_38 (x5).toNatClampNeg (sm_I (sm_putI M b_33 (x5).toNatClampNeg 1) b_38 (x5).toNatClampNeg))) sm_a174_201 rfl rfl rfl ?_
            refine ru_go (t := (204, [some (.inr (some a0)), some (.inl x1), some (.inl x2), some (.inl x3), some (.inl x4), some (.inl x5), some (.inl x6), z7], [.inl x2, .inl x5, .inr (sm_R (sm_putI (sm_putI M b_33 (x5).toNatClampNeg 1) b_38 (x5).toNatClampNeg (sm_I (sm_putI M b_33 (x5).toNatClampNeg 1) b_38 (x5).toNatClampNeg)) a0 16)], sm_putI (sm_putI M b_33 (x5).toNatClampNeg 1) b_38 (x5).toNatClampNeg (sm_I (sm_putI M b_33 (x5).toNatClampNeg 1) b_38 (x5).toNatClampNeg))) sm_a174_203 rfl rfl rfl ?_
            refine ru_go (t := (207, [some (.inr (some a0)), some (.inl x1), some (.inl x2), some (.inl x3), some (.inl x4), some (.inl x5), some (.inl x6), z7], [.inl 513, .inl x2, .inl x5, .inr (sm_R (sm_putI (sm_putI M b_33 (x5).toNatClampNeg 1) b_38 (x5).toNatClampNeg (sm_I (sm_putI M b_33 (x5).toNatClampNeg 1) b_38 (x5).toNatClampNeg)) a0 16)], sm_putI (sm_putI M b_33 (x5).toNatClampNeg 1) b_38 (x5).toNatClampNeg (sm_I (sm_putI M b_33 (x5).toNatClampNeg 1) b_38 (x5).toNatClampNeg))) sm_a174_204 rfl rfl (st_sipush (by decide)) ?_
            refine ru_icmp (pc := 207) (p := 214) (p2 := 210) sm_a174_207 (by decide) rfl ⟨fun _ => ?_, fun hc => absurd hc_37 hc⟩
            refine ru_go (t := (215, [some (.inr (some a0)), some (.inl x1), some (.inl x2), some (.inl x3), some (.inl x4), some (.inl x5), some (.inl x6), z7], [.inr (some a0), .inl x5, .inr (sm_R (sm_putI (sm_putI M b_33 (x5).toNatClampNeg 1) b_38 (x5).toNatClampNeg (sm_I (sm_putI M b_33 (x5).toNatClampNeg 1) b_38 (x5).toNatClampNeg)) a0 16)], sm_putI (sm_putI M b_33 (x5).toNatClampNeg 1) b_38 (x5).toNatClampNeg (sm_I (sm_putI M b_33 (x5).toNatClampNeg 1) b_38 (x5).toNatClampNeg))) sm_a174_214 rfl rfl rfl ?_
            refine ru_go (t := (218, [some (.inr (some a0)), some (.inl x1), some (.inl x2), some (.inl x3), some (.inl x4), some (.inl x5), some (.inl x6), z7], [.inr (sm_R (sm_putI (sm_putI M b_33 (x5).toNatClampNeg 1) b_38 (x5).toNatClampNeg (sm_I (sm_putI M b_33 (x5).toNatClampNeg 1) b_38 (x5).toNatClampNeg)) a0 16), .inl x5, .inr (sm_R (sm_putI (sm_putI M b_33 (x5).toNatClampNeg 1) b_38 (x5).toNatClampNeg (sm_I (sm_putI M b_33 (x5).toNatClampNeg 1) b_38 (x5).toNatClampNeg)) a0 16)], sm_putI (sm_putI M b_33 (x5).toNatClampNeg 1) b_38 (x5).toNatClampNeg (sm_I (sm_putI M b_33 (x5).toNatClampNeg 1) b_38 (x5).toNatClampNeg))) sm_a174_215 rfl rfl (st_getR h_3 rfl rfl) ?_
            refine ru_go (t := (220, [some (.inr (some a0)), some (.inl x1), some (.inl x2), some (.inl x3), some (.inl x4), some (.inl x5), some (.inl x6), z7], [.inl x5, .inr (sm_R (sm_putI (sm_putI M b_33 (x5).toNatClampNeg 1) b_38 (x5).toNatClampNeg (sm_I (sm_putI M b_33 (x5).toNatClampNeg 1) b_38 (x5).toNatClampNeg)) a0 16), .inl x5, .inr (sm_R (sm_putI (sm_putI M b_33 (x5).toNatClampNeg 1) b_38 (x5).toNatClampNeg (sm_I (sm_putI M b_33 (x5).toNatClampNeg 1) b_38 (x5).toNatClampNeg)) a0 16)], sm_putI (sm_putI M b_33 (x5).toNatClampNeg 1) b_38 (x5).toNatClampNeg (sm_I (sm_putI M b_33 (x5).toNatClampNeg 1) b_38 (x5).toNatClampNeg))) sm_a174_218 rfl rfl rfl ?_
            obtain ⟨b_43, hb_44, h⟩ := h
            rw [hb_44]
            obtain ⟨h_45, h⟩ := h
            obtain ⟨h_46, h⟩ := h
            refine ru_go (t := (221, [some (.inr (some a0)), some (.inl x1), some (.inl x2), some (.inl x3), some (.inl x4), some (.inl x5), some (.inl x6), z7], [.inl (sm_I (sm_putI (sm_putI M b_33 (x5).toNatClampNeg 1) b_38 (x5).toNatClampNeg (sm_I (sm_putI M b_33 (x5).toNatClampNeg 1) b_38 (x5).toNatClampNeg)) b_43 (x5).toNatClampNeg), .inl x5, .inr (some b_43)], sm_putI (sm_putI M b_33 (x5).toNatClampNeg 1) b_38 (x5).toNatClampNeg (sm_I (sm_putI M b_33 (x5).toNatClampNeg 1) b_38 (x5).toNatClampNeg))) sm_a174_220 rfl rfl (st_iald h_45 h_46) ?_
            obtain ⟨h_47, h⟩ := h
            refine ru_go (t := (222, [some (.inr (some a0)), some (.inl x1), some (.inl x2), some (.inl x3), some (.inl x4), some (.inl x5), some (.inl x6), z7], [], sm_putI (sm_putI (sm_putI M b_33 (x5).toNatClampNeg 1) b_38 (x5).toNatClampNeg (sm_I (sm_putI M b_33 (x5).toNatClampNeg 1) b_38 (x5).toNatClampNeg)) b_43 (x5).toNatClampNeg (sm_I (sm_putI (sm_putI M b_33 (x5).toNatClampNeg 1) b_38 (x5).toNatClampNeg (sm_I (sm_putI M b_33 (x5).toNatClampNeg 1) b_38 (x5).toNatClampNeg)) b_43 (x5).toNatClampNeg))) sm_a174_221 rfl rfl (st_iast h_47 h_46) ?_
            refine ru_go (t := (228, [some (.inr (some a0)), some (.inl x1), some (.inl x2), some (.inl x3), some (.inl x4), some (.inl x5), some (.inl x6), z7], [], sm_putI (sm_putI (sm_putI M b_33 (x5).toNatClampNeg 1) b_38 (x5).toNatClampNeg (sm_I (sm_putI M b_33 (x5).toNatClampNeg 1) b_38 (x5).toNatClampNeg)) b_43 (x5).toNatClampNeg (sm_I (sm_putI (sm_putI M b_33 (x5).toNatClampNeg 1) b_38 (x5).toNatClampNeg (sm_I (sm_putI M b_33 (x5).toNatClampNeg 1) b_38 (x5).toNatClampNeg)) b_43 (x5).toNatClampNeg))) sm_a174_222 rfl rfl (st_goto (pc := 222) (by decide)) ?_
            exact h
          · have h := h.2 hc_37
            refine ru_go (t := (186, [some (.inr (some a0)), some (.inl x1), some (.inl x2), some (.inl x3), some (.inl x4), some (.inl x5), some (.inl x6), z7], [.inl 0, .inl x5, .inr (sm_R (sm_putI M b_33 (x5).toNatClampNeg 1) a0 13)], sm_putI M b_33 (x5).toNatClampNeg 1)) sm_a174_185 rfl rfl (st_iconst (by decide)) ?_
            refine ru_go (t := (196, [some (.inr (some a0)), some (.inl x1), some (.inl x2), some (.inl x3), some (.inl x4), some (.inl x5), some (.inl x6), z7], [.inl 0, .inl x5, .inr (sm_R (sm_putI M b_33 (x5).toNatClampNeg 1) a0 13)], sm_putI M b_33 (x5).toNatClampNeg 1)) sm_a174_186 rfl rfl (st_goto (pc := 186) (by decide)) ?_
            obtain ⟨b_48, hb_49, h⟩ := h
            rw [hb_49]
            obtain ⟨h_50, h⟩ := h
            obtain ⟨h_51, h⟩ := h
            refine ru_go (t := (197, [some (.inr (some a0)), some (.inl x1), some (.inl x2), some (.inl x3), some (.inl x4), some (.inl x5), some (.inl x6), z7], [], sm_putI (sm_putI M b_33 (x5).toNatClampNeg 1) b_48 (x5).toNatClampNeg 0)) sm_a174_196 rfl rfl (st_iast h_50 h_51) ?_
            refine ru_go (t := (198, [some (.inr (some a0)), some (.inl x1), some (.inl x2), some (.inl x3), some (.inl x4), some (.inl x5), some (.inl x6), z7], [.inr (some a0)], sm_putI (sm_putI M b_33 (x5).toNatClampNeg 1) b_48 (x5).toNatClampNeg 0)) sm_a174_197 rfl rfl rfl ?_
            refine ru_go (t := (201, [some (.inr (some a0)), some (.inl x1), some (.inl x2), some (.inl x3), some (.inl x4), some (.inl x5), some (.inl x6), z7], [.inr (sm_R (sm_putI (sm_putI M b_33 (x5).toNatClampNeg 1) b_48 (x5).toNatClampNeg 0) a0 16)], sm_putI (sm_putI M b_33 (x5).toNatClampNeg 1) b_48 (x5).toNatClampNeg 0)) sm_a174_198 rfl rfl (st_getR h_3 rfl rfl) ?_
            refine ru_go (t := (203, [some (.inr (some a0)), some (.inl x1), some (.inl x2), some (.inl x3), some (.inl x4), some (.inl x5), some (.inl x6), z7], [.inl x5, .inr (sm_R (sm_putI (sm_putI M b_33 (x5).toNatClampNeg 1) b_48 (x5).toNatClampNeg 0) a0 16)], sm_putI (sm_putI M b_33 (x5).toNatClampNeg 1) b_48 (x5).toNatClampNeg 0)) sm_a174_201 rfl rfl rfl ?_
            refine ru_go (t := (204, [some (.inr (some a0)), some (.inl x1), some (.inl x2), some (.inl x3), some (.inl x4), some (.inl x5), some (.inl x6), z7], [.inl x2, .inl x5, .inr (sm_R (sm_putI (sm_putI M b_33 (x5).toNatClampNeg 1) b_48 (x5).toNatClampNeg 0) a0 16)], sm_putI (sm_putI M b_33 (x5).toNatClampNeg 1) b_48 (x5).toNatClampNeg 0)) sm_a174_203 rfl rfl rfl ?_
            refine ru_go (t := (207, [some (.inr (some a0)), some (.inl x1), some (.inl x2), some (.inl x3), some (.inl x4), some (.inl x5), some (.inl x6), z7], [.inl 513, .inl x2, .inl x5, .inr (sm_R (sm_putI (sm_putI M b_33 (x5).toNatClampNeg 1) b_48 (x5).toNatClampNeg 0) a0 16)], sm_putI (sm_putI M b_33 (x5).toNatClampNeg 1) b_48 (x5).toNatClampNeg 0)) sm_a174_204 rfl rfl (st_sipush (by decide)) ?_
            refine ru_icmp (pc := 207) (p := 214) (p2 := 210) sm_a174_207 (by decide) rfl ⟨fun hc => absurd hc hc_37, fun _ => ?_⟩
            refine ru_go (t := (211, [some (.inr (some a0)), some (.inl x1), some (.inl x2), some (.inl x3), some (.inl x4), some (.inl x5), some (.inl x6), z7], [.inl (-1), .inl x5, .inr (sm_R (sm_putI (sm_putI M b_33 (x5).toNatClampNeg 1) b_48 (x5).toNatClampNeg 0) a0 16)], sm_putI (sm_putI M b_33 (x5).toNatClampNeg 1) b_48 (x5).toNatClampNeg 0)) sm_a174_210 rfl rfl (st_iconst (by decide)) ?_
            refine ru_go (t := (221, [some (.inr (some a0)), some (.inl x1), some (.inl x2), some (.inl x3), some (.inl x4), some (.inl x5), some (.inl x6), z7], [.inl (-1), .inl x5, .inr (sm_R (sm_putI (sm_putI M b_33 (x5).toNatClampNeg 1) b_48 (x5).toNatClampNeg 0) a0 16)], sm_putI (sm_putI M b_33 (x5).toNatClampNeg 1) b_48 (x5).toNatClampNeg 0)) sm_a174_211 rfl rfl (st_goto (pc := 211) (by decide)) ?_
            obtain ⟨b_52, hb_53, h⟩ := h
            rw [hb_53]
            obtain ⟨h_54, h⟩ := h
            obtain ⟨h_55, h⟩ := h
            refine ru_go (t := (222, [some (.inr (some a0)), some (.inl x1), some (.inl x2), some (.inl x3), some (.inl x4), some (.inl x5), some (.inl x6), z7], [], sm_putI (sm_putI (sm_putI M b_33 (x5).toNatClampNeg 1) b_48 (x5).toNatClampNeg 0) b_52 (x5).toNatClampNeg (-1))) sm_a174_221 rfl rfl (st_iast h_54 h_55) ?_
            refine ru_go (t := (228, [some (.inr (some a0)), some (.inl x1), some (.inl x2), some (.inl x3), some (.inl x4), some (.inl x5), some (.inl x6), z7], [], sm_putI (sm_putI (sm_putI M b_33 (x5).toNatClampNeg 1) b_48 (x5).toNatClampNeg 0) b_52 (x5).toNatClampNeg (-1))) sm_a174_222 rfl rfl (st_goto (pc := 222) (by decide)) ?_
            exact h
theorem bb_174_225 {d : Nat} {M : sm_M} {Q : Option sm_V → sm_M → Prop} {a0 : Nat} {x1 : Int32} {x2 : Int32} {x3 : Int32} {x4 : Int32} {x5 : Int32} {x6 : Int32} {z7 : Option sm_V}
    (h : sm_Run (d + 1) 174 228 [some (.inr (some a0)), some (.inl x1), some (.inl x2), some (.inl x3), some (.inl x4), some (.inl x5), some (.inl 0), z7] [] M Q) :
    sm_Run (d + 1) 174 225 [some (.inr (some a0)), some (.inl x1), some (.inl x2), some (.inl x3), some (.inl x4), some (.inl x5), some (.inl x6), z7] [] M Q := by
  refine ru_go (t := (226, [some (.inr (some a0)), some (.inl x1), some (.inl x2), some (.inl x3), some (.inl x4), some (.inl x5), some (.inl x6), z7], [.inl 0], M)) sm_a174_225 rfl rfl (st_iconst (by decide)) ?_
  refine ru_go (t := (228, [some (.inr (some a0)), some (.inl x1), some (.inl x2), some (.inl x3), some (.inl x4), some (.inl x5), some (.inl 0), z7], [], M)) sm_a174_226 rfl rfl rfl ?_
  exact h
theorem bb_174_228 {d : Nat} {M : sm_M} {Q : Option sm_V → sm_M → Prop} {a0 : Nat} {x1 : Int32} {x2 : Int32} {x3 : Int32} {x4 : Int32} {x5 : Int32} {x6 : Int32} {z7 : Option sm_V}
    (h : sm_K M a0 = 39 ∧ ((x6 = 0 → ∃ b_3, sm_R M a0 21 = some b_3 ∧ sm_wA 1 M b_3 ∧ sm_in_ M b_3 x1 ∧ Q none (sm_putI M b_3 (x1).toNatClampNeg 1)) ∧ (¬ (x6 = 0) → ∃ b_7, sm_R M a0 21 = some b_7 ∧ sm_wA 1 M b_7 ∧ sm_in_ M b_7 x1 ∧ Q none (sm_putI M b_7 (x1).toNatClampNeg 4)))) :
    sm_Run (d + 1) 174 228 [some (.inr (some a0)), some (.inl x1), some (.inl x2), some (.inl x3), some (.inl x4), some (.inl x5), some (.inl x6), z7] [] M Q := by
  refine ru_go (t := (229, [some (.inr (some a0)), some (.inl x1), some (.inl x2), some (.inl x3), some (.inl x4), some (.inl x5), some (.inl x6), z7], [.inr (some a0)], M)) sm_a174_228 rfl rfl rfl ?_
  obtain ⟨h_1, h⟩ := h
  refine ru_go (t := (232, [some (.inr (some a0)), some (.inl x1), some (.inl x2), some (.inl x3), some (.inl x4), some (.inl x5), some (.inl x6), z7], [.inr (sm_R M a0 21)], M)) sm_a174_229 rfl rfl (st_getR h_1 rfl rfl) ?_
  refine ru_go (t := (233, [some (.inr (some a0)), some (.inl x1), some (.inl x2), some (.inl x3), some (.inl x4), some (.inl x5), some (.inl x6), z7], [.inl x1, .inr (sm_R M a0 21)], M)) sm_a174_232 rfl rfl rfl ?_
  refine ru_go (t := (235, [some (.inr (some a0)), some (.inl x1), some (.inl x2), some (.inl x3), some (.inl x4), some (.inl x5), some (.inl x6), z7], [.inl x6, .inl x1, .inr (sm_R M a0 21)], M)) sm_a174_233 rfl rfl rfl ?_
  refine ru_if (pc := 235) (p := 242) (p2 := 238) sm_a174_235 (by decide) rfl ⟨fun hc_2 => ?_, fun hc_2 => ?_⟩
  · have h := h.1 hc_2
    refine ru_go (t := (243, [some (.inr (some a0)), some (.inl x1), some (.inl x2), some (.inl x3), some (.inl x4), some (.inl x5), some (.inl x6), z7], [.inl 1, .inl x1, .inr (sm_R M a0 21)], M)) sm_a174_242 rfl rfl (st_iconst (by decide)) ?_
    obtain ⟨b_3, hb_4, h⟩ := h
    rw [hb_4]
    obtain ⟨h_5, h⟩ := h
    obtain ⟨h_6, h⟩ := h
    refine ru_go (t := (244, [some (.inr (some a0)), some (.inl x1), some (.inl x2), some (.inl x3), some (.inl x4), some (.inl x5), some (.inl x6), z7], [], sm_putI M b_3 (x1).toNatClampNeg 1)) sm_a174_243 rfl rfl (st_iast h_5 h_6) ?_
    exact ru_ret sm_a174_244 (sm_rvv rfl) h
  · have h := h.2 hc_2
    refine ru_go (t := (239, [some (.inr (some a0)), some (.inl x1), some (.inl x2), some (.inl x3), some (.inl x4), some (.inl x5), some (.inl x6), z7], [.inl 4, .inl x1, .inr (sm_R M a0 21)], M)) sm_a174_238 rfl rfl (st_iconst (by decide)) ?_
    refine ru_go (t := (243, [some (.inr (some a0)), some (.inl x1), some (.inl x2), some (.inl x3), some (.inl x4), some (.inl x5), some (.inl x6), z7], [.inl 4, .inl x1, .inr (sm_R M a0 21)], M)) sm_a174_239 rfl rfl (st_goto (pc := 239) (by decide)) ?_
    obtain ⟨b_7, hb_8, h⟩ := h
    rw [hb_8]
    obtain ⟨h_9, h⟩ := h
    obtain ⟨h_10, h⟩ := h
    refine ru_go (t := (244, [some (.inr (some a0)), some (.inl x1), some (.inl x2), some (.inl x3), some (.inl x4), some (.inl x5), some (.inl x6), z7], [], sm_putI M b_7 (x1).toNatClampNeg 4)) sm_a174_243 rfl rfl (st_iast h_9 h_10) ?_
    exact ru_ret sm_a174_244 (sm_rvv rfl) h

/-! WireBusModel.newTransfer:(III)I -/
theorem sm_a175_0 : sm_at 175 0 = some (.aload_n 0, 1, (0, 0, 0, 0)) := by decide +kernel
theorem sm_a175_1 : sm_at 175 1 = some (.getfield 332, 3, (12, 70, 0, 1253)) := by decide +kernel
theorem sm_a175_4 : sm_at 175 4 = some (.istore 4, 2, (0, 0, 0, 0)) := by decide +kernel
theorem sm_a175_6 : sm_at 175 6 = some (.aload_n 0, 1, (0, 0, 0, 0)) := by decide +kernel
theorem sm_a175_7 : sm_at 175 7 = some (.dup, 1, (0, 0, 0, 0)) := by decide +kernel
theorem sm_a175_8 : sm_at 175 8 = some (.getfield 332, 3, (12, 70, 0, 1253)) := by decide +kernel
theorem sm_a175_11 : sm_at 175 11 = some (.iconst 1, 1, (0, 0, 0, 0)) := by decide +kernel
theorem sm_a175_12 : sm_at 175 12 = some (.iadd, 1, (0, 0, 0, 0)) := by decide +kernel
theorem sm_a175_13 : sm_at 175 13 = some (.putfield 332, 3, (12, 70, 0, 1253)) := by decide +kernel
theorem sm_a175_16 : sm_at 175 16 = some (.aload_n 0, 1, (0, 0, 0, 0)) := by decide +kernel
theorem sm_a175_17 : sm_at 175 17 = some (.getfield 185, 3, (12, 71, 0, 1254)) := by decide +kernel
theorem sm_a175_20 : sm_at 175 20 = some (.iload 4, 2, (0, 0, 0, 0)) := by decide +kernel
theorem sm_a175_22 : sm_at 175 22 = some (.iload_n 1, 1, (0, 0, 0, 0)) := by decide +kernel
theorem sm_a175_23 : sm_at 175 23 = some (.iastore, 1, (1, 0, 0, 0)) := by decide +kernel
theorem sm_a175_24 : sm_at 175 24 = some (.aload_n 0, 1, (0, 0, 0, 0)) := by decide +kernel
theorem sm_a175_25 : sm_at 175 25 = some (.getfield 188, 3, (12, 72, 0, 1255)) := by decide +kernel
theorem sm_a175_28 : sm_at 175 28 = some (.iload 4, 2, (0, 0, 0, 0)) := by decide +kernel
theorem sm_a175_30 : sm_at 175 30 = some (.iload_n 2, 1, (0, 0, 0, 0)) := by decide +kernel
theorem sm_a175_31 : sm_at 175 31 = some (.iastore, 1, (1, 0, 0, 0)) := by decide +kernel
theorem sm_a175_32 : sm_at 175 32 = some (.aload_n 0, 1, (0, 0, 0, 0)) := by decide +kernel
theorem sm_a175_33 : sm_at 175 33 = some (.getfield 191, 3, (12, 73, 0, 1256)) := by decide +kernel
theorem sm_a175_36 : sm_at 175 36 = some (.iload 4, 2, (0, 0, 0, 0)) := by decide +kernel
theorem sm_a175_38 : sm_at 175 38 = some (.iconst 0, 1, (0, 0, 0, 0)) := by decide +kernel
theorem sm_a175_39 : sm_at 175 39 = some (.iastore, 1, (1, 0, 0, 0)) := by decide +kernel
theorem sm_a175_40 : sm_at 175 40 = some (.aload_n 0, 1, (0, 0, 0, 0)) := by decide +kernel
theorem sm_a175_41 : sm_at 175 41 = some (.getfield 194, 3, (12, 74, 0, 1257)) := by decide +kernel
theorem sm_a175_44 : sm_at 175 44 = some (.iload 4, 2, (0, 0, 0, 0)) := by decide +kernel
theorem sm_a175_46 : sm_at 175 46 = some (.iconst 0, 1, (0, 0, 0, 0)) := by decide +kernel
theorem sm_a175_47 : sm_at 175 47 = some (.iastore, 1, (1, 0, 0, 0)) := by decide +kernel
theorem sm_a175_48 : sm_at 175 48 = some (.aload_n 0, 1, (0, 0, 0, 0)) := by decide +kernel
theorem sm_a175_49 : sm_at 175 49 = some (.getfield 197, 3, (12, 75, 0, 1258)) := by decide +kernel
theorem sm_a175_52 : sm_at 175 52 = some (.iload 4, 2, (0, 0, 0, 0)) := by decide +kernel
theorem sm_a175_54 : sm_at 175 54 = some (.iload_n 3, 1, (0, 0, 0, 0)) := by decide +kernel
theorem sm_a175_55 : sm_at 175 55 = some (.iastore, 1, (1, 0, 0, 0)) := by decide +kernel
theorem sm_a175_56 : sm_at 175 56 = some (.aload_n 0, 1, (0, 0, 0, 0)) := by decide +kernel
theorem sm_a175_57 : sm_at 175 57 = some (.getfield 200, 3, (12, 76, 0, 1259)) := by decide +kernel
theorem sm_a175_60 : sm_at 175 60 = some (.iload 4, 2, (0, 0, 0, 0)) := by decide +kernel
theorem sm_a175_62 : sm_at 175 62 = some (.iconst 0, 1, (0, 0, 0, 0)) := by decide +kernel
theorem sm_a175_63 : sm_at 175 63 = some (.iastore, 1, (1, 0, 0, 0)) := by decide +kernel
theorem sm_a175_64 : sm_at 175 64 = some (.aload_n 0, 1, (0, 0, 0, 0)) := by decide +kernel
theorem sm_a175_65 : sm_at 175 65 = some (.getfield 203, 3, (12, 77, 0, 1260)) := by decide +kernel
theorem sm_a175_68 : sm_at 175 68 = some (.iload 4, 2, (0, 0, 0, 0)) := by decide +kernel
theorem sm_a175_70 : sm_at 175 70 = some (.iconst 0, 1, (0, 0, 0, 0)) := by decide +kernel
theorem sm_a175_71 : sm_at 175 71 = some (.iastore, 1, (1, 0, 0, 0)) := by decide +kernel
theorem sm_a175_72 : sm_at 175 72 = some (.aload_n 0, 1, (0, 0, 0, 0)) := by decide +kernel
theorem sm_a175_73 : sm_at 175 73 = some (.getfield 206, 3, (12, 78, 0, 1261)) := by decide +kernel
theorem sm_a175_76 : sm_at 175 76 = some (.iload 4, 2, (0, 0, 0, 0)) := by decide +kernel
theorem sm_a175_78 : sm_at 175 78 = some (.iconst 0, 1, (0, 0, 0, 0)) := by decide +kernel
theorem sm_a175_79 : sm_at 175 79 = some (.iastore, 1, (1, 0, 0, 0)) := by decide +kernel
theorem sm_a175_80 : sm_at 175 80 = some (.aload_n 0, 1, (0, 0, 0, 0)) := by decide +kernel
theorem sm_a175_81 : sm_at 175 81 = some (.getfield 209, 3, (12, 79, 0, 1262)) := by decide +kernel
theorem sm_a175_84 : sm_at 175 84 = some (.iload 4, 2, (0, 0, 0, 0)) := by decide +kernel
theorem sm_a175_86 : sm_at 175 86 = some (.iconst 0, 1, (0, 0, 0, 0)) := by decide +kernel
theorem sm_a175_87 : sm_at 175 87 = some (.bastore, 1, (1, 0, 0, 0)) := by decide +kernel
theorem sm_a175_88 : sm_at 175 88 = some (.iload 4, 2, (0, 0, 0, 0)) := by decide +kernel
theorem sm_a175_90 : sm_at 175 90 = some (.ireturn, 1, (0, 0, 0, 0)) := by decide +kernel
theorem bb_175_0 {d : Nat} {M : sm_M} {Q : Option sm_V → sm_M → Prop} {a0 : Nat} {x1 : Int32} {x2 : Int32} {x3 : Int32} {z4 : Option sm_V}
    (h : sm_K M a0 = 39 ∧ ∃ b_2, sm_R (sm_putI M a0 70 ((sm_I M a0 70) + 1)) a0 71 = some b_2 ∧ sm_wA 1 M b_2 ∧ sm_in_ M b_2 (sm_I M a0 70) ∧ ∃ b_6, sm_R (sm_putI (sm_putI M a0 70 ((sm_I M a0 70) + 1)) b_2 (sm_I M a0 70).toNatClampNeg x1) a0 72 = some b_6 ∧ sm_wA 1 M b_6 ∧ sm_in_ M b_6 (sm_I M a0 70) ∧ ∃ b_10, sm_R (sm_putI (sm_putI (sm_putI M a0 70 ((sm_I M a0 70) + 1)) b_2 (sm_I M a0 70).toNatClampNeg x1) b_6 (sm_I M a0 70).toNatClampNeg x2) a0 73 = some b_10 ∧ sm_wA 1 M b_10 ∧ sm_in_ M b_10 (sm_I M a0 70) ∧ ∃ b_14, sm_R (sm_putI (sm_putI (sm_putI (sm_putI M a0 70 ((sm_I M a0 70) + 1)) b_2 (sm_I M a0 70).toNatClampNeg x1) b_6 (sm_I M a0 70).toNatClampNeg x2) b_10 (sm_I M a0 70).toNatClampNeg 0) a0 74 = some b_14 ∧ sm_wA 1 M b_14 ∧ sm_in_ M b_14 (sm_I M a0 70) ∧ ∃ b_18, sm_R (sm_putI (sm_putI (sm_putI (sm_putI (sm_putI M a0 70 ((sm_I M a0 70) + 1)) b_2 (sm_I M a0 70).toNatClampNeg x1) b_6 (sm_I M a0 70).toNatClampNeg x2) b_10 (sm_I M a0 70).toNatClampNeg 0) b_14 (sm_I M a0 70).toNatClampNeg 0) a0 75 = some b_18 ∧ sm_wA 1 M b_18 ∧ sm_in_ M b_18 (sm_I M a0 70) ∧ ∃ b_22, sm_R (sm_putI (sm_putI (sm_putI (sm_putI (sm_putI (sm_putI M a0 70 ((sm_I M a0 70) + 1)) b_2 (sm_I M a0 70).toNatClampNeg x1) b_6 (sm_I M a0 70).toNatClampNeg x2) b_10 (sm_I M a0 70).toNatClampNeg 0) b_14 (sm_I M a0 70).toNatClampNeg 0) b_18 (sm_I M a0 70).toNatClampNeg x3) a0 76 = some b_22 ∧ sm_wA 1 M b_22 ∧ sm_in_ M b_22 (sm_I M a0 70) ∧ ∃ b_26, sm_R (sm_putI (sm_putI (sm_putI (sm_putI (sm_putI (sm_putI (sm_putI M a0 70 ((sm_I M a0 70) + 1)) b_2 (sm_I M a0 70).toNatClampNeg x1) b_6 (sm_I M a0 70).toNatClampNeg x2) b_10 (sm_I M a0 70).toNatClampNeg 0) b_14 (sm_I M a0 70).toNatClampNeg 0) b_18 (sm_I M a0 70).toNatClampNeg x3) b_22 (sm_I M a0 70).toNatClampNeg 0) a0 77 = some b_26 ∧ sm_wA 1 M b_26 ∧ sm_in_ M b_26 (sm_I M a0 70) ∧ sm_Run d 175 72 [some (.inr (some a0)), some (.inl x1), some (.inl x2), some (.inl x3), some (.inl (sm_I M a0 70))] [] (sm_putI (sm_putI (sm_putI (sm_putI (sm_putI (sm_putI (sm_putI (sm_putI M a0 70 ((sm_I M a0 70) + 1)) b_2 (sm_I M a0 70).toNatClampNeg x1) b_6 (sm_I M a0 70).toNatClampNeg x2) b_10 (sm_I M a0 70).toNatClampNeg 0) b_14 (sm_I M a0 70).toNatClampNeg 0) b_18 (sm_I M a0 70).toNatClampNeg x3) b_22 (sm_I M a0 70).toNatClampNeg 0) b_26 (sm_I M a0 70).toNatClampNeg 0) Q) :
    sm_Run d 175 0 [some (.inr (some a0)), some (.inl x1), some (.inl x2), some (.inl x3), z4] [] M Q := by
  refine ru_go (t := (1, [some (.inr (some a0)), some (.inl x1), some (.inl x2), some (.inl x3), z4], [.inr (some a0)], M)) sm_a175_0 rfl rfl rfl ?_
  obtain ⟨h_1, h⟩ := h
  refine ru_go (t := (4, [some (.inr (some a0)), some (.inl x1), some (.inl x2), some (.inl x3), z4], [.inl (sm_I M a0 70)], M)) sm_a175_1 rfl rfl (st_getI h_1 rfl) ?_
  refine ru_go (t := (6, [some (.inr (some a0)), some (.inl x1), some (.inl x2), some (.inl x3), some (.inl (sm_I M a0 70))], [], M)) sm_a175_4 rfl rfl rfl ?_
  refine ru_go (t := (7, [some (.inr (some a0)), some (.inl x1), some (.inl x2), some (.inl x3), some (.inl (sm_I M a0 70))], [.inr (some a0)], M)) sm_a175_6 rfl rfl rfl ?_
  refine ru_go (t := (8, [some (.inr (some a0)), some (.inl x1), some (.inl x2), some (.inl x3), some (.inl (sm_I M a0 70))], [.inr (some a0), .inr (some a0)], M)) sm_a175_7 rfl rfl rfl ?_
  refine ru_go (t := (11, [some (.inr (some a0)), some (.inl x1), some (.inl x2), some (.inl x3), some (.inl (sm_I M a0 70))], [.inl (sm_I M a0 70), .inr (some a0)], M)) sm_a175_8 rfl rfl (st_getI h_1 rfl) ?_
  refine ru_go (t := (12, [some (.inr (some a0)), some (.inl x1), some (.inl x2), some (.inl x3), some (.inl (sm_I M a0 70))], [.inl 1, .inl (sm_I M a0 70), .inr (some a0)], M)) sm_a175_11 rfl rfl (st_iconst (by decide)) ?_
  refine ru_go (t := (13, [some (.inr (some a0)), some (.inl x1), some (.inl x2), some (.inl x3), some (.inl (sm_I M a0 70))], [.inl ((sm_I M a0 70) + 1), .inr (some a0)], M)) sm_a175_12 rfl rfl rfl ?_
  refine ru_go (t := (16, [some (.inr (some a0)), some (.inl x1), some (.inl x2), some (.inl x3), some (.inl (sm_I M a0 70))], [], sm_putI M a0 70 ((sm_I M a0 70) + 1))) sm_a175_13 rfl rfl (st_putI h_1 rfl) ?_
  refine ru_go (t := (17, [some (.inr (some a0)), some (.inl x1), some (.inl x2), some (.inl x3), some (.inl (sm_I M a0 70))], [.inr (some a0)], sm_putI M a0 70 ((sm_I M a0 70) + 1))) sm_a175_16 rfl rfl rfl ?_
  refine ru_go (t := (20, [some (.inr (some a0)), some (.inl x1), some (.inl x2), some (.inl x3), some (.inl (sm_I M a0 70))], [.inr (sm_R (sm_putI M a0 70 ((sm_I M a0 70) + 1)) a0 71)], sm_putI M a0 70 ((sm_I M a0 70) + 1))) sm_a175_17 rfl rfl (st_getR h_1 rfl rfl) ?_
  refine ru_go (t := (22, [some (.inr (some a0)), some (.inl x1), some (.inl x2), some (.inl x3), some (.inl (sm_I M a0 70))], [.inl (sm_I M a0 70), .inr (sm_R (sm_putI M a0 70 ((sm_I M a0 70) + 1)) a0 71)], sm_putI M a0 70 ((sm_I M a0 70) + 1))) sm_a175_20 rfl rfl rfl ?_
  refine ru_go (t := (23, [some (.inr (some a0)), some (.inl x1), some (.inl x2), some (.inl x3), some (.inl (sm_I M a0 70))], [.inl x1, .inl (sm_I M a0 70), .inr (sm_R (sm_putI M a0 70 ((sm_I M a0 70) + 1)) a0 71)], sm_putI M a0 70 ((sm_I M a0 70) + 1))) sm_a175_22 rfl rfl rfl ?_
  obtain ⟨b_2, hb_3, h⟩ := h
  rw [hb_3]
  obtain ⟨h_4, h⟩ := h
  obtain ⟨h_5, h⟩ := h
  refine ru_go (t := (24, [some (.inr (some a0)), some (.inl x1), some (.inl x2), some (.inl x3), some (.inl (sm_I M a0 70))], [], sm_putI (sm_putI M a0 70 ((sm_I M a0 70) + 1)) b_2 (sm_I M a0 70).toNatClampNeg x1)) sm_a175_23 rfl rfl (st_iast h_4 h_5) ?_
  refine ru_go (t := (25, [some (.inr (some a0)), some (.inl x1), some (.inl x2), some (.inl x3), some (.inl (sm_I M a0 70))], [.inr (some a0)], sm_putI (sm_putI M a0 70 ((sm_I M a0 70) + 1)) b_2 (sm_I M a0 70).toNatClampNeg x1)) sm_a175_24 rfl rfl rfl ?_
  refine ru_go (t := (28, [some (.inr (some a0)), some (.inl x1), some (.inl x2), some (.inl x3), some (.inl (sm_I M a0 70))], [.inr (sm_R (sm_putI (sm_putI M a0 70 ((sm_I M a0 70) + 1)) b_2 (sm_I M a0 70).toNatClampNeg x1) a0 72)], sm_putI (sm_putI M a0 70 ((sm_I M a0 70) + 1)) b_2 (sm_I M a0 70).toNatClampNeg x1)) sm_a175_25 rfl rfl (st_getR h_1 rfl rfl) ?_
  refine ru_go (t := (30, [some (.inr (some a0)), some (.inl x1), some (.inl x2), some (.inl x3), some (.inl (sm_I M a0 70))], [.inl (sm_I M a0 70), .inr (sm_R (sm_putI (sm_putI M a0 70 ((sm_I M a0 70) + 1)) b_2 (sm_I M a0 70).toNatClampNeg x1) a0 72)], sm_putI (sm_putI M a0 70 ((sm_I M a0 70) + 1)) b_2 (sm_I M a0 70).toNatClampNeg x1)) sm_a175_28 rfl rfl rfl ?_
  refine ru_go (t := (31, [some (.inr (some a0)), some (.inl x1), some (.inl x2), some (.inl x3), some (.inl (sm_I M a0 70))], [.inl x2, .inl (sm_I M a0 70), .inr (sm_R (sm_putI (sm_putI M a0 70 ((sm_I M a0 70) + 1)) b_2 (sm_I M a0 70).toNatClampNeg x1) a0 72)], sm_putI (sm_putI M a0 70 ((sm_I M a0 70) + 1)) b_2 (sm_I M a0 70).toNatClampNeg x1)) sm_a175_30 rfl rfl rfl ?_
  obtain ⟨b_6, hb_7, h⟩ := h
  rw [hb_7]
  obtain ⟨h_8, h⟩ := h
  obtain ⟨h_9, h⟩ := h
  refine ru_go (t := (32, [some (.inr (some a0)), some (.inl x1), some (.inl x2), some (.inl x3), some (.inl (sm_I M a0 70))], [], sm_putI (sm_putI (sm_putI M a0 70 ((sm_I M a0 70) + 1)) b_2 (sm_I M a0 70).toNatClampNeg x1) b_6 (sm_I M a0 70).toNatClampNeg x2)) sm_a175_31 rfl rfl (st_iast h_8 h_9) ?_
  refine ru_go (t := (33, [some (.inr (some a0)), some (.inl x1), some (.inl x2), some (.inl x3), some (.inl (sm_I M a0 70))], [.inr (some a0)], sm_putI (sm_putI (sm_putI M a0 70 ((sm_I M a0 70) + 1)) b_2 (sm_I M a0 70).toNatClampNeg x1) b_6 (sm_I M a0 70).toNatClampNeg x2)) sm_a175_32 rfl rfl rfl ?_
  refine ru_go (t := (36, [some (.inr (some a0)), some (.inl x1), some (.inl x2), some (.inl x3), some (.inl (sm_I M a0 70))], [.inr (sm_R (sm_putI (sm_putI (sm_putI M a0 70 ((sm_I M a0 70) + 1)) b_2 (sm_I M a0 70).toNatClampNeg x1) b_6 (sm_I M a0 70).toNatClampNeg x2) a0 73)], sm_putI (sm_putI (sm_putI M a0 70 ((sm_I M a0 70) + 1)) b_2 (sm_I M a0 70).toNatClampNeg x1) b_6 (sm_I M a0 70).toNatClampNeg x2)) sm_a175_33 rfl rfl (st_getR h_1 rfl rfl) ?_
  refine ru_go (t := (38, [some (.inr (some a0)), some (.inl x1), some (.inl x2), some (.inl x3), some (.inl (sm_I M a0 70))], [.inl (sm_I M a0 70), .inr (sm_R (sm_putI (sm_putI (sm_putI M a0 70 ((sm_I M a0 70) + 1)) b_2 (sm_I M a0 70).toNatClampNeg x1) b_6 (sm_I M a0 70).toNatClampNeg x2) a0 73)], sm_putI (sm_putI (sm_putI M a0 70 ((sm_I M a0 70) + 1)) b_2 (sm_I M a0 70).toNatClampNeg x1) b_6 (sm_I M a0 70).toNatClampNeg x2)) sm_a175_36 rfl rfl rfl ?_
  refine ru_go (t := (39, [some (.inr (some a0)), some (.inl x1), some (.inl x2), some (.inl x3), some (.inl (sm_I M a0 70))], [.inl 0, .inl (sm_I M a0 70), .inr (sm_R (sm_putI (sm_putI (sm_putI M a0 70 ((sm_I M a0 70) + 1)) b_2 (sm_I M a0 70).toNatClampNeg x1) b_6 (sm_I M a0 70).toNatClampNeg x2) a0 73)], sm_putI (sm_putI (sm_putI M a0 70 ((sm_I M a0 70) + 1)) b_2 (sm_I M a0 70).toNatClampNeg x1) b_6 (sm_I M a0 70).toNatClampNeg x2)) sm_a175_38 rfl rfl (st_iconst (by decide)) ?_
  obtain ⟨b_10, hb_11, h⟩ := h
  rw [hb_11]
  obtain ⟨h_12, h⟩ := h
  obtain ⟨h_13, h⟩ := h
  refine ru_go (t := (40, [some (.inr (some a0)), some (.inl x1), some (.inl x2), some (.inl x3), some (.inl (sm_I M a0 70))], [], sm_putI (sm_putI (sm_putI (sm_putI M a0 70 ((sm_I M a0 70) + 1)) b_2 (sm_I M a0 70).toNatClampNeg x1) b_6 (sm_I M a0 70).toNatClampNeg x2) b_10 (sm_I M a0 70).toNatClampNeg 0)) sm_a175_39 rfl rfl (st_iast h_12 h_13) ?_
  refine ru_go (t := (41, [some (.inr (some a0)), some (.inl x1), some (.inl x2), some (.inl x3), some (.inl (sm_I M a0 70))], [.inr (some a0)], sm_putI (sm_putI (sm_putI (sm_putI M a0 70 ((sm_I M a0 70) + 1)) b_2 (sm_I M a0 70).toNatClampNeg x1) b_6 (sm_I M a0 70).toNatClampNeg x2) b_10 (sm_I M a0 70).toNatClampNeg 0)) sm_a175_40 rfl rfl rfl ?_
  refine ru_go (t := (44, [some (.inr (some a0)), some (.inl x1), some (.inl x2), some (.inl x3), some (.inl (sm_I M a0 70))], [.inr (sm_R (sm_putI (sm_putI (sm_putI (sm_putI M a0 70 ((sm_I M a0 70) + 1)) b_2 (sm_I M a0 70).toNatClampNeg x1) b_6 (sm_I M a0 70).toNatClampNeg x2) b_10 (sm_I M a0 70).toNatClampNeg 0) a0 74)], sm_putI (sm_putI (sm_putI (sm_putI M a0 70 ((sm_I M a0 70) + 1)) b_2 (sm_I M a0 70).toNatClampNeg x1) b_6 (sm_I M a0 70).toNatClampNeg x2) b_10 (sm_I M a0 70).toNatClampNeg 0)) sm_a175_41 rfl rfl (st_getR h_1 rfl rfl) ?_
  refine ru_go (t := (46, [some (.inr (some a0)), some (.inl x1), some (.inl x2), some (.inl x3), some (.inl (sm_I M a0 70))], [.inl (sm_I M a0 70), .inr (sm_R (sm_putI (sm_putI (sm_putI (sm_putI M a0 70 ((sm_I M a0 70) + 1)) b_2 (sm_I M a0 70).toNatClampNeg x1) b_6 (sm_I M a0 70).toNatClampNeg x2) b_10 (sm_I M a0 70).toNatClampNeg 0) a0 74)], sm_putI (sm_putI (sm_putI (sm_putI M a0 70 ((sm_I M a0 70) + 1)) b_2 (sm_I M a0 70).toNatClampNeg x1) b_6 (sm_I M a0 70).toNatClampNeg x2) b_10 (sm_I M a0 70).toNatClampNeg 0)) sm_a175_44 rfl rfl rfl ?_
  refine ru_go (t := (47, [some (.inr (some a0)), some (.inl x1), some (.inl x2), some (.inl x3), some (.inl (sm_I M a0 70))], [.inl 0, .inl (sm_I M a0 70), .inr (sm_R (sm_putI (sm_putI (sm_putI (sm_putI M a0 70 ((sm_I M a0 70) + 1)) b_2 (sm_I M a0 70).toNatClampNeg x1) b_6 (sm_I M a0 70).toNatClampNeg x2) b_10 (sm_I M a0 70).toNatClampNeg 0) a0 74)], sm_putI (sm_putI (sm_putI (sm_putI M a0 70 ((sm_I M a0 70) + 1)) b_2 (sm_I M a0 70).toNatClampNeg x1) b_6 (sm_I M a0 70).toNatClampNeg x2) b_10 (sm_I M a0 70).toNatClampNeg 0)) sm_a175_46 rfl rfl (st_iconst (by decide)) ?_
  obtain ⟨b_14, hb_15, h⟩ := h
  rw [hb_15]
  obtain ⟨h_16, h⟩ := h
  obtain ⟨h_17, h⟩ := h
  refine ru_go (t := (48, [some (.inr (some a0)), some (.inl x1), some (.inl x2), some (.inl x3), some (.inl (sm_I M a0 70))], [], sm_putI (sm_putI (sm_putI (sm_putI (sm_putI M a0 70 ((sm_I M a0 70) + 1)) b_2 (sm_I M a0 70).toNatClampNeg x1) b_6 (sm_I M a0 70).toNatClampNeg x2) b_10 (sm_I M a0 70).toNatClampNeg 0) b_14 (sm_I M a0 70).toNatClampNeg 0)) sm_a175_47 rfl rfl (st_iast h_16 h_17) ?_
  refine ru_go (t := (49, [some (.inr (some a0)), some (.inl x1), some (.inl x2), some (.inl x3), some (.inl (sm_I M a0 70))], [.inr (some a0)], sm_putI (sm_putI (sm_putI (sm_putI (sm_putI M a0 70 ((sm_I M a0 70) + 1)) b_2 (sm_I M a0 70).toNatClampNeg x1) b_6 (sm_I M a0 70).toNatClampNeg x2) b_10 (sm_I M a0 70).toNatClampNeg 0) b_14 (sm_I M a0 70).toNatClampNeg 0)) sm_a175_48 rfl rfl rfl ?_
  refine ru_go (t := (52, [some (.inr (some a0)), some (.inl x1), some (.inl x2), some (.inl x3), some (.inl (sm_I M a0 70))], [.inr (sm_R (sm_putI (sm_putI (sm_putI (sm_putI (sm_putI M a0 70 ((sm_I M a0 70) + 1)) b_2 (sm_I M a0 70).toNatClampNeg x1) b_6 (sm_I M a0 70).toNatClampNeg x2) b_10 (sm_I M a0 70).toNatClampNeg 0) b_14 (sm_I M a0 70).toNatClampNeg 0) a0 75)], sm_putI (sm_putI (sm_putI (sm_putI (sm_putI M a0 70 ((sm_I M a0 70) + 1)) b_2 (sm_I M a0 70).toNatClampNeg x1) b_6 (sm_I M a0 70).toNatClampNeg x2) b_10 (sm_I M a0 70).toNatClampNeg 0) b_14 (sm_I M a0 70).toNatClampNeg 0)) sm_a175_49 rfl rfl (st_getR h_1 rfl rfl) ?_
  refine ru_go (t := (54, [some (.inr (some a0)), some (.inl x1), some (.inl x2), some (.inl x3), some (.inl (sm_I M a0 70))], [.inl (sm_I M a0 70), .inr (sm_R (sm_putI (sm_putI (sm_putI (sm_putI (sm_putI M a0 70 ((sm_I M a0 70) + 1)) b_2 (sm_I M a0 70).toNatClampNeg x1) b_6 (sm_I M a0 70).toNatClampNeg x2) b_10 (sm_I M a0 70).toNatClampNeg 0) b_14 (sm_I M a0 70).toNatClampNeg 0) a0 75)], sm_putI (sm_putI (sm_putI (sm_putI (sm_putI M a0 70 ((sm_I M a0 70) + 1)) b_2 (sm_I M a0 70).toNatClampNeg x1) b_6 (sm_I M a0 70).toNatClampNeg x2) b_10 (sm_I M a0 70).toNatClampNeg 0) b_14 (sm_I M a0 70).toNatClampNeg 0)) sm_a175_52 rfl rfl rfl ?_
  refine ru_go (t := (55, [some (.inr (some a0)), some (.inl x1), some (.inl x2), some (.inl x3), some (.inl (sm_I M a0 70))], [.inl x3, .inl (sm_I M a0 70), .inr (sm_R (sm_putI (sm_putI (sm_putI (sm_putI (sm_putI M a0 70 ((sm_I M a0 70) + 1)) b_2 (sm_I M a0 70).toNatClampNeg x1) b_6 (sm_I M a0 70).toNatClampNeg x2) b_10 (sm_I M a0 70).toNatClampNeg 0) b_14 (sm_I M a0 70).toNatClampNeg 0) a0 75)], sm_putI (sm_putI (sm_putI (sm_putI (sm_putI M a0 70 ((sm_I M a0 70) + 1)) b_2 (sm_I M a0 70).toNatClampNeg x1) b_6 (sm_I M a0 70).toNatClampNeg x2) b_10 (sm_I M a0 70).toNatClampNeg 0) b_14 (sm_I M a0 70).toNatClampNeg 0)) sm_a175_54 rfl rfl rfl ?_
  obtain ⟨b_18, hb_19, h⟩ := h
  rw [hb_19]
  obtain ⟨h_20, h⟩ := h
  obtain ⟨h_21, h⟩ := h
  refine ru_go (t := (56, [some (.inr (some a0)), some (.inl x1), some (.inl x2), some (.inl x3), some (.inl (sm_I M a0 70))], [], sm_putI (sm_putI (sm_putI (sm_putI (sm_putI (sm_putI M a0 70 ((sm_I M a0 70) + 1)) b_2 (sm_I M a0 70).toNatClampNeg x1) b_6 (sm_I M a0 70).toNatClampNeg x2) b_10 (sm_I M a0 70).toNatClampNeg 0) b_14 (sm_I M a0 70).toNatClampNeg 0) b_18 (sm_I M a0 70).toNatClampNeg x3)) sm_a175_55 rfl rfl (st_iast h_20 h_21) ?_
  refine ru_go (t := (57, [some (.inr (some a0)), some (.inl x1), some (.inl x2), some (.inl x3), some (.inl (sm_I M a0 70))], [.inr (some a0)], sm_putI (sm_putI (sm_putI (sm_putI (sm_putI (sm_putI M a0 70 ((sm_I M a0 70) + 1)) b_2 (sm_I M a0 70).toNatClampNeg x1) b_6 (sm_I M a0 70).toNatClampNeg x2) b_10 (sm_I M a0 70).toNatClampNeg 0) b_14 (sm_I M a0 70).toNatClampNeg 0) b_18 (sm_I M a0 70).toNatClampNeg x3)) sm_a175_56 rfl rfl rfl ?_
  refine ru_go (t := (60, [some (.inr (some a0)), some (.inl x1), some (.inl x2), some (.inl x3), some (.inl (sm_I M a0 70))], [.inr (sm_R (sm_putI (sm_putI (sm_putI (sm_putI (sm_putI (sm_putI M a0 70 ((sm_I M a0 70) + 1)) b_2 (sm_I M a0 70).toNatClampNeg x1) b_6 (sm_I M a0 70).toNatClampNeg x2) b_10 (sm_I M a0 70).toNatClampNeg 0) b_14 (sm_I M a0 70).toNatClampNeg 0) b_18 (sm_I M a0 70).toNatClampNeg x3) a0 76)], sm_putI (sm_putI (sm_putI (sm_putI (sm_putI (sm_putI M a0 70 ((sm_I M a0 70) + 1)) b_2 (sm_I M a0 70).toNatClampNeg x1) b_6 (sm_I M a0 70).toNatClampNeg x2) b_10 (sm_I M a0 70).toNatClampNeg 0) b_14 (sm_I M a0 70).toNatClampNeg 0) b_18 (sm_I M a0 70).toNatClampNeg x3)) sm_a175_57 rfl rfl (st_getR h_1 rfl rfl) ?_
  refine ru_go (t := (62, [some (.inr (some a0)), some (.inl x1), some (.inl x2), some (.inl x3), some (.inl (sm_I M a0 70))], [.inl (sm_I M a0 70), .inr (sm_R (sm_putI (sm_putI (sm_putI (sm_putI (sm_putI (sm_putI M a0 70 ((sm_I M a0 70) + 1)) b_2 (sm_I M a0 70).toNatClampNeg x1) b_6 (sm_I M a0 70).toNatClampNeg x2) b_10 (sm_I M a0 70).toNatClampNeg 0) b_14 (sm_I M a0 70).toNatClampNeg 0) b_18 (sm_I M a0 70).toNatClampNeg x3) a0 76)], sm_putI (sm_putI (sm_putI (sm_putI (sm_putI (sm_putI M a0 70 ((sm_I M a0 70) + 1)) b_2 (sm_I M a0 70).toNatClampNeg x1) b_6 (sm_I M a0 70).toNatClampNeg x2) b_10 (sm_I M a0 70).toNatClampNeg 0) b_14 (sm_I M a0 70).toNatClampNeg 0) b_18 (sm_I M a0 70).toNatClampNeg x3)) sm_a175_60 rfl rfl rfl ?_
  refine ru_go (t := (63, [some (.inr (some a0)), some (.inl x1), some (.inl x2), some (.inl x3), some (.inl (sm_I M a0 70))], [.inl 0, .inl (sm_I M a0 70), .inr (sm_R (sm_putI (sm_putI (sm_putI (sm_putI (sm_putI (sm_putI M a0 70 ((sm_I M a0 70) + 1)) b_2 (sm_I M a0 70).toNatClampNeg x1) b_6 (sm_I M a0 70).toNatClampNeg x2) b_10 (sm_I M a0 70).toNatClampNeg 0) b_14 (sm_I M a0 70).toNatClampNeg 0) b_18 (sm_I M a0 70).toNatClampNeg x3) a0 76)], sm_putI (sm_putI (sm_putI (sm_putI (sm_putI (sm_putI M a0 70 ((sm_I M a0 70) + 1)) b_2 (sm_I M a0 70).toNatClampNeg x1) b_6 (sm_I M a0 70).toNatClampNeg x2) b_10 (sm_I M a0 70).toNatClampNeg 0) b_14 (sm_I M a0 70).toNatClampNeg 0) b_18 (sm_I M a0 70).toNatClampNeg x3)) sm_a175_62 rfl rfl (st_iconst (by decide)) ?_
  obtain ⟨b_22, hb_23, h⟩ := h
  rw [hb_23]
  obtain ⟨h_24, h⟩ := h
  obtain ⟨h_25, h⟩ := h
  refine ru_go (t := (64, [some (.inr (some a0)), some (.inl x1), some (.inl x2), some (.inl x3), some (.inl (sm_I M a0 70))], [], sm_putI (sm_putI (sm_putI (sm_putI (sm_putI (sm_putI (sm_putI M a0 70 ((sm_I M a0 70) + 1)) b_2 (sm_I M a0 70).toNatClampNeg x1) b_6 (sm_I M a0 70).toNatClampNeg x2) b_10 (sm_I M a0 70).toNatClampNeg 0) b_14 (sm_I M a0 70).toNatClampNeg 0) b_18 (sm_I M a0 70).toNatClampNeg x3) b_22 (sm_I M a0 70).toNatClampNeg 0)) sm_a175_63 rfl rfl (st_iast h_24 h_25) ?_
  refine ru_go (t := (65, [some (.inr (some a0)), some (.inl x1), some (.inl x2), some (.inl x3), some (.inl (sm_I M a0 70))], [.inr (some a0)], sm_putI (sm_putI (sm_putI (sm_putI (sm_putI (sm_putI (sm_putI M a0 70 ((sm_I M a0 70) + 1)) b_2 (sm_I M a0 70).toNatClampNeg x1) b_6 (sm_I M a0 70).toNatClampNeg x2) b_10 (sm_I M a0 70).toNatClampNeg 0) b_14 (sm_I M a0 70).toNatClampNeg 0) b_18 (sm_I M a0 70).toNatClampNeg x3) b_22 (sm_I M a0 70).toNatClampNeg 0)) sm_a175_64 rfl rfl rfl ?_
  refine ru_go (t := (68, [some (.inr (some a0)), some (.inl x1), some (.inl x2), some (.inl x3), some (.inl (sm_I M a0 70))], [.inr (sm_R (sm_putI (sm_putI (sm_putI (sm_putI (sm_putI (sm_putI (sm_putI M a0 70 ((sm_I M a0 70) + 1)) b_2 (sm_I M a0 70).toNatClampNeg x1) b_6 (sm_I M a0 70).toNatClampNeg x2) b_10 (sm_I M a0 70).toNatClampNeg 0) b_14 (sm_I M a0 70).toNatClampNeg 0) b_18 (sm_I M a0 70).toNatClampNeg x3) b_22 (sm_I M a0 70).toNatClampNeg 0) a0 77)], sm_putI (sm_putI (sm_putI (sm_putI (sm_putI (sm_putI (sm_putI M a0 70 ((sm_I M a0 70) + 1)) b_2 (sm_I M a0 70).toNatClampNeg x1) b_6 (sm_I M a0 70).toNatClampNeg x2) b_10 (sm_I M a0 70).toNatClampNeg 0) b_14 (sm_I M a0 70).toNatClampNeg 0) b_18 (sm_I M a0 70).toNatClampNeg x3) b_22 (sm_I M a0 70).toNatClampNeg 0)) sm_a175_65 rfl rfl (st_getR h_1 rfl rfl) ?_
  refine ru_go (t := (70, [some (.inr (some a0)), some (.inl x1), some (.inl x2), some (.inl x3), some (.inl (sm_I M a0 70))], [.inl (sm_I M a0 70), .inr (sm_R (sm_putI (sm_putI (sm_putI (sm_putI (sm_putI (sm_putI (sm_putI M a0 70 ((sm_I M a0 70) + 1)) b_2 (sm_I M a0 70).toNatClampNeg x1) b_6 (sm_I M a0 70).toNatClampNeg x2) b_10 (sm_I M a0 70).toNatClampNeg 0) b_14 (sm_I M a0 70).toNatClampNeg 0) b_18 (sm_I M a0 70).toNatClampNeg x3) b_22 (sm_I M a0 70).toNatClampNeg 0) a0 77)], sm_putI (sm_putI (sm_putI (sm_putI (sm_putI (sm_putI (sm_putI M a0 70 ((sm_I M a0 70) + 1)) b_2 (sm_I M a0 70).toNatClampNeg x1) b_6 (sm_I M a0 70).toNatClampNeg x2) b_10 (sm_I M a0 70).toNatClampNeg 0) b_14 (sm_I M a0 70).toNatClampNeg 0) b_18 (sm_I M a0 70).toNatClampNeg x3) b_22 (sm_I M a0 70).toNatClampNeg 0)) sm_a175_68 rfl rfl rfl ?_
  refine ru_go (t := (71, [some (.inr (some a0)), some (.inl x1), some (.inl x2), some (.inl x3), some (.inl (sm_I M a0 70))], [.inl 0, .inl (sm_I M a0 70), .inr (sm_R (sm_putI (sm_putI (sm_putI (sm_putI (sm_putI (sm_putI (sm_putI M a0 70 ((sm_I M a0 70) + 1)) b_2 (sm_I M a0 70).toNatClampNeg x1) b_6 (sm_I M a0 70).toNatClampNeg x2) b_10 (sm_I M a0 70).toNatClampNeg 0) b_14 (sm_I M a0 70).toNatClampNeg 0) b_18 (sm_I M a0 70).toNatClampNeg x3) b_22 (sm_I M a0 70).toNatClampNeg 0) a0 77)], sm_putI (sm_putI (sm_putI (sm_putI (sm_putI (sm_putI (sm_putI M a0 70 ((sm_I M a0 70) + 1)) b_2 (sm_I M a0 70).toNatClampNeg x1) b_6 (sm_I M a0 70).toNatClampNeg x2) b_10 (sm_I M a0 70).toNatClampNeg 0) b_14 (sm_I M a0 70).toNatClampNeg 0) b_18 (sm_I M a0 70).toNatClampNeg x3) b_22 (sm_I M a0 70).toNatClampNeg 0)) sm_a175_70 rfl rfl (st_iconst (by decide)) ?_
  obtain ⟨b_26, hb_27, h⟩ := h
  rw [hb_27]
  obtain ⟨h_28, h⟩ := h
  obtain ⟨h_29, h⟩ := h
  refine ru_go (t := (72, [some (.inr (some a0)), some (.inl x1), some (.inl x2), some (.inl x3), some (.inl (sm_I M a0 70))], [], sm_putI (sm_putI (sm_putI (sm_putI (sm_putI (sm_putI (sm_putI (sm_putI M a0 70 ((sm_I M a0 70) + 1)) b_2 (sm_I M a0 70).toNatClampNeg x1) b_6 (sm_I M a0 70).toNatClampNeg x2) b_10 (sm_I M a0 70).toNatClampNeg 0) b_14 (sm_I M a0 70).toNatClampNeg 0) b_18 (sm_I M a0 70).toNatClampNeg x3) b_22 (sm_I M a0 70).toNatClampNeg 0) b_26 (sm_I M a0 70).toNatClampNeg 0)) sm_a175_71 rfl rfl (st_iast h_28 h_29) ?_
  exact h
theorem bb_175_72 {d : Nat} {M : sm_M} {Q : Option sm_V → sm_M → Prop} {a0 : Nat} {x1 : Int32} {x2 : Int32} {x3 : Int32} {x4 : Int32}
    (h : sm_K M a0 = 39 ∧ ∃ b_2, sm_R M a0 78 = some b_2 ∧ sm_wA 1 M b_2 ∧ sm_in_ M b_2 x4 ∧ ∃ b_6, sm_R (sm_putI M b_2 (x4).toNatClampNeg 0) a0 79 = some b_6 ∧ sm_wZ 1 M b_6 ∧ sm_in_ M b_6 x4 ∧ Q (some (.inl x4)) (sm_putI (sm_putI M b_2 (x4).toNatClampNeg 0) b_6 (x4).toNatClampNeg 0)) :
    sm_Run d 175 72 [some (.inr (some a0)), some (.inl x1), some (.inl x2), some (.inl x3), some (.inl x4)] [] M Q := by
  refine ru_go (t := (73, [some (.inr (some a0)), some (.inl x1), some (.inl x2), some (.inl x3), some (.inl x4)], [.inr (some a0)], M)) sm_a175_72 rfl rfl rfl ?_
  obtain ⟨h_1, h⟩ := h
  refine ru_go (t := (76, [some (.inr (some a0)), some (.inl x1), some (.inl x2), some (.inl x3), some (.inl x4)], [.inr (sm_R M a0 78)], M)) sm_a175_73 rfl rfl (st_getR h_1 rfl rfl) ?_
  refine ru_go (t := (78, [some (.inr (some a0)), some (.inl x1), some (.inl x2), some (.inl x3), some (.inl x4)], [.inl x4, .inr (sm_R M a0 78)], M)) sm_a175_76 rfl rfl rfl ?_
  refine ru_go (t := (79, [some (.inr (some a0)), some (.inl x1), some (.inl x2), some (.inl x3), some (.inl x4)], [.inl 0, .inl x4, .inr (sm_R M a0 78)], M)) sm_a175_78 rfl rfl (st_iconst (by decide)) ?_
  obtain ⟨b_2, hb_3, h⟩ := h
  rw [hb_3]
  obtain ⟨h_4, h⟩ := h
  obtain ⟨h_5, h⟩ := h
  refine ru_go (t := (80, [some (.inr (some a0)), some (.inl x1), some (.inl x2), some (.inl x3), some (.inl x4)], [], sm_putI M b_2 (x4).toNatClampNeg 0)) sm_a175_79 rfl rfl (st_iast h_4 h_5) ?_
  refine ru_go (t := (81, [some (.inr (some a0)), some (.inl x1), some (.inl x2), some (.inl x3), some (.inl x4)], [.inr (some a0)], sm_putI M b_2 (x4).toNatClampNeg 0)) sm_a175_80 rfl rfl rfl ?_
  refine ru_go (t := (84, [some (.inr (some a0)), some (.inl x1), some (.inl x2), some (.inl x3), some (.inl x4)], [.inr (sm_R (sm_putI M b_2 (x4).toNatClampNeg 0) a0 79)], sm_putI M b_2 (x4).toNatClampNeg 0)) sm_a175_81 rfl rfl (st_getR h_1 rfl rfl) ?_
  refine ru_go (t := (86, [some (.inr (some a0)), some (.inl x1), some (.inl x2), some (.inl x3), some (.inl x4)], [.inl x4, .inr (sm_R (sm_putI M b_2 (x4).toNatClampNeg 0) a0 79)], sm_putI M b_2 (x4).toNatClampNeg 0)) sm_a175_84 rfl rfl rfl ?_
  refine ru_go (t := (87, [some (.inr (some a0)), some (.inl x1), some (.inl x2), some (.inl x3), some (.inl x4)], [.inl 0, .inl x4, .inr (sm_R (sm_putI M b_2 (x4).toNatClampNeg 0) a0 79)], sm_putI M b_2 (x4).toNatClampNeg 0)) sm_a175_86 rfl rfl (st_iconst (by decide)) ?_
  obtain ⟨b_6, hb_7, h⟩ := h
  rw [hb_7]
  obtain ⟨h_8, h⟩ := h
  obtain ⟨h_9, h⟩ := h
  refine ru_go (t := (88, [some (.inr (some a0)), some (.inl x1), some (.inl x2), some (.inl x3), some (.inl x4)], [], sm_putI (sm_putI M b_2 (x4).toNatClampNeg 0) b_6 (x4).toNatClampNeg 0)) sm_a175_87 rfl rfl (st_zast h_8 h_9 (by decide)) ?_
  refine ru_go (t := (90, [some (.inr (some a0)), some (.inl x1), some (.inl x2), some (.inl x3), some (.inl x4)], [.inl x4], sm_putI (sm_putI M b_2 (x4).toNatClampNeg 0) b_6 (x4).toNatClampNeg 0)) sm_a175_88 rfl rfl rfl ?_
  exact ru_ret sm_a175_90 rfl h

/-! WireBusModel.newControl:(IIIIII)I -/
theorem sm_a176_0 : sm_at 176 0 = some (.aload_n 0, 1, (0, 0, 0, 0)) := by decide +kernel
theorem sm_a176_1 : sm_at 176 1 = some (.iload_n 1, 1, (0, 0, 0, 0)) := by decide +kernel
theorem sm_a176_2 : sm_at 176 2 = some (.iconst 0, 1, (0, 0, 0, 0)) := by decide +kernel
theorem sm_a176_3 : sm_at 176 3 = some (.iload 6, 2, (0, 0, 0, 0)) := by decide +kernel
theorem sm_a176_5 : sm_at 176 5 = some (.invokevirtual 335, 3, (10, 175, 12, 1486)) := by decide +kernel
theorem sm_a176_8 : sm_at 176 8 = some (.istore 7, 2, (0, 0, 0, 0)) := by decide +kernel
theorem sm_a176_10 : sm_at 176 10 = some (.bipush 8, 2, (0, 0, 0, 0)) := by decide +kernel
theorem sm_a176_12 : sm_at 176 12 = some (.iload 7, 2, (0, 0, 0, 0)) := by decide +kernel
theorem sm_a176_14 : sm_at 176 14 = some (.imul, 1, (0, 0, 0, 0)) := by decide +kernel
theorem sm_a176_15 : sm_at 176 15 = some (.istore 8, 2, (0, 0, 0, 0)) := by decide +kernel
theorem sm_a176_17 : sm_at 176 17 = some (.aload_n 0, 1, (0, 0, 0, 0)) := by decide +kernel
theorem sm_a176_18 : sm_at 176 18 = some (.getfield 212, 3, (12, 80, 0, 1263)) := by decide +kernel
theorem sm_a176_21 : sm_at 176 21 = some (.iload 8, 2, (0, 0, 0, 0)) := by decide +kernel
theorem sm_a176_23 : sm_at 176 23 = some (.iload_n 2, 1, (0, 0, 0, 0)) := by decide +kernel
theorem sm_a176_24 : sm_at 176 24 = some (.iastore, 1, (1, 0, 0, 0)) := by decide +kernel
theorem sm_a176_25 : sm_at 176 25 = some (.aload_n 0, 1, (0, 0, 0, 0)) := by decide +kernel
theorem sm_a176_26 : sm_at 176 26 = some (.getfield 212, 3, (12, 80, 0, 1263)) := by decide +kernel
theorem sm_a176_29 : sm_at 176 29 = some (.iload 8, 2, (0, 0, 0, 0)) := by decide +kernel
theorem sm_a176_31 : sm_at 176 31 = some (.iconst 1, 1, (0, 0, 0, 0)) := by decide +kernel
theorem sm_a176_32 : sm_at 176 32 = some (.iadd, 1, (0, 0, 0, 0)) := by decide +kernel
theorem sm_a176_33 : sm_at 176 33 = some (.iload_n 3, 1, (0, 0, 0, 0)) := by decide +kernel
theorem sm_a176_34 : sm_at 176 34 = some (.iastore, 1, (1, 0, 0, 0)) := by decide +kernel
theorem sm_a176_35 : sm_at 176 35 = some (.aload_n 0, 1, (0, 0, 0, 0)) := by decide +kernel
theorem sm_a176_36 : sm_at 176 36 = some (.getfield 212, 3, (12, 80, 0, 1263)) := by decide +kernel
theorem sm_a176_39 : sm_at 176 39 = some (.iload 8, 2, (0, 0, 0, 0)) := by decide +kernel
theorem sm_a176_41 : sm_at 176 41 = some (.iconst 2, 1, (0, 0, 0, 0)) := by decide +kernel
theorem sm_a176_42 : sm_at 176 42 = some (.iadd, 1, (0, 0, 0, 0)) := by decide +kernel
theorem sm_a176_43 : sm_at 176 43 = some (.iload 4, 2, (0, 0, 0, 0)) := by decide +kernel
theorem sm_a176_45 : sm_at 176 45 = some (.sipush 255, 3, (0, 0, 0, 0)) := by decide +kernel
theorem sm_a176_48 : sm_at 176 48 = some (.iand, 1, (0, 0, 0, 0)) := by decide +kernel
theorem sm_a176_49 : sm_at 176 49 = some (.iastore, 1, (1, 0, 0, 0)) := by decide +kernel
theorem sm_a176_50 : sm_at 176 50 = some (.aload_n 0, 1, (0, 0, 0, 0)) := by decide +kernel
theorem sm_a176_51 : sm_at 176 51 = some (.getfield 212, 3, (12, 80, 0, 1263)) := by decide +kernel
theorem sm_a176_54 : sm_at 176 54 = some (.iload 8, 2, (0, 0, 0, 0)) := by decide +kernel
theorem sm_a176_56 : sm_at 176 56 = some (.iconst 3, 1, (0, 0, 0, 0)) := by decide +kernel
theorem sm_a176_57 : sm_at 176 57 = some (.iadd, 1, (0, 0, 0, 0)) := by decide +kernel
theorem sm_a176_58 : sm_at 176 58 = some (.iload 4, 2, (0, 0, 0, 0)) := by decide +kernel
theorem sm_a176_60 : sm_at 176 60 = some (.bipush 8, 2, (0, 0, 0, 0)) := by decide +kernel
theorem sm_a176_62 : sm_at 176 62 = some (.ishr, 1, (0, 0, 0, 0)) := by decide +kernel
theorem sm_a176_63 : sm_at 176 63 = some (.sipush 255, 3, (0, 0, 0, 0)) := by decide +kernel
theorem sm_a176_66 : sm_at 176 66 = some (.iand, 1, (0, 0, 0, 0)) := by decide +kernel
theorem sm_a176_67 : sm_at 176 67 = some (.iastore, 1, (1, 0, 0, 0)) := by decide +kernel
theorem sm_a176_68 : sm_at 176 68 = some (.aload_n 0, 1, (0, 0, 0, 0)) := by decide +kernel
theorem sm_a176_69 : sm_at 176 69 = some (.getfield 212, 3, (12, 80, 0, 1263)) := by decide +kernel
theorem sm_a176_72 : sm_at 176 72 = some (.iload 8, 2, (0, 0, 0, 0)) := by decide +kernel
theorem sm_a176_74 : sm_at 176 74 = some (.iconst 4, 1, (0, 0, 0, 0)) := by decide +kernel
theorem sm_a176_75 : sm_at 176 75 = some (.iadd, 1, (0, 0, 0, 0)) := by decide +kernel
theorem sm_a176_76 : sm_at 176 76 = some (.iload 5, 2, (0, 0, 0, 0)) := by decide +kernel
theorem sm_a176_78 : sm_at 176 78 = some (.sipush 255, 3, (0, 0, 0, 0)) := by decide +kernel
theorem sm_a176_81 : sm_at 176 81 = some (.iand, 1, (0, 0, 0, 0)) := by decide +kernel
theorem sm_a176_82 : sm_at 176 82 = some (.iastore, 1, (1, 0, 0, 0)) := by decide +kernel
theorem sm_a176_83 : sm_at 176 83 = some (.aload_n 0, 1, (0, 0, 0, 0)) := by decide +kernel
theorem sm_a176_84 : sm_at 176 84 = some (.getfield 212, 3, (12, 80, 0, 1263)) := by decide +kernel
theorem sm_a176_87 : sm_at 176 87 = some (.iload 8, 2, (0, 0, 0, 0)) := by decide +kernel
theorem sm_a176_89 : sm_at 176 89 = some (.iconst 5, 1, (0, 0, 0, 0)) := by decide +kernel
theorem sm_a176_90 : sm_at 176 90 = some (.iadd, 1, (0, 0, 0, 0)) := by decide +kernel
theorem sm_a176_91 : sm_at 176 91 = some (.iload 5, 2, (0, 0, 0, 0)) := by decide +kernel
theorem sm_a176_93 : sm_at 176 93 = some (.bipush 8, 2, (0, 0, 0, 0)) := by decide +kernel
theorem sm_a176_95 : sm_at 176 95 = some (.ishr, 1, (0, 0, 0, 0)) := by decide +kernel
theorem sm_a176_96 : sm_at 176 96 = some (.sipush 255, 3, (0, 0, 0, 0)) := by decide +kernel
theorem sm_a176_99 : sm_at 176 99 = some (.iand, 1, (0, 0, 0, 0)) := by decide +kernel
theorem sm_a176_100 : sm_at 176 100 = some (.iastore, 1, (1, 0, 0, 0)) := by decide +kernel
theorem sm_a176_101 : sm_at 176 101 = some (.aload_n 0, 1, (0, 0, 0, 0)) := by decide +kernel
theorem sm_a176_102 : sm_at 176 102 = some (.getfield 212, 3, (12, 80, 0, 1263)) := by decide +kernel
theorem sm_a176_105 : sm_at 176 105 = some (.iload 8, 2, (0, 0, 0, 0)) := by decide +kernel
theorem sm_a176_107 : sm_at 176 107 = some (.bipush 6, 2, (0, 0, 0, 0)) := by decide +kernel
theorem sm_a176_109 : sm_at 176 109 = some (.iadd, 1, (0, 0, 0, 0)) := by decide +kernel
theorem sm_a176_110 : sm_at 176 110 = some (.iload 6, 2, (0, 0, 0, 0)) := by decide +kernel
theorem sm_a176_112 : sm_at 176 112 = some (.sipush 255, 3, (0, 0, 0, 0)) := by decide +kernel
theorem sm_a176_115 : sm_at 176 115 = some (.iand, 1, (0, 0, 0, 0)) := by decide +kernel
theorem sm_a176_116 : sm_at 176 116 = some (.iastore, 1, (1, 0, 0, 0)) := by decide +kernel
theorem sm_a176_117 : sm_at 176 117 = some (.aload_n 0, 1, (0, 0, 0, 0)) := by decide +kernel
theorem sm_a176_118 : sm_at 176 118 = some (.getfield 212, 3, (12, 80, 0, 1263)) := by decide +kernel
theorem sm_a176_121 : sm_at 176 121 = some (.iload 8, 2, (0, 0, 0, 0)) := by decide +kernel
theorem sm_a176_123 : sm_at 176 123 = some (.bipush 7, 2, (0, 0, 0, 0)) := by decide +kernel
theorem sm_a176_125 : sm_at 176 125 = some (.iadd, 1, (0, 0, 0, 0)) := by decide +kernel
theorem sm_a176_126 : sm_at 176 126 = some (.iload 6, 2, (0, 0, 0, 0)) := by decide +kernel
theorem sm_a176_128 : sm_at 176 128 = some (.bipush 8, 2, (0, 0, 0, 0)) := by decide +kernel
theorem sm_a176_130 : sm_at 176 130 = some (.ishr, 1, (0, 0, 0, 0)) := by decide +kernel
theorem sm_a176_131 : sm_at 176 131 = some (.sipush 255, 3, (0, 0, 0, 0)) := by decide +kernel
theorem sm_a176_134 : sm_at 176 134 = some (.iand, 1, (0, 0, 0, 0)) := by decide +kernel
theorem sm_a176_135 : sm_at 176 135 = some (.iastore, 1, (1, 0, 0, 0)) := by decide +kernel
theorem sm_a176_136 : sm_at 176 136 = some (.iload 7, 2, (0, 0, 0, 0)) := by decide +kernel
theorem sm_a176_138 : sm_at 176 138 = some (.ireturn, 1, (0, 0, 0, 0)) := by decide +kernel
theorem bb_176_0 {d : Nat} {M : sm_M} {Q : Option sm_V → sm_M → Prop} {a0 : Nat} {x1 : Int32} {x2 : Int32} {x3 : Int32} {x4 : Int32} {x5 : Int32} {x6 : Int32} {z7 : Option sm_V} {z8 : Option sm_V}
    (h : sm_K M a0 = 39 ∧ sm_Run d 175 0 (sm_ent 175 [.inr (some a0), .inl x1, .inl 0, .inl x6]) [] M (fun v M1 => sm_Run (d + 1) 176 8 [some (.inr (some a0)), some (.inl x1), some (.inl x2), some (.inl x3), some (.inl x4), some (.inl x5), some (.inl x6), z7, z8] (v.toList ++ []) M1 Q)) :
    sm_Run (d + 1) 176 0 [some (.inr (some a0)), some (.inl x1), some (.inl x2), some (.inl x3), some (.inl x4), some (.inl x5), some (.inl x6), z7, z8] [] M Q := by
  refine ru_go (t := (1, [some (.inr (some a0)), some (.inl x1), some (.inl x2), some (.inl x3), some (.inl x4), some (.inl x5), some (.inl x6), z7, z8], [.inr (some a0)], M)) sm_a176_0 rfl rfl rfl ?_
  refine ru_go (t := (2, [some (.inr (some a0)), some (.inl x1), some (.inl x2), some (.inl x3), some (.inl x4), some (.inl x5), some (.inl x6), z7, z8], [.inl x1, .inr (some a0)], M)) sm_a176_1 rfl rfl rfl ?_
  refine ru_go (t := (3, [some (.inr (some a0)), some (.inl x1), some (.inl x2), some (.inl x3), some (.inl x4), some (.inl x5), some (.inl x6), z7, z8], [.inl 0, .inl x1, .inr (some a0)], M)) sm_a176_2 rfl rfl (st_iconst (by decide)) ?_
  refine ru_go (t := (5, [some (.inr (some a0)), some (.inl x1), some (.inl x2), some (.inl x3), some (.inl x4), some (.inl x5), some (.inl x6), z7, z8], [.inl x6, .inl 0, .inl x1, .inr (some a0)], M)) sm_a176_3 rfl rfl rfl ?_
  obtain ⟨h_1, h⟩ := h
  exact ru_call (p := 8) sm_a176_5 rfl (sc_virt (Or.inl rfl) rfl rfl h_1 (Nat.le_of_ble_eq_true rfl)) rfl h
theorem bb_176_8 {d : Nat} {M : sm_M} {Q : Option sm_V → sm_M → Prop} {a0 : Nat} {x1 : Int32} {x2 : Int32} {x3 : Int32} {x4 : Int32} {x5 : Int32} {x6 : Int32} {z7 : Option sm_V} {z8 : Option sm_V} {y0 : Int32}
    (h : sm_K M a0 = 39 ∧ ∃ b_2, sm_R M a0 80 = some b_2 ∧ sm_wA 1 M b_2 ∧ sm_in_ M b_2 (8 * y0) ∧ ∃ b_6, sm_R (sm_putI M b_2 (8 * y0).toNatClampNeg x2) a0 80 = some b_6 ∧ sm_wA 1 M b_6 ∧ sm_in_ M b_6 ((8 * y0) + 1) ∧ ∃ b_10, sm_R (sm_putI (sm_putI M b_2 (8 * y0).toNatClampNeg x2) b_6 ((8 * y0) + 1).toNatClampNeg x3) a0 80 = some b_10 ∧ sm_wA 1 M b_10 ∧ sm_in_ M b_10 ((8 * y0) + 2) ∧ ∃ b_14, sm_R (sm_putI (sm_putI (sm_putI M b_2 (8 * y0).toNatClampNeg x2) b_6 ((8 * y0) + 1).toNatClampNeg x3) b_10 ((8 * y0) + 2).toNatClampNeg (x4 &&& 255)) a0 80 = some b_14 ∧ sm_wA 1 M b_14 ∧ sm_in_ M b_14 ((8 * y0) + 3) ∧ ∃ b_18, sm_R (sm_putI (sm_putI (sm_putI (sm_putI M b_2 (8 * y0).toNatClampNeg x2) b_6 ((8 * y0) + 1).toNatClampNeg x3) b_10 ((8 * y0) + 2).toNatClampNeg (x4 &&& 255)) b_14 ((8 * y0) + 3).toNatClampNeg ((x4 >>> (8 &&& 31)) &&& 255)) a0 80 = some b_18 ∧ sm_wA 1 M b_18 ∧ sm_in_ M b_18 ((8 * y0) + 4) ∧ ∃ b_22, sm_R (sm_putI (sm_putI (sm_putI (sm_putI (sm_putI M b_2 (8 * y0).toNatClampNeg x2) b_6 ((8 * y0) + 1).toNatClampNeg x3) b_10 ((8 * y0) + 2).toNatClampNeg (x4 &&& 255)) b_14 ((8 * y0) + 3).toNatClampNeg ((x4 >>> (8 &&& 31)) &&& 255)) b_18 ((8 * y0) + 4).toNatClampNeg (x5 &&& 255)) a0 80 = some b_22 ∧ sm_wA 1 M b_22 ∧ sm_in_ M b_22 ((8 * y0) + 5) ∧ ∃ b_26, sm_R (sm_putI (sm_putI (sm_putI (sm_putI (sm_putI (sm_putI M b_2 (8 * y0).toNatClampNeg x2) b_6 ((8 * y0) + 1).toNatClampNeg x3) b_10 ((8 * y0) + 2).toNatClampNeg (x4 &&& 255)) b_14 ((8 * y0) + 3).toNatClampNeg ((x4 >>> (8 &&& 31)) &&& 255)) b_18 ((8 * y0) + 4).toNatClampNeg (x5 &&& 255)) b_22 ((8 * y0) + 5).toNatClampNeg ((x5 >>> (8 &&& 31)) &&& 255)) a0 80 = some b_26 ∧ sm_wA 1 M b_26 ∧ sm_in_ M b_26 ((8 * y0) + 6) ∧ sm_Run (d + 1) 176 117 [some (.inr (some a0)), some (.inl x1), some (.inl x2), some (.inl x3), some (.inl x4), some (.inl x5), some (.inl x6), some (.inl y0), some (.inl (8 * y0))] [] (sm_putI (sm_putI (sm_putI (sm_putI (sm_putI (sm_putI (sm_putI M b_2 (8 * y0).toNatClampNeg x2) b_6 ((8 * y0) + 1).toNatClampNeg x3) b_10 ((8 * y0) + 2).toNatClampNeg (x4 &&& 255)) b_14 ((8 * y0) + 3).toNatClampNeg ((x4 >>> (8 &&& 31)) &&& 255)) b_18 ((8 * y0) + 4).toNatClampNeg (x5 &&& 255)) b_22 ((8 * y0) + 5).toNatClampNeg ((x5 >>> (8 &&& 31)) &&& 255)) b_26 ((8 * y0) + 6).toNatClampNeg (x6 &&& 255)) Q) :
    sm_Run (d + 1) 176 8 [some (.inr (some a0)), some (.inl x1), some (.inl x2), some (.inl x3), some (.inl x4), some (.inl x5), some (.inl x6), z7, z8] [.inl y0] M Q := by
  refine ru_go (t := (10, [some (.inr (some a0)), some (.inl x1), some (.inl x2), some (.inl x3), some (.inl x4), some (.inl x5), some (.inl x6), some (.inl y0), z8], [], M)) sm_a176_8 rfl rfl rfl ?_
  refine ru_go (t := (12, [some (.inr (some a0)), some (.inl x1), some (.inl x2), some (.inl x3), some (.inl x4), some (.inl x5), some (.inl x6), some (.inl y0), z8], [.inl 8], M)) sm_a176_10 rfl rfl (st_bipush (by decide)) ?_
  refine ru_go (t := (14, [some (.inr (some a0)), some (.inl x1), some (.inl x2), some (.inl x3), some (.inl x4), some (.inl x5), some (.inl x6), some (.inl y0), z8], [.inl y0, .inl 8], M)) sm_a176_12 rfl rfl rfl ?_
  refine ru_go (t := (15, [some (.inr (some a0)), some (.inl x1), some (.inl x2), some (.inl x3), some (.inl x4), some (.inl x5), some (.inl x6), some (.inl y0), z8], [.inl (8 * y0)], M)) sm_a176_14 rfl rfl rfl ?_
  refine ru_go (t := (17, [some (.inr (some a0)), some (.inl x1), some (.inl x2), some (.inl x3), some (.inl x4), some (.inl x5), some (.inl x6), some (.inl y0), some (.inl (8 * y0))], [], M)) sm_a176_15 rfl rfl rfl ?_
  refine ru_go (t := (18, [some (.inr (some a0)), some (.inl x1), some (.inl x2), some (.inl x3), some (.inl x4), some (.inl x5), some (.inl x6), some (.inl y0), some (.inl (8 * y0))], [.inr (some a0)], M)) sm_a176_17 rfl rfl rfl ?_
  obtain ⟨h_1, h⟩ := h
  refine ru_go (t := (21, [some (.inr (some a0)), some (.inl x1), some (.inl x2), some (.inl x3), some (.inl x4), some (.inl x5), some (.inl x6), some (.inl y0), some (.inl (8 * y0))], [.inr (sm_R M a0 80)], M)) sm_a176_18 rfl rfl (st_getR h_1 rfl rfl) ?_
  refine ru_go (t := (23, [some (.inr (some a0)), some (.inl x1), some (.inl x2), some (.inl x3), some (.inl x4), some (.inl x5), some (.inl x6), some (.inl y0), some (.inl (8 * y0))], [.inl (8 * y0), .inr (sm_R M a0 80)], M)) sm_a176_21 rfl rfl rfl ?_
  refine ru_go (t := (24, [some (.inr (some a0)), some (.inl x1), some (.inl x2), some (.inl x3), some (.inl x4), some (.inl x5), some (.inl x6), some (.inl y0), some (.inl (8 * y0))], [.inl x2, .inl (8 * y0), .inr (sm_R M a0 80)], M)) sm_a176_23 rfl rfl rfl ?_
  obtain ⟨b_2, hb_3, h⟩ := h
  rw [hb_3]
  obtain ⟨h_4, h⟩ := h
  obtain ⟨h_5, h⟩ := h
  refine ru_go (t := (25, [some (.inr (some a0)), some (.inl x1), some (.inl x2), some (.inl x3), some (.inl x4), some (.inl x5), some (.inl x6), some (.inl y0), some (.inl (8 * y0))], [], sm_putI M b_2 (8 * y0).toNatClampNeg x2)) sm_a176_24 rfl rfl (st_iast h_4 h_5) ?_
  refine ru_go (t := (26, [some (.inr (some a0)), some (.inl x1), some (.inl x2), some (.inl x3), some (.inl x4), some (.inl x5), some (.inl x6), some (.inl y0), some (.inl (8 * y0))], [.inr (some a0)], sm_putI M b_2 (8 * y0).toNatClampNeg x2)) sm_a176_25 rfl rfl rfl ?_
  refine ru_go (t := (29, [some (.inr (some a0)), some (.inl x1), some (.inl x2), some (.inl x3), some (.inl x4), some (.inl x5), some (.inl x6), some (.inl y0), some (.inl (8 * y0))], [.inr (sm_R (sm_putI M b_2 (8 * y0).toNatClampNeg x2) a0 80)], sm_putI M b_2 (8 * y0).toNatClampNeg x2)) sm_a176_26 rfl rfl (st_getR h_1 rfl rfl) ?_
  refine ru_go (t := (31, [some (.inr (some a0)), some (.inl x1), some (.inl x2), some (.inl x3), some (.inl x4), some (.inl x5), some (.inl x6), some (.inl y0), some (.inl (8 * y0))], [.inl (8 * y0), .inr (sm_R (sm_putI M b_2 (8 * y0).toNatClampNeg x2) a0 80)], sm_putI M b_2 (8 * y0).toNatClampNeg x2)) sm_a176_29 rfl rfl rfl ?_
  refine ru_go (t := (32, [some (.inr (some a0)), some (.inl x1), some (.inl x2), some (.inl x3), some (.inl x4), some (.inl x5), some (.inl x6), some (.inl y0), some (.inl (8 * y0))], [.inl 1, .inl (8 * y0), .inr (sm_R (sm_putI M b_2 (8 * y0).toNatClampNeg x2) a0 80)], sm_putI M b_2 (8 * y0).toNatClampNeg x2)) sm_a176_31 rfl rfl (st_iconst (by decide)) ?_
  refine ru_go (t := (33, [some (.inr (some a0)), some (.inl x1), some (.inl x2), some (.inl x3), some (.inl x4), some (.inl x5), some (.inl x6), some (.inl y0), some (.inl (8 * y0))], [.inl ((8 * y0) + 1), .inr (sm_R (sm_putI M b_2 (8 * y0).toNatClampNeg x2) a0 80)], sm_putI M b_2 (8 * y0).toNatClampNeg x2)) sm_a176_32 rfl rfl rfl ?_
  refine ru_go (t := (34, [some (.inr (some a0)), some (.inl x1), some (.inl x2), some (.inl x3), some (.inl x4), some (.inl x5), some (.inl x6), some (.inl y0), some (.inl (8 * y0))], [.inl x3, .inl ((8 * y0) + 1), .inr (sm_R (sm_putI M b_2 (8 * y0).toNatClampNeg x2) a0 80)], sm_putI M b_2 (8 * y0).toNatClampNeg x2)) sm_a176_33 rfl rfl rfl ?_
  obtain ⟨b_6, hb_7, h⟩ := h
  rw [hb_7]
  obtain ⟨h_8, h⟩ := h
  obtain ⟨h_9, h⟩ := h
  refine ru_go (t := (35, [some (.inr (some a0)), some (.inl x1), some (.inl x2), some (.inl x3), some (.inl x4), some (.inl x5), some (.inl x6), some (.inl y0), some (.inl (8 * y0))], [], sm_putI (sm_putI M b_2 (8 * y0).toNatClampNeg x2) b_6 ((8 * y0) + 1).toNatClampNeg x3)) sm_a176_34 rfl rfl (st_iast h_8 h_9) ?_
  refine ru_go (t := (36, [some (.inr (some a0)), some (.inl x1), some (.inl x2), some (.inl x3), some (.inl x4), some (.inl x5), some (.inl x6), some (.inl y0), some (.inl (8 * y0))], [.inr (some a0)], sm_putI (sm_putI M b_2 (8 * y0).toNatClampNeg x2) b_6 ((8 * y0) + 1).toNatClampNeg x3)) sm_a176_35 rfl rfl rfl ?_
  refine ru_go (t := (39, [some (.inr (some a0)), some (.inl x1), some (.inl x2), some (.inl x3), some (.inl x4), some (.inl x5), some (.inl x6), some (.inl y0), some (.inl (8 * y0))], [.inr (sm_R (sm_putI (sm_putI M b_2 (8 * y0).toNatClampNeg x2) b_6 ((8 * y0) + 1).toNatClampNeg x3) a0 80)], sm_putI (sm_putI M b_2 (8 * y0).toNatClampNeg x2) b_6 ((8 * y0) + 1).toNatClampNeg x3)) sm_a176_36 rfl rfl (st_getR h_1 rfl rfl) ?_
  refine ru_go (t := (41, [some (.inr (some a0)), some (.inl x1), some (.inl x2), some (.inl x3), some (.inl x4), some (.inl x5), some (.inl x6), some (.inl y0), some (.inl (8 * y0))], [.inl (8 * y0), .inr (sm_R (sm_putI (sm_putI M b_2 (8 * y0).toNatClampNeg x2) b_6 ((8 * y0) + 1).toNatClampNeg x3) a0 80)], sm_putI (sm_putI M b_2 (8 * y0).toNatClampNeg x2) b_6 ((8 * y0) + 1).toNatClampNeg x3)) sm_a176_39 rfl rfl rfl ?_
  refine ru_go (t := (42, [some (.inr (some a0)), some (.inl x1), some (.inl x2), some (.inl x3), some (.inl x4), some (.inl x5), some (.inl x6), some (.inl y0), some (.inl (8 * y0))], [.inl 2, .inl (8 * y0), .inr (sm_R (sm_putI (sm_putI M b_2 (8 * y0).toNatClampNeg x2) b_6 ((8 * y0) + 1).toNatClampNeg x3) a0 80)], sm_putI (sm_putI M b_2 (8 * y0).toNatClampNeg x2) b_6 ((8 * y0) + 1).toNatClampNeg x3)) sm_a176_41 rfl rfl (st_iconst (by decide)) ?_
  refine ru_go (t := (43, [some (.inr (some a0)), some (.inl x1), some (.inl x2), some (.inl x3), some (.inl x4), some (.inl x5), some (.inl x6), some (.inl y0), some (.inl (8 * y0))], [.inl ((8 * y0) + 2), .inr (sm_R (sm_putI (sm_putI M b_2 (8 * y0).toNatClampNeg x2) b_6 ((8 * y0) + 1).toNatClampNeg x3) a0 80)], sm_putI (sm_putI M b_2 (8 * y0).toNatClampNeg x2) b_6 ((8 * y0) + 1).toNatClampNeg x3)) sm_a176_42 rfl rfl rfl ?_
  refine ru_go (t := (45, [some (.inr (some a0)), some (.inl x1), some (.inl x2), some (.inl x3), some (.inl x4), some (.inl x5), some (.inl x6), some (.inl y0), some (.inl (8 * y0))], [.inl x4, .inl ((8 * y0) + 2), .inr (sm_R (sm_putI (sm_putI M b_2 (8 * y0).toNatClampNeg x2) b_6 ((8 * y0) + 1).toNatClampNeg x3) a0 80)], sm_putI (sm_putI M b_2 (8 * y0).toNatClampNeg x2) b_6 ((8 * y0) + 1).toNatClampNeg x3)) sm_a176_43 rfl rfl rfl ?_
  refine ru_go (t := (48, [some (.inr (some a0)), some (.inl x1), some (.inl x2), some (.inl x3), some (.inl x4), some (.inl x5), some (.inl x6), some (.inl y0), some (.inl (8 * y0))], [.inl 255, .inl x4, .inl ((8 * y0) + 2), .inr (sm_R (sm_putI (sm_putI M b_2 (8 * y0).toNatClampNeg x2) b_6 ((8 * y0) + 1).toNatClampNeg x3) a0 80)], sm_putI (sm_putI M b_2 (8 * y0).toNatClampNeg x2) b_6 ((8 * y0) + 1).toNatClampNeg x3)) sm_a176_45 rfl rfl (st_sipush (by decide)) ?_
  refine ru_go (t := (49, [some (.inr (some a0)), some (.inl x1), some (.inl x2), some (.inl x3), some (.inl x4), some (.inl x5), some (.inl x6), some (.inl y0), some (.inl (8 * y0))], [.inl (x4 &&& 255), .inl ((8 * y0) + 2), .inr (sm_R (sm_putI (sm_putI M b_2 (8 * y0).toNatClampNeg x2) b_6 ((8 * y0) + 1).toNatClampNeg x3) a0 80)], sm_putI (sm_putI M b_2 (8 * y0).toNatClampNeg x2) b_6 ((8 * y0) + 1).toNatClampNeg x3)) sm_a176_48 rfl rfl rfl ?_
  obtain ⟨b_10, hb_11, h⟩ := h
  rw [hb_11]
  obtain ⟨h_12, h⟩ := h
  obtain ⟨h_13, h⟩ := h
  refine ru_go (t := (50, [some (.inr (some a0)), some (.inl x1), some (.inl x2), some (.inl x3), some (.inl x4), some (.inl x5), some (.inl x6), some (.inl y0), some (.inl (8 * y0))], [], sm_putI (sm_putI (sm_putI M b_2 (8 * y0).toNatClampNeg x2) b_6 ((8 * y0) + 1).toNatClampNeg x3) b_10 ((8 * y0) + 2).toNatClampNeg (x4 &&& 255))) sm_a176_49 rfl rfl (st_iast h_12 h_13) ?_
  refine ru_go (t := (51, [some (.inr (some a0)), some (.inl x1), some (.inl x2), some (.inl x3), some (.inl x4), some (.inl x5), some (.inl x6), some (.inl y0), some (.inl (8 * y0))], [.inr (some a0)], sm_putI (sm_putI (sm_putI M b_2 (8 * y0).toNatClampNeg x2) b_6 ((8 * y0) + 1).toNatClampNeg x3) b_10 ((8 * y0) + 2).toNatClampNeg (x4 &&& 255))) sm_a176_50 rfl rfl rfl ?_
  refine ru_go (t := (54, [some (.inr (some a0)), some (.inl x1), some (.inl x2), some (.inl x3), some (.inl x4), some (.inl x5), some (.inl x6), some (.inl y0), some (.inl (8 * y0))], [.inr (sm_R (sm_putI (sm_putI (sm_putI M b_2 (8 * y0).toNatClampNeg x2) b_6 ((8 * y0) + 1).toNatClampNeg x3) b_10 ((8 * y0) + 2).toNatClampNeg (x4 &&& 255)) a0 80)], sm_putI (sm_putI (sm_putI M b_2 (8 * y0).toNatClampNeg x2) b_6 ((8 * y0) + 1).toNatClampNeg x3) b_10 ((8 * y0) + 2).toNatClampNeg (x4 &&& 255))) sm_a176_51 rfl rfl (st_getR h_1 rfl rfl) ?_
  refine ru_go (t := (56, [some (.inr (some a0)), some (.inl x1), some (.inl x2), some (.inl x3), some (.inl x4), some (.inl x5), some (.inl x6), some (.inl y0), some (.inl (8 * y0))], [.inl (8 * y0), .inr (sm_R (sm_putI (sm_putI (sm_putI M b_2 (8 * y0).toNatClampNeg x2) b_6 ((8 * y0) + 1).toNatClampNeg x3) b_10 ((8 * y0) + 2).toNatClampNeg (x4 &&& 255)) a0 80)], sm_putI (sm_putI (sm_putI M b_2 (8 * y0).toNatClampNeg x2) b_6 ((8 * y0) + 1).toNatClampNeg x3) b_10 ((8 * y0) + 2).toNatClampNeg (x4 &&& 255))) sm_a176_54 rfl rfl rfl ?_
  refine ru_go (t := (57, [some (.inr (some a0)), some (.inl x1), some (.inl x2), some (.inl x3), some (.inl x4), some (.inl x5), some (.inl x6), some (.inl y0), some (.inl (8 * y0))], [.inl 3, .inl (8 * y0), .inr (sm_R (sm_putI (sm_putI (sm_putI M b_2 (8 * y0).toNatClampNeg x2) b_6 ((8 * y0) + 1).toNatClampNeg x3) b_10 ((8 * y0) + 2).toNatClampNeg (x4 &&& 255)) a0 80)], sm_putI (sm_putI (sm_putI M b_2 (8 * y0).toNatClampNeg x2) b_6 ((8 * y0) + 1).toNatClampNeg x3) b_10 ((8 * y0) + 2).toNatClampNeg (x4 &&& 255))) sm_a176_56 rfl rfl (st_iconst (by decide)) ?_
  refine ru_go (t := (58, [some (.inr (some a0)), some (.inl x1), some (.inl x2), some (.inl x3), some (.inl x4), some (.inl x5), some (.inl x6), some (.inl y0), some (.inl (8 * y0))], [.inl ((8 * y0) + 3), .inr (sm_R (sm_putI (sm_putI (sm_putI M b_2 (8 * y0).toNatClampNeg x2) b_6 ((8 * y0) + 1).toNatClampNeg x3) b_10 ((8 * y0) + 2).toNatClampNeg (x4 &&& 255)) a0 80)], sm_putI (sm_putI (sm_putI M b_2 (8 * y0).toNatClampNeg x2) b_6 ((8 * y0) + 1).toNatClampNeg x3) b_10 ((8 * y0) + 2).toNatClampNeg (x4 &&& 255))) sm_a176_57 rfl rfl rfl ?_
  refine ru_go (t := (60, [some (.inr (some a0)), some (.inl x1), some (.inl x2), some (.inl x3), some (.inl x4), some (.inl x5), some (.inl x6), some (.inl y0), some (.inl (8 * y0))], [.inl x4, .inl ((8 * y0) + 3), .inr (sm_R (sm_putI (sm_putI (sm_putI M b_2 (8 * y0).toNatClampNeg x2) b_6 ((8 * y0) + 1).toNatClampNeg x3) b_10 ((8 * y0) + 2).toNatClampNeg (x4 &&& 255)) a0 80)], sm_putI (sm_putI (sm_putI M b_2 (8 * y0).toNatClampNeg x2) b_6 ((8 * y0) + 1).toNatClampNeg x3) b_10 ((8 * y0) + 2).toNatClampNeg (x4 &&& 255))) sm_a176_58 rfl rfl rfl ?_
  refine ru_go (t := (62, [some (.inr (some a0)), some (.inl x1), some (.inl x2), some (.inl x3), some (.inl x4), some (.inl x5), some (.inl x6), some (.inl y0), some (.inl (8 * y0))], [.inl 8, .inl x4, .inl ((8 * y0) + 3), .inr (sm_R (sm_putI (sm_putI (sm_putI M b_2 (8 * y0).toNatClampNeg x2) b_6 ((8 * y0) + 1).toNatClampNeg x3) b_10 ((8 * y0) + 2).toNatClampNeg (x4 &&& 255)) a0 80)], sm_putI (sm_putI (sm_putI M b_2 (8 * y0).toNatClampNeg x2) b_6 ((8 * y0) + 1).toNatClampNeg x3) b_10 ((8 * y0) + 2).toNatClampNeg (x4 &&& 255))) sm_a176_60 rfl rfl (st_bipush (by decide)) ?_
  refine ru_go (t := (63, [some (.inr (some a0)), some (.inl x1), some (.inl x2), some (.inl x3), some (.inl x4), some (.inl x5), some (.inl x6), some (.inl y0), some (.inl (8 * y0))], [.inl (x4 >>> (8 &&& 31)), .inl ((8 * y0) + 3), .inr (sm_R (sm_putI (sm_putI (sm_putI M b_2 (8 * y0).toNatClampNeg x2) b_6 ((8 * y0) + 1).toNatClampNeg x3) b_10 ((8 * y0) + 2).toNatClampNeg (x4 &&& 255)) a0 80)], sm_putI (sm_putI (sm_putI M b_2 (8 * y0).toNatClampNeg x2) b_6 ((8 * y0) + 1).toNatClampNeg x3) b_10 ((8 * y0) + 2).toNatClampNeg (x4 &&& 255))) sm_a176_62 rfl rfl rfl ?_
  refine ru_go (t := (66, [some (.inr (some a0)), some (.inl x1), some (.inl x2), some (.inl x3), some (.inl x4), some (.inl x5), some (.inl x6), some (.inl y0), some (.inl (8 * y0))], [.inl 255, .inl (x4 >>> (8 &&& 31)), .inl ((8 * y0) + 3), .inr (sm_R (sm_putI (sm_putI (sm_putI M b_2 (8 * y0).toNatClampNeg x2) b_6 ((8 * y0) + 1).toNatClampNeg x3) b_10 ((8 * y0) + 2).toNatClampNeg (x4 &&& 255)) a0 80)], sm_putI (sm_putI (sm_putI M b_2 (8 * y0).toNatClampNeg x2) b_6 ((8 * y0) + 1).toNatClampNeg x3) b_10 ((8 * y0) + 2).toNatClampNeg (x4 &&& 255))) sm_a176_63 rfl rfl (st_sipush (by decide)) ?_
  refine ru_go (t := (67, [some (.inr (some a0)), some (.inl x1), some (.inl x2), some (.inl x3), some (.inl x4), some (.inl x5), some (.inl x6), some (.inl y0), some (.inl (8 * y0))], [.inl ((x4 >>> (8 &&& 31)) &&& 255), .inl ((8 * y0) + 3), .inr (sm_R (sm_putI (sm_putI (sm_putI M b_2 (8 * y0).toNatClampNeg x2) b_6 ((8 * y0) + 1).toNatClampNeg x3) b_10 ((8 * y0) + 2).toNatClampNeg (x4 &&& 255)) a0 80)], sm_putI (sm_putI (sm_putI M b_2 (8 * y0).toNatClampNeg x2) b_6 ((8 * y0) + 1).toNatClampNeg x3) b_10 ((8 * y0) + 2).toNatClampNeg (x4 &&& 255))) sm_a176_66 rfl rfl rfl ?_
  obtain ⟨b_14, hb_15, h⟩ := h
  rw [hb_15]
  obtain ⟨h_16, h⟩ := h
  obtain ⟨h_17, h⟩ := h
  refine ru_go (t := (68, [some (.inr (some a0)), some (.inl x1), some (.inl x2), some (.inl x3), some (.inl x4), some (.inl x5), some (.inl x6), some (.inl y0), some (.inl (8 * y0))], [], sm_putI (sm_putI (sm_putI (sm_putI M b_2 (8 * y0).toNatClampNeg x2) b_6 ((8 * y0) + 1).toNatClampNeg x3) b_10 ((8 * y0) + 2).toNatClampNeg (x4 &&& 255)) b_14 ((8 * y0) + 3).toNatClampNeg ((x4 >>> (8 &&& 31)) &&& 255))) sm_a176_67 rfl rfl (st_iast h_16 h_17) ?_
  refine ru_go (t := (69, [some (.inr (some a0)), some (.inl x1), some (.inl x2), some (.inl x3), some (.inl x4), some (.inl x5), some (.inl x6), some (.inl y0), some (.inl (8 * y0))], [.inr (some a0)], sm_putI (sm_putI (sm_putI (sm_putI M b_2 (8 * y0).toNatClampNeg x2) b_6 ((8 * y0) + 1).toNatClampNeg x3) b_10 ((8 * y0) + 2).toNatClampNeg (x4 &&& 255)) b_14 ((8 * y0) + 3).toNatClampNeg ((x4 >>> (8 &&& 31)) &&& 255))) sm_a176_68 rfl rfl rfl ?_
  refine ru_go (t := (72, [some (.inr (some a0)), some (.inl x1), some (.inl x2), some (.inl x3), some (.inl x4), some (.inl x5), some (.inl x6), some (.inl y0), some (.inl (8 * y0))], [.inr (sm_R (sm_putI (sm_putI (sm_putI (sm_putI M b_2 (8 * y0).toNatClampNeg x2) b_6 ((8 * y0) + 1).toNatClampNeg x3) b_10 ((8 * y0) + 2).toNatClampNeg (x4 &&& 255)) b_14 ((8 * y0) + 3).toNatClampNeg ((x4 >>> (8 &&& 31)) &&& 255)) a0 80)], sm_putI (sm_putI (sm_putI (sm_putI M b_2 (8 * y0).toNatClampNeg x2) b_6 ((8 * y0) + 1).toNatClampNeg x3) b_10 ((8 * y0) + 2).toNatClampNeg (x4 &&& 255)) b_14 ((8 * y0) + 3).toNatClampNeg ((x4 >>> (8 &&& 31)) &&& 255))) sm_a176_69 rfl rfl (st_getR h_1 rfl rfl) ?_
  refine ru_go (t := (74, [some (.inr (some a0)), some (.inl x1), some (.inl x2), some (.inl x3), some (.inl x4), some (.inl x5), some (.inl x6), some (.inl y0), some (.inl (8 * y0))], [.inl (8 * y0), .inr (sm_R (sm_putI (sm_putI (sm_putI (sm_putI M b_2 (8 * y0).toNatClampNeg x2) b_6 ((8 * y0) + 1).toNatClampNeg x3) b_10 ((8 * y0) + 2).toNatClampNeg (x4 &&& 255)) b_14 ((8 * y0) + 3).toNatClampNeg ((x4 >>> (8 &&& 31)) &&& 255)) a0 80)], sm_putI (sm_putI (sm_putI (sm_putI M b_2 (8 * y0).toNatClampNeg x2) b_6 ((8 * y0) + 1).toNatClampNeg x3) b_10 ((8 * y0) + 2).toNatClampNeg (x4 &&& 255)) b_14 ((8 * y0) + 3).toNatClampNeg ((x4 >>> (8 &&& 31)) &&& 255))) sm_a176_72 rfl rfl rfl ?_
  refine ru_go (t := (75, [some (.inr (some a0)), some (.inl x1), some (.inl x2), some (.inl x3), some (.inl x4), some (.inl x5), some (.inl x6), some (.inl y0), some (.inl (8 * y0))], [.inl 4, .inl (8 * y0), .inr (sm_R (sm_putI (sm_putI (sm_putI (sm_putI M b_2 (8 * y0).toNatClampNeg x2) b_6 ((8 * y0) + 1).toNatClampNeg x3) b_10 ((8 * y0) + 2).toNatClampNeg (x4 &&& 255)) b_14 ((8 * y0) + 3).toNatClampNeg ((x4 >>> (8 &&& 31)) &&& 255)) a0 80)], sm_putI (sm_putI (sm_putI (sm_putI M b_2 (8 * y0).toNatClampNeg x2) b_6 ((8 * y0) + 1).toNatClampNeg x3) b_10 ((8 * y0) + 2).toNatClampNeg (x4 &&& 255)) b_14 ((8 * y0) + 3).toNatClampNeg ((x4 >>> (8 &&& 31)) &&& 255))) sm_a176_74 rfl rfl (st_iconst (by decide)) ?_
  refine ru_go (t := (76, [some (.inr (some a0)), some (.inl x1), some (.inl x2), some (.inl x3), some (.inl x4), some (.inl x5), some (.inl x6), some (.inl y0), some (.inl (8 * y0))], [.inl ((8 * y0) + 4), .inr (sm_R (sm_putI (sm_putI (sm_putI (sm_putI M b_2 (8 * y0).toNatClampNeg x2) b_6 ((8 * y0) + 1).toNatClampNeg x3) b_10 ((8 * y0) + 2).toNatClampNeg (x4 &&& 255)) b_14 ((8 * y0) + 3).toNatClampNeg ((x4 >>> (8 &&& 31)) &&& 255)) a0 80)], sm_putI (sm_putI (sm_putI (sm_putI M b_2 (8 * y0).toNatClampNeg x2) b_6 ((8 * y0) + 1).toNatClampNeg x3) b_10 ((8 * y0) + 2).toNatClampNeg (x4 &&& 255)) b_14 ((8 * y0) + 3).toNatClampNeg ((x4 >>> (8 &&& 31)) &&& 255))) sm_a176_75 rfl rfl rfl ?_
  refine ru_go (t := (78, [some (.inr (some a0)), some (.inl x1), some (.inl x2), some (.inl x3), some (.inl x4), some (.inl x5), some (.inl x6), some (.inl y0), some (.inl (8 * y0))], [.inl x5, .inl ((8 * y0) + 4), .inr (sm_R (sm_putI (sm_putI (sm_putI (sm_putI M b_2 (8 * y0).toNatClampNeg x2) b_6 ((8 * y0) + 1).toNatClampNeg x3) b_10 ((8 * y0) + 2).toNatClampNeg (x4 &&& 255)) b_14 ((8 * y0) + 3).toNatClampNeg ((x4 >>> (8 &&& 31)) &&& 255)) a0 80)], sm_putI (sm_putI (sm_putI (sm_putI M b_2 (8 * y0).toNatClampNeg x2) b_6 ((8 * y0) + 1).toNatClampNeg x3) b_10 ((8 * y0) + 2).toNatClampNeg (x4 &&& 255)) b_14 ((8 * y0) + 3).toNatClampNeg ((x4 >>> (8 &&& 31)) &&& 255))) sm_a176_76 rfl rfl rfl ?_
  refine ru_go (t := (81, [some (.inr (some a0)), some (.inl x1), some (.inl x2), some (.inl x3), some (.inl x4), some (.inl x5), some (.inl x6), some (.inl y0), some (.inl (8 * y0))], [.inl 255, .inl x5, .inl ((8 * y0) + 4), .inr (sm_R (sm_putI (sm_putI (sm_putI (sm_putI M b_2 (8 * y0).toNatClampNeg x2) b_6 ((8 * y0) + 1).toNatClampNeg x3) b_10 ((8 * y0) + 2).toNatClampNeg (x4 &&& 255)) b_14 ((8 * y0) + 3).toNatClampNeg ((x4 >>> (8 &&& 31)) &&& 255)) a0 80)], sm_putI (sm_putI (sm_putI (sm_putI M b_2 (8 * y0).toNatClampNeg x2) b_6 ((8 * y0) + 1).toNatClampNeg x3) b_10 ((8 * y0) + 2).toNatClampNeg (x4 &&& 255)) b_14 ((8 * y0) + 3).toNatClampNeg ((x4 >>> (8 &&& 31)) &&& 255))) sm_a176_78 rfl rfl (st_sipush (by decide)) ?_
  refine ru_go (t := (82, [some (.inr (some a0)), some (.inl x1), some (.inl x2), some (.inl x3), some (.inl x4), some (.inl x5), some (.inl x6), some (.inl y0), some (.inl (8 * y0))], [.inl (x5 &&& 255), .inl ((8 * y0) + 4), .inr (sm_R (sm_putI (sm_putI (sm_putI (sm_putI M b_2 (8 * y0).toNatClampNeg x2) b_6 ((8 * y0) + 1).toNatClampNeg x3) b_10 ((8 * y0) + 2).toNatClampNeg (x4 &&& 255)) b_14 ((8 * y0) + 3).toNatClampNeg ((x4 >>> (8 &&& 31)) &&& 255)) a0 80)], sm_putI (sm_putI (sm_putI (sm_putI M b_2 (8 * y0).toNatClampNeg x2) b_6 ((8 * y0) + 1).toNatClampNeg x3) b_10 ((8 * y0) + 2).toNatClampNeg (x4 &&& 255)) b_14 ((8 * y0) + 3).toNatClampNeg ((x4 >>> (8 &&& 31)) &&& 255))) sm_a176_81 rfl rfl rfl ?_
  obtain ⟨b_18, hb_19, h⟩ := h
  rw [hb_19]
  obtain ⟨h_20, h⟩ := h
  obtain ⟨h_21, h⟩ := h
  refine ru_go (t := (83, [some (.inr (some a0)), some (.inl x1), some (.inl x2), some (.inl x3), some (.inl x4), some (.inl x5), some (.inl x6), some (.inl y0), some (.inl (8 * y0))], [], sm_putI (sm_putI (sm_putI (sm_putI (sm_putI M b_2 (8 * y0).toNatClampNeg x2) b_6 ((8 * y0) + 1).toNatClampNeg x3) b_10 ((8 * y0) + 2).toNatClampNeg (x4 &&& 255)) b_14 ((8 * y0) + 3).toNatClampNeg ((x4 >>> (8 &&& 31)) &&& 255)) b_18 ((8 * y0) + 4).toNatClampNeg (x5 &&& 255))) sm_a176_82 rfl rfl (st_iast h_20 h_21) ?_
  refine ru_go (t := (84, [some (.inr (some a0)), some (.inl x1), some (.inl x2), some (.inl x3), some (.inl x4), some (.inl x5), some (.inl x6), some (.inl y0), some (.inl (8 * y0))], [.inr (some a0)], sm_putI (sm_putI (sm_putI (sm_putI (sm_putI M b_2 (8 * y0).toNatClampNeg x2) b_6 ((8 * y0) + 1).toNatClampNeg x3) b_10 ((8 * y0) + 2).toNatClampNeg (x4 &&& 255)) b_14 ((8 * y0) + 3).toNatClampNeg ((x4 >>> (8 &&& 31)) &&& 255)) b_18 ((8 * y0) + 4).toNatClampNeg (x5 &&& 255))) sm_a176_83 rfl rfl rfl ?_
  refine ru_go (t := (87, [some (.inr (some a0)), some (.inl x1), some (.inl x2), some (.inl x3), some (.inl x4), some (.inl x5), some (.inl x6), some (.inl y0), some (.inl (8 * y0))], [.inr (sm_R (sm_putI (sm_putI (sm_putI (sm_putI (sm_putI M b_2 (8 * y0).toNatClampNeg x2) b_6 ((8 * y0) + 1).toNatClampNeg x3) b_10 ((8 * y0) + 2).toNatClampNeg (x4 &&& 255)) b_14 ((8 * y0) + 3).toNatClampNeg ((x4 >>> (8 &&& 31)) &&& 255)) b_18 ((8 * y0) + 4).toNatClampNeg (x5 &&& 255)) a0 80)], sm_putI (sm_putI (sm_putI (sm_putI (sm_putI M b_2 (8 * y0).toNatClampNeg x2) b_6 ((8 * y0) + 1).toNatClampNeg x3) b_10 ((8 * y0) + 2).toNatClampNeg (x4 &&& 255)) b_14 ((8 * y0) + 3).toNatClampNeg ((x4 >>> (8 &&& 31)) &&& 255)) b_18 ((8 * y0) + 4).toNatClampNeg (x5 &&& 255))) sm_a176_84 rfl rfl (st_getR h_1 rfl rfl) ?_
  refine ru_go (t := (89, [some (.inr (some a0)), some (.inl x1), some (.inl x2), some (.inl x3), some (.inl x4), some (.inl x5), some (.inl x6), some (.inl y0), some (.inl (8 * y0))], [.inl (8 * y0), .inr (sm_R (sm_putI (sm_putI (sm_putI (sm_putI (sm_putI M b_2 (8 * y0).toNatClampNeg x2) b_6 ((8 * y0) + 1).toNatClampNeg x3) b_10 ((8 * y0) + 2).toNatClampNeg (x4 &&& 255)) b_14 ((8 * y0) + 3).toNatClampNeg ((x4 >>> (8 &&& 31)) &&& 255)) b_18 ((8 * y0) + 4).toNatClampNeg (x5 &&& 255)) a0 80)], sm_putI (sm_putI (sm_putI (sm_putI (sm_putI M b_2 (8 * y0).toNatClampNeg x2) b_6 ((8 * y0) + 1).toNatClampNeg x3) b_10 ((8 * y0) + 2).toNatClampNeg (x4 &&& 255)) b_14 ((8 * y0) + 3).toNatClampNeg ((x4 >>> (8 &&& 31)) &&& 255)) b_18 ((8 * y0) + 4).toNatClampNeg (x5 &&& 255))) sm_a176_87 rfl rfl rfl ?_
  refine ru_go (t := (90, [some (.inr (some a0)), some (.inl x1), some (.inl x2), some (.inl x3), some (.inl x4), some (.inl x5), some (.inl x6), some (.inl y0), some (.inl (8 * y0))], [.inl 5, .inl (8 * y0), .inr (sm_R (sm_putI (sm_putI (sm_putI (sm_putI (sm_putI M b_2 (8 * y0).toNatClampNeg x2) b_6 ((8 * y0) + 1).toNatClampNeg x3) b_10 ((8 * y0) + 2).toNatClampNeg (x4 &&& 255)) b_14 ((8 * y0) + 3).toNatClampNeg ((x4 >>> (8 &&& 31)) &&& 255)) b_18 ((8 * y0) + 4).toNatClampNeg (x5 &&& 255)) a0 80)], sm_putI (sm_putI (sm_putI (sm_putI (sm_putI M b_2 (8 * y0).toNatClampNeg x2) b_6 ((8 * y0) + 1).toNatClampNeg x3) b_10 ((8 * y0) + 2).toNatClampNeg (x4 &&& 255)) b_14 ((8 * y0) + 3).toNatClampNeg ((x4 >>> (8 &&& 31)) &&& 255)) b_18 ((8 * y0) + 4).toNatClampNeg (x5 &&& 255))) sm_a176_89 rfl rfl (st_iconst (by decide)) ?_
  refine ru_go (t := (91, [some (.inr (some a0)), some (.inl x1), some (.inl x2), some (.inl x3), some (.inl x4), some (.inl x5), some (.inl x6), some (.inl y0), some (.inl (8 * y0))], [.inl ((8 * y0) + 5), .inr (sm_R (sm_putI (sm_putI (sm_putI (sm_putI (sm_putI M b_2 (8 * y0).toNatClampNeg x2) b_6 ((8 * y0) + 1).toNatClampNeg x3) b_10 ((8 * y0) + 2).toNatClampNeg (x4 &&& 255)) b_14 ((8 * y0) + 3).toNatClampNeg ((x4 >>> (8 &&& 31)) &&& 255)) b_18 ((8 * y0) + 4).toNatClampNeg (x5 &&& 255)) a0 80)], sm_putI (sm_putI (sm_putI (sm_putI (sm_putI M b_2 (8 * y0).toNatClampNeg x2) b_6 ((8 * y0) + 1).toNatClampNeg x3) b_10 ((8 * y0) + 2).toNatClampNeg (x4 &&& 255)) b_14 ((8 * y0) + 3).toNatClampNeg ((x4 >>> (8 &&& 31)) &&& 255)) b_18 ((8 * y0) + 4).toNatClampNeg (x5 &&& 255))) sm_a176_90 rfl rfl rfl ?_
  refine ru_go (t := (93, [some (.inr (some a0)), some (.inl x1), some (.inl x2), some (.inl x3), some (.inl x4), some (.inl x5), some (.inl x6), some (.inl y0), some (.inl (8 * y0))], [.inl x5, .inl ((8 * y0) + 5), .inr (sm_R (sm_putI (sm_putI (sm_putI (sm_putI (sm_putI M b_2 (8 * y0).toNatClampNeg x2) b_6 ((8 * y0) + 1).toNatClampNeg x3) b_10 ((8 * y0) + 2).toNatClampNeg (x4 &&& 255)) b_14 ((8 * y0) + 3).toNatClampNeg ((x4 >>> (8 &&& 31)) &&& 255)) b_18 ((8 * y0) + 4).toNatClampNeg (x5 &&& 255)) a0 80)], sm_putI (sm_putI (sm_putI (sm_putI (sm_putI M b_2 (8 * y0).toNatClampNeg x2) b_6 ((8 * y0) + 1).toNatClampNeg x3) b_10 ((8 * y0) + 2).toNatClampNeg (x4 &&& 255)) b_14 ((8 * y0) + 3).toNatClampNeg ((x4 >>> (8 &&& 31)) &&& 255)) b_18 ((8 * y0) + 4).toNatClampNeg (x5 &&& 255))) sm_a176_91 rfl rfl rfl ?_
  refine ru_go (t := (95, [some (.inr (some a0)), some (.inl x1), some (.inl x2), some (.inl x3), some (.inl x4), some (.inl x5), some (.inl x6), some (.inl y0), some (.inl (8 * y0))], [.inl 8, .inl x5, .inl ((8 * y0) + 5), .inr (sm_R (sm_putI (sm_putI (sm_putI (sm_putI (sm_putI M b_2 (8 * y0).toNatClampNeg x2) b_6 ((8 * y0) + 1).toNatClampNeg x3) b_10 ((8 * y0) + 2).toNatClampNeg (x4 &&& 255)) b_14 ((8 * y0) + 3).toNatClampNeg ((x4 >>> (8 &&& 31)) &&& 255)) b_18 ((8 * y0) + 4).toNatClampNeg (x5 &&& 255)) a0 80)], sm_putI (sm_putI (sm_putI (sm_putI (sm_putI M b_2 (8 * y0).toNatClampNeg x2) b_6 ((8 * y0) + 1).toNatClampNeg x3) b_10 ((8 * y0) + 2).toNatClampNeg (x4 &&& 255)) b_14 ((8 * y0) + 3).toNatClampNeg ((x4 >>> (8 &&& 31)) &&& 255)) b_18 ((8 * y0) + 4).toNatClampNeg (x5 &&& 255))) sm_a176_93 rfl rfl (st_bipush (by decide)) ?_
  refine ru_go (t := (96, [some (.inr (some a0)), some (.inl x1), some (.inl x2), some (.inl x3), some (.inl x4), some (.inl x5), some (.inl x6), some (.inl y0), some (.inl (8 * y0))], [.inl (x5 >>> (8 &&& 31)), .inl ((8 * y0) + 5), .inr (sm_R (sm_putI (sm_putI (sm_putI (sm_putI (sm_putI M b_2 (8 * y0).toNatClampNeg x2) b_6 ((8 * y0) + 1).toNatClampNeg x3) b_10 ((8 * y0) + 2).toNatClampNeg (x4 &&& 255)) b_14 ((8 * y0) + 3).toNatClampNeg ((x4 >>> (8 &&& 31)) &&& 255)) b_18 ((8 * y0) + 4).toNatClampNeg (x5 &&& 255)) a0 80)], sm_putI (sm_putI (sm_putI (sm_putI (sm_putI M b_2 (8 * y0).toNatClampNeg x2) b_6 ((8 * y0) + 1).toNatClampNeg x3) b_10 ((8 * y0) + 2).toNatClampNeg (x4 &&& 255)) b_14 ((8 * y0) + 3).toNatClampNeg ((x4 >>> (8 &&& 31)) &&& 255)) b_18 ((8 * y0) + 4).toNatClampNeg (x5 &&& 255))) sm_a176_95 rfl rfl rfl ?_
  refine ru_go (t := (99, [some (.inr (some a0)), some (.inl x1), some (.inl x2), some (.inl x3), some (.inl x4), some (.inl x5), some (.inl x6), some (.inl y0), some (.inl (8 * y0))], [.inl 255, .inl (x5 >>> (8 &&& 31)), .inl ((8 * y0) + 5), .inr (sm_R (sm_putI (sm_putI (sm_putI (sm_putI (sm_putI M b_2 (8 * y0).toNatClampNeg x2) b_6 ((8 * y0) + 1).toNatClampNeg x3) b_10 ((8 * y0) + 2).toNatClampNeg (x4 &&& 255)) b_14 ((8 * y0) + 3).toNatClampNeg ((x4 >>> (8 &&& 31)) &&& 255)) b_18 ((8 * y0) + 4).toNatClampNeg (x5 &&& 255)) a0 80)], sm_putI (sm_putI (sm_putI (sm_putI (sm_putI M b_2 (8 * y0).toNatClampNeg x2) b_6 ((8 * y0) + 1).toNatClampNeg x3) b_10 ((8 * y0) + 2).toNatClampNeg (x4 &&& 255)) b_14 ((8 * y0) + 3).toNatClampNeg ((x4 >>> (8 &&& 31)) &&& 255)) b_18 ((8 * y0) + 4).toNatClampNeg (x5 &&& 255))) sm_a176_96 rfl rfl (st_sipush (by decide)) ?_
  refine ru_go (t := (100, [some (.inr (some a0)), some (.inl x1), some (.inl x2), some (.inl x3), some (.inl x4), some (.inl x5), some (.inl x6), some (.inl y0), some (.inl (8 * y0))], [.inl ((x5 >>> (8 &&& 31)) &&& 255), .inl ((8 * y0) + 5), .inr (sm_R (sm_putI (sm_putI (sm_putI (sm_putI (sm_putI M b_2 (8 * y0).toNatClampNeg x2) b_6 ((8 * y0) + 1).toNatClampNeg x3) b_10 ((8 * y0) + 2).toNatClampNeg (x4 &&& 255)) b_14 ((8 * y0) + 3).toNatClampNeg ((x4 >>> (8 &&& 31)) &&& 255)) b_18 ((8 * y0) + 4).toNatClampNeg (x5 &&& 255)) a0 80)], sm_putI (sm_putI (sm_putI (sm_putI (sm_putI M b_2 (8 * y0).toNatClampNeg x2) b_6 ((8 * y0) + 1).toNatClampNeg x3) b_10 ((8 * y0) + 2).toNatClampNeg (x4 &&& 255)) b_14 ((8 * y0) + 3).toNatClampNeg ((x4 >>> (8 &&& 31)) &&& 255)) b_18 ((8 * y0) + 4).toNatClampNeg (x5 &&& 255))) sm_a176_99 rfl rfl rfl ?_
  obtain ⟨b_22, hb_23, h⟩ := h
  rw [hb_23]
  obtain ⟨h_24, h⟩ := h
  obtain ⟨h_25, h⟩ := h
  refine ru_go (t := (101, [some (.inr (some a0)), some (.inl x1), some (.inl x2), some (.inl x3), some (.inl x4), some (.inl x5), some (.inl x6), some (.inl y0), some (.inl (8 * y0))], [], sm_putI (sm_putI (sm_putI (sm_putI (sm_putI (sm_putI M b_2 (8 * y0).toNatClampNeg x2) b_6 ((8 * y0) + 1).toNatClampNeg x3) b_10 ((8 * y0) + 2).toNatClampNeg (x4 &&& 255)) b_14 ((8 * y0) + 3).toNatClampNeg ((x4 >>> (8 &&& 31)) &&& 255)) b_18 ((8 * y0) + 4).toNatClampNeg (x5 &&& 255)) b_22 ((8 * y0) + 5).toNatClampNeg ((x5 >>> (8 &&& 31)) &&& 255))) sm_a176_100 rfl rfl (st_iast h_24 h_25) ?_
  refine ru_go (t := (102, [some (.inr (some a0)), some (.inl x1), some (.inl x2), some (.inl x3), some (.inl x4), some (.inl x5), some (.inl x6), some (.inl y0), some (.inl (8 * y0))], [.inr (some a0)], sm_putI (sm_putI (sm_putI (sm_putI (sm_putI (sm_putI M b_2 (8 * y0).toNatClampNeg x2) b_6 ((8 * y0) + 1).toNatClampNeg x3) b_10 ((8 * y0) + 2).toNatClampNeg (x4 &&& 255)) b_14 ((8 * y0) + 3).toNatClampNeg ((x4 >>> (8 &&& 31)) &&& 255)) b_18 ((8 * y0) + 4).toNatClampNeg (x5 &&& 255)) b_22 ((8 * y0) + 5).toNatClampNeg ((x5 >>> (8 &&& 31)) &&& 255))) sm_a176_101 rfl rfl rfl ?_
  refine ru_go (t := (105, [some (.inr (some a0)), some (.inl x1), some (.inl x2), some (.inl x3), some (.inl x4), some (.inl x5), some (.inl x6), some (.inl y0), some (.inl (8 * y0))], [.inr (sm_R (sm_putI (sm_putI (sm_putI (sm_putI (sm_putI (sm_putI M b_2 (8 * y0).toNatClampNeg x2) b_6 ((8 * y0) + 1).toNatClampNeg x3) b_10 ((8 * y0) + 2).toNatClampNeg (x4 &&& 255)) b_14 ((8 * y0) + 3).toNatClampNeg ((x4 >>> (8 &&& 31)) &&& 255)) b_18 ((8 * y0) + 4).toNatClampNeg (x5 &&& 255)) b_22 ((8 * y0) + 5).toNatClampNeg ((x5 >>> (8 &&& 31)) &&& 255)) a0 80)], sm_putI (sm_putI (sm_putI (sm_putI (sm_putI (sm_putI M b_2 (8 * y0).toNatClampNeg x2) b_6 ((8 * y0) + 1).toNatClampNeg x3) b_10 ((8 * y0) + 2).toNatClampNeg (x4 &&& 255)) b_14 ((8 * y0) + 3).toNatClampNeg ((x4 >>> (8 &&& 31)) &&& 255)) b_18 ((8 * y0) + 4).toNatClampNeg (x5 &&& 255)) b_22 ((8 * y0) + 5).toNatClampNeg ((x5 >>> (8 &&& 31)) &&& 255))) sm_a176_102 rfl rfl (st_getR h_1 rfl rfl) ?_
  refine ru_go (t := (107, [some (.inr (some a0)), some (.inl x1), some (.inl x2), some (.inl x3), some (.inl x4), some (.inl x5), some (.inl x6), some (.inl y0), some (.inl (8 * y0))], [.inl (8 * y0), .inr (sm_R (sm_putI (sm_putI (sm_putI (sm_putI (sm_putI (sm_putI M b_2 (8 * y0).toNatClampNeg x2) b_6 ((8 * y0) + 1).toNatClampNeg x3) b_10 ((8 * y0) + 2).toNatClampNeg (x4 &&& 255)) b_14 ((8 * y0) + 3).toNatClampNeg ((x4 >>> (8 &&& 31)) &&& 255)) b_18 ((8 * y0) + 4).toNatClampNeg (x5 &&& 255)) b_22 ((8 * y0) + 5).toNatClampNeg ((x5 >>> (8 &&& 31)) &&& 255)) a0 80)], sm_putI (sm_putI (sm_putI (sm_putI (sm_putI (sm_putI M b_2 (8 * y0).toNatClampNeg x2) b_6 ((8 * y0) + 1).toNatClampNeg x3) b_10 ((8 * y0) + 2).toNatClampNeg (x4 &&& 255)) b_14 ((8 * y0) + 3).toNatClampNeg ((x4 >>> (8 &&& 31)) &&& 255)) b_18 ((8 * y0) + 4).toNatClampNeg (x5 &&& 255)) b_22 ((8 * y0) + 5).toNatClampNeg ((x5 >>> (8 &&& 31)) &&& 255))) sm_a176_105 rfl rfl rfl ?_
  refine ru_go (t := (109, [some (.inr (some a0)), some (.inl x1), some (.inl x2), some (.inl x3), some (.inl x4), some (.inl x5), some (.inl x6), some (.inl y0), some (.inl (8 * y0))], [.inl 6, .inl (8 * y0), .inr (sm_R (sm_putI (sm_putI (sm_putI (sm_putI (sm_putI (sm_putI M b_2 (8 * y0).toNatClampNeg x2) b_6 ((8 * y0) + 1).toNatClampNeg x3) b_10 ((8 * y0) + 2).toNatClampNeg (x4 &&& 255)) b_14 ((8 * y0) + 3).toNatClampNeg ((x4 >>> (8 &&& 31)) &&& 255)) b_18 ((8 * y0) + 4).toNatClampNeg (x5 &&& 255)) b_22 ((8 * y0) + 5).toNatClampNeg ((x5 >>> (8 &&& 31)) &&& 255)) a0 80)], sm_putI (sm_putI (sm_putI (sm_putI (sm_putI (sm_putI M b_2 (8 * y0).toNatClampNeg x2) b_6 ((8 * y0) + 1).toNatClampNeg x3) b_10 ((8 * y0) + 2).toNatClampNeg (x4 &&& 255)) b_14 ((8 * y0) + 3).toNatClampNeg ((x4 >>> (8 &&& 31)) &&& 255)) b_18 ((8 * y0) + 4).toNatClampNeg (x5 &&& 255)) b_22 ((8 * y0) + 5).toNatClampNeg ((x5 >>> (8 &&& 31)) &&& 255))) sm_a176_107 rfl rfl (st_bipush (by decide)) ?_
  refine ru_go (t := (110, [some (.inr (some a0)), some (.inl x1), some (.inl x2), some (.inl x3), some (.inl x4), some (.inl x5), some (.inl x6), some (.inl y0), some (.inl (8 * y0))], [.inl ((8 * y0) + 6), .inr (sm_R (sm_putI (sm_putI (sm_putI (sm_putI (sm_putI (sm_putI M b_2 (8 * y0).toNatClampNeg x2) b_6 ((8 * y0) + 1).toNatClampNeg x3) b_10 ((8 * y0) + 2).toNatClampNeg (x4 &&& 255)) b_14 ((8 * y0) + 3).toNatClampNeg ((x4 >>> (8 &&& 31)) &&& 255)) b_18 ((8 * y0) + 4).toNatClampNeg (x5 &&& 255)) b_22 ((8 * y0) + 5).toNatClampNeg ((x5 >>> (8 &&& 31)) &&& 255)) a0 80)], sm_putI (sm_putI (sm_putI (sm_putI (sm_putI (sm_putI M b_2 (8 * y0).toNatClampNeg x2) b_6 ((8 * y0) + 1).toNatClampNeg x3) b_10 ((8 * y0) + 2).toNatClampNeg (x4 &&& 255)) b_14 ((8 * y0) + 3).toNatClampNeg ((x4 >>> (8 &&& 31)) &&& 255)) b_18 ((8 * y0) + 4).toNatClampNeg (x5 &&& 255)) b_22 ((8 * y0) + 5).toNatClampNeg ((x5 >>> (8 &&& 31)) &&& 255))) sm_a176_109 rfl rfl rfl ?_
  refine ru_go (t := (112, [some (.inr (some a0)), some (.inl x1), some (.inl x2), some (.inl x3), some (.inl x4), some (.inl x5), some (.inl x6), some (.inl y0), some (.inl (8 * y0))], [.inl x6, .inl ((8 * y0) + 6), .inr (sm_R (sm_putI (sm_putI (sm_putI (sm_putI (sm_putI (sm_putI M b_2 (8 * y0).toNatClampNeg x2) b_6 ((8 * y0) + 1).toNatClampNeg x3) b_10 ((8 * y0) + 2).toNatClampNeg (x4 &&& 255)) b_14 ((8 * y0) + 3).toNatClampNeg ((x4 >>> (8 &&& 31)) &&& 255)) b_18 ((8 * y0) + 4).toNatClampNeg (x5 &&& 255)) b_22 ((8 * y0) + 5).toNatClampNeg ((x5 >>> (8 &&& 31)) &&& 255)) a0 80)], sm_putI (sm_putI (sm_putI (sm_putI (sm_putI (sm_putI M b_2 (8 * y0).toNatClampNeg x2) b_6 ((8 * y0) + 1).toNatClampNeg x3) b_10 ((8 * y0) + 2).toNatClampNeg (x4 &&& 255)) b_14 ((8 * y0) + 3).toNatClampNeg ((x4 >>> (8 &&& 31)) &&& 255)) b_18 ((8 * y0) + 4).toNatClampNeg (x5 &&& 255)) b_22 ((8 * y0) + 5).toNatClampNeg ((x5 >>> (8 &&& 31)) &&& 255))) sm_a176_110 rfl rfl rfl ?_
  refine ru_go (t := (115, [some (.inr (some a0)), some (.inl x1), some (.inl x2), some (.inl x3), some (.inl x4), some (.inl x5), some (.inl x6), some (.inl y0), some (.inl (8 * y0))], [.inl 255, .inl x6, .inl ((8 * y0) + 6), .inr (sm_R (sm_putI (sm_putI (sm_putI (sm_putI (sm_putI (sm_putI M b_2 (8 * y0).toNatClampNeg x2) b_6 ((8 * y0) + 1).toNatClampNeg x3) b_10 ((8 * y0) + 2).toNatClampNeg (x4 &&& 255)) b_14 ((8 * y0) + 3).toNatClampNeg ((x4 >>> (8 &&& 31)) &&& 255)) b_18 ((8 * y0) + 4).toNatClampNeg (x5 &&& 255)) b_22 ((8 * y0) + 5).toNatClampNeg ((x5 >>> (8 &&& 31)) &&& 255)) a0 80)], sm_putI (sm_putI (sm_putI (sm_putI (sm_putI (sm_putI M b_2 (8 * y0).toNatClampNeg x2) b_6 ((8 * y0) + 1).toNatClampNeg x3) b_10 ((8 * y0) + 2).toNatClampNeg (x4 &&& 255)) b_14 ((8 * y0) + 3).toNatClampNeg ((x4 >>> (8 &&& 31)) &&& 255)) b_18 ((8 * y0) + 4).toNatClampNeg (x5 &&& 255)) b_22 ((8 * y0) + 5).toNatClampNeg ((x5 >>> (8 &&& 31)) &&& 255))) sm_a176_112 rfl rfl (st_sipush (by decide)) ?_
  refine ru_go (t := (116, [some (.inr (some a0)), some (.inl x1), some (.inl x2), some (.inl x3), some (.inl x4), some (.inl x5), some (.inl x6), some (.inl y0), some (.inl (8 * y0))], [.inl (x6 &&& 255), .inl ((8 * y0) + 6), .inr (sm_R (sm_putI (sm_putI (sm_putI (sm_putI (sm_putI (sm_putI M b_2 (8 * y0).toNatClampNeg x2) b_6 ((8 * y0) + 1).toNatClampNeg x3) b_10 ((8 * y0) + 2).toNatClampNeg (x4 &&& 255)) b_14 ((8 * y0) + 3).toNatClampNeg ((x4 >>> (8 &&& 31)) &&& 255)) b_18 ((8 * y0) + 4).toNatClampNeg (x5 &&& 255)) b_22 ((8 * y0) + 5).toNatClampNeg ((x5 >>> (8 &&& 31)) &&& 255)) a0 80)], sm_putI (sm_putI (sm_putI (sm_putI (sm_putI (sm_putI M b_2 (8 * y0).toNatClampNeg x2) b_6 ((8 * y0) + 1).toNatClampNeg x3) b_10 ((8 * y0) + 2).toNatClampNeg (x4 &&& 255)) b_14 ((8 * y0) + 3).toNatClampNeg ((x4 >>> (8 &&& 31)) &&& 255)) b_18 ((8 * y0) + 4).toNatClampNeg (x5 &&& 255)) b_22 ((8 * y0) + 5).toNatClampNeg ((x5 >>> (8 &&& 31)) &&& 255))) sm_a176_115 rfl rfl rfl ?_
  obtain ⟨b_26, hb_27, h⟩ := h
  rw [hb_27]
  obtain ⟨h_28, h⟩ := h
  obtain ⟨h_29, h⟩ := h
  refine ru_go (t := (117, [some (.inr (some a0)), some (.inl x1), some (.inl x2), some (.inl x3), some (.inl x4), some (.inl x5), some (.inl x6), some (.inl y0), some (.inl (8 * y0))], [], sm_putI (sm_putI (sm_putI (sm_putI (sm_putI (sm_putI (sm_putI M b_2 (8 * y0).toNatClampNeg x2) b_6 ((8 * y0) + 1).toNatClampNeg x3) b_10 ((8 * y0) + 2).toNatClampNeg (x4 &&& 255)) b_14 ((8 * y0) + 3).toNatClampNeg ((x4 >>> (8 &&& 31)) &&& 255)) b_18 ((8 * y0) + 4).toNatClampNeg (x5 &&& 255)) b_22 ((8 * y0) + 5).toNatClampNeg ((x5 >>> (8 &&& 31)) &&& 255)) b_26 ((8 * y0) + 6).toNatClampNeg (x6 &&& 255))) sm_a176_116 rfl rfl (st_iast h_28 h_29) ?_
  exact h
theorem bb_176_117 {d : Nat} {M : sm_M} {Q : Option sm_V → sm_M → Prop} {a0 : Nat} {x1 : Int32} {x2 : Int32} {x3 : Int32} {x4 : Int32} {x5 : Int32} {x6 : Int32} {x7 : Int32} {x8 : Int32}
    (h : sm_K M a0 = 39 ∧ ∃ b_2, sm_R M a0 80 = some b_2 ∧ sm_wA 1 M b_2 ∧ sm_in_ M b_2 (x8 + 7) ∧ Q (some (.inl x7)) (sm_putI M b_2 (x8 + 7).toNatClampNeg ((x6 >>> (8 &&& 31)) &&& 255))) :
    sm_Run (d + 1) 176 117 [some (.inr (some a0)), some (.inl x1), some (.inl x2), some (.inl x3), some (.inl x4), some (.inl x5), some (.inl x6), some (.inl x7), some (.inl x8)] [] M Q := by
  refine ru_go (t := (118, [some (.inr (some a0)), some (.inl x1), some (.inl x2), some (.inl x3), some (.inl x4), some (.inl x5), some (.inl x6), some (.inl x7), some (.inl x8)], [.inr (some a0)], M)) sm_a176_117 rfl rfl rfl ?_
  obtain ⟨h_1, h⟩ := h
  refine ru_go (t := (121, [some (.inr (some a0)), some (.inl x1), some (.inl x2), some (.inl x3), some (.inl x4), some (.inl x5), some (.inl x6), some (.inl x7), some (.inl x8)], [.inr (sm_R M a0 80)], M)) sm_a176_118 rfl rfl (st_getR h_1 rfl rfl) ?_
  refine ru_go (t := (123, [some (.inr (some a0)), some (.inl x1), some (.inl x2), some (.inl x3), some (.inl x4), some (.inl x5), some (.inl x6), some (.inl x7), some (.inl x8)], [.inl x8, .inr (sm_R M a0 80)], M)) sm_a176_121 rfl rfl rfl ?_
  refine ru_go (t := (125, [some (.inr (some a0)), some (.inl x1), some (.inl x2), some (.inl x3), some (.inl x4), some (.inl x5), some (.inl x6), some (.inl x7), some (.inl x8)], [.inl 7, .inl x8, .inr (sm_R M a0 80)], M)) sm_a176_123 rfl rfl (st_bipush (by decide)) ?_
  refine ru_go (t := (126, [some (.inr (some a0)), some (.inl x1), some (.inl x2), some (.inl x3), some (.inl x4), some (.inl x5), some (.inl x6), some (.inl x7), some (.inl x8)], [.inl (x8 + 7), .inr (sm_R M a0 80)], M)) sm_a176_125 rfl rfl rfl ?_
  refine ru_go (t := (128, [some (.inr (some a0)), some (.inl x1), some (.inl x2), some (.inl x3), some (.inl x4), some (.inl x5), some (.inl x6), some (.inl x7), some (.inl x8)], [.inl x6, .inl (x8 + 7), .inr (sm_R M a0 80)], M)) sm_a176_126 rfl rfl rfl ?_
  refine ru_go (t := (130, [some (.inr (some a0)), some (.inl x1), some (.inl x2), some (.inl x3), some (.inl x4), some (.inl x5), some (.inl x6), some (.inl x7), some (.inl x8)], [.inl 8, .inl x6, .inl (x8 + 7), .inr (sm_R M a0 80)], M)) sm_a176_128 rfl rfl (st_bipush (by decide)) ?_
  refine ru_go (t := (131, [some (.inr (some a0)), some (.inl x1), some (.inl x2), some (.inl x3), some (.inl x4), some (.inl x5), some (.inl x6), some (.inl x7), some (.inl x8)], [.inl (x6 >>> (8 &&& 31)), .inl (x8 + 7), .inr (sm_R M a0 80)], M)) sm_a176_130 rfl rfl rfl ?_
  refine ru_go (t := (134, [some (.inr (some a0)), some (.inl x1), some (.inl x2), some (.inl x3), some (.inl x4), some (.inl x5), some (.inl x6), some (.inl x7), some (.inl x8)], [.inl 255, .inl (x6 >>> (8 &&& 31)), .inl (x8 + 7), .inr (sm_R M a0 80)], M)) sm_a176_131 rfl rfl (st_sipush (by decide)) ?_
  refine ru_go (t := (135, [some (.inr (some a0)), some (.inl x1), some (.inl x2), some (.inl x3), some (.inl x4), some (.inl x5), some (.inl x6), some (.inl x7), some (.inl x8)], [.inl ((x6 >>> (8 &&& 31)) &&& 255), .inl (x8 + 7), .inr (sm_R M a0 80)], M)) sm_a176_134 rfl rfl rfl ?_
  obtain ⟨b_2, hb_3, h⟩ := h
  rw [hb_3]
  obtain ⟨h_4, h⟩ := h
  obtain ⟨h_5, h⟩ := h
  refine ru_go (t := (136, [some (.inr (some a0)), some (.inl x1), some (.inl x2), some (.inl x3), some (.inl x4), some (.inl x5), some (.inl x6), some (.inl x7), some (.inl x8)], [], sm_putI M b_2 (x8 + 7).toNatClampNeg ((x6 >>> (8 &&& 31)) &&& 255))) sm_a176_135 rfl rfl (st_iast h_4 h_5) ?_
  refine ru_go (t := (138, [some (.inr (some a0)), some (.inl x1), some (.inl x2), some (.inl x3), some (.inl x4), some (.inl x5), some (.inl x6), some (.inl x7), some (.inl x8)], [.inl x7], sm_putI M b_2 (x8 + 7).toNatClampNeg ((x6 >>> (8 &&& 31)) &&& 255))) sm_a176_136 rfl rfl rfl ?_
  exact ru_ret sm_a176_138 rfl h

/-! WireBusModel.pipeOf:(II)I -/
theorem sm_a177_0 : sm_at 177 0 = some (.iload_n 1, 1, (0, 0, 0, 0)) := by decide +kernel
theorem sm_a177_1 : sm_at 177 1 = some (.ifCond .lt 8, 3, (0, 0, 0, 0)) := by decide +kernel
theorem sm_a177_4 : sm_at 177 4 = some (.iload_n 1, 1, (0, 0, 0, 0)) := by decide +kernel
theorem sm_a177_5 : sm_at 177 5 = some (.iconst 5, 1, (0, 0, 0, 0)) := by decide +kernel
theorem sm_a177_6 : sm_at 177 6 = some (.if_icmp .le 5, 3, (0, 0, 0, 0)) := by decide +kernel
theorem sm_a177_9 : sm_at 177 9 = some (.iconst (-1), 1, (0, 0, 0, 0)) := by decide +kernel
theorem sm_a177_10 : sm_at 177 10 = some (.ireturn, 1, (0, 0, 0, 0)) := by decide +kernel
theorem sm_a177_11 : sm_at 177 11 = some (.iconst 0, 1, (0, 0, 0, 0)) := by decide +kernel
theorem sm_a177_12 : sm_at 177 12 = some (.istore_n 3, 1, (0, 0, 0, 0)) := by decide +kernel
theorem sm_a177_13 : sm_at 177 13 = some (.iload_n 3, 1, (0, 0, 0, 0)) := by decide +kernel
theorem sm_a177_14 : sm_at 177 14 = some (.aload_n 0, 1, (0, 0, 0, 0)) := by decide +kernel
theorem sm_a177_15 : sm_at 177 15 = some (.getfield 161, 3, (12, 61, 0, 1244)) := by decide +kernel
theorem sm_a177_18 : sm_at 177 18 = some (.iload_n 1, 1, (0, 0, 0, 0)) := by decide +kernel
theorem sm_a177_19 : sm_at 177 19 = some (.iaload, 1, (0, 0, 0, 0)) := by decide +kernel
theorem sm_a177_20 : sm_at 177 20 = some (.if_icmp .ge 31, 3, (0, 0, 0, 0)) := by decide +kernel
theorem sm_a177_23 : sm_at 177 23 = some (.aload_n 0, 1, (0, 0, 0, 0)) := by decide +kernel
theorem sm_a177_24 : sm_at 177 24 = some (.getfield 164, 3, (12, 62, 0, 1245)) := by decide +kernel
theorem sm_a177_27 : sm_at 177 27 = some (.bipush 10, 2, (0, 0, 0, 0)) := by decide +kernel
theorem sm_a177_29 : sm_at 177 29 = some (.iload_n 1, 1, (0, 0, 0, 0)) := by decide +kernel
theorem sm_a177_30 : sm_at 177 30 = some (.imul, 1, (0, 0, 0, 0)) := by decide +kernel
theorem sm_a177_31 : sm_at 177 31 = some (.iload_n 3, 1, (0, 0, 0, 0)) := by decide +kernel
theorem sm_a177_32 : sm_at 177 32 = some (.iadd, 1, (0, 0, 0, 0)) := by decide +kernel
theorem sm_a177_33 : sm_at 177 33 = some (.iaload, 1, (0, 0, 0, 0)) := by decide +kernel
theorem sm_a177_34 : sm_at 177 34 = some (.iload_n 2, 1, (0, 0, 0, 0)) := by decide +kernel
theorem sm_a177_35 : sm_at 177 35 = some (.if_icmp .ne 10, 3, (0, 0, 0, 0)) := by decide +kernel
theorem sm_a177_38 : sm_at 177 38 = some (.bipush 10, 2, (0, 0, 0, 0)) := by decide +kernel
theorem sm_a177_40 : sm_at 177 40 = some (.iload_n 1, 1, (0, 0, 0, 0)) := by decide +kernel
theorem sm_a177_41 : sm_at 177 41 = some (.imul, 1, (0, 0, 0, 0)) := by decide +kernel
theorem sm_a177_42 : sm_at 177 42 = some (.iload_n 3, 1, (0, 0, 0, 0)) := by decide +kernel
theorem sm_a177_43 : sm_at 177 43 = some (.iadd, 1, (0, 0, 0, 0)) := by decide +kernel
theorem sm_a177_44 : sm_at 177 44 = some (.ireturn, 1, (0, 0, 0, 0)) := by decide +kernel
theorem sm_a177_45 : sm_at 177 45 = some (.iinc 3 1, 3, (0, 0, 0, 0)) := by decide +kernel
theorem sm_a177_48 : sm_at 177 48 = some (.goto (-35), 3, (0, 0, 0, 0)) := by decide +kernel
theorem sm_a177_51 : sm_at 177 51 = some (.iconst (-1), 1, (0, 0, 0, 0)) := by decide +kernel
theorem sm_a177_52 : sm_at 177 52 = some (.ireturn, 1, (0, 0, 0, 0)) := by decide +kernel
theorem bb_177_0 {d : Nat} {M : sm_M} {Q : Option sm_V → sm_M → Prop} {a0 : Nat} {x1 : Int32} {x2 : Int32} {z3 : Option sm_V}
    (h : ((x1 < 0 → Q (some (.inl (-1))) M) ∧ (¬ (x1 < 0) → ((x1 ≤ 5 → sm_Run d 177 13 [some (.inr (some a0)), some (.inl x1), some (.inl x2), some (.inl 0)] [] M Q) ∧ (¬ (x1 ≤ 5) → Q (some (.inl (-1))) M))))) :
    sm_Run d 177 0 [some (.inr (some a0)), some (.inl x1), some (.inl x2), z3] [] M Q := by
  refine ru_go (t := (1, [some (.inr (some a0)), some (.inl x1), some (.inl x2), z3], [.inl x1], M)) sm_a177_0 rfl rfl rfl ?_
  refine ru_if (pc := 1) (p := 9) (p2 := 4) sm_a177_1 (by decide) rfl ⟨fun hc_1 => ?_, fun hc_1 => ?_⟩
  · have h := h.1 hc_1
    refine ru_go (t := (10, [some (.inr (some a0)), some (.inl x1), some (.inl x2), z3], [.inl (-1)], M)) sm_a177_9 rfl rfl (st_iconst (by decide)) ?_
    exact ru_ret sm_a177_10 rfl h
  · have h := h.2 hc_1
    refine ru_go (t := (5, [some (.inr (some a0)), some (.inl x1), some (.inl x2), z3], [.inl x1], M)) sm_a177_4 rfl rfl rfl ?_
    refine ru_go (t := (6, [some (.inr (some a0)), some (.inl x1), some (.inl x2), z3], [.inl 5, .inl x1], M)) sm_a177_5 rfl rfl (st_iconst (by decide)) ?_
    refine ru_icmp (pc := 6) (p := 11) (p2 := 9) sm_a177_6 (by decide) rfl ⟨fun hc_2 => ?_, fun hc_2 => ?_⟩
    · have h := h.1 hc_2
      refine ru_go (t := (12, [some (.inr (some a0)), some (.inl x1), some (.inl x2), z3], [.inl 0], M)) sm_a177_11 rfl rfl (st_iconst (by decide)) ?_
      refine ru_go (t := (13, [some (.inr (some a0)), some (.inl x1), some (.inl x2), some (.inl 0)], [], M)) sm_a177_12 rfl rfl rfl ?_
      exact h
    · have h := h.2 hc_2
      refine ru_go (t := (10, [some (.inr (some a0)), some (.inl x1), some (.inl x2), z3], [.inl (-1)], M)) sm_a177_9 rfl rfl (st_iconst (by decide)) ?_
      exact ru_ret sm_a177_10 rfl h
theorem bb_177_13 {d : Nat} {M : sm_M} {Q : Option sm_V → sm_M → Prop} {a0 : Nat} {x1 : Int32} {x2 : Int32} {x3 : Int32}
    (h : sm_K M a0 = 39 ∧ ∃ b_2, sm_R M a0 61 = some b_2 ∧ sm_iA M b_2 ∧ sm_in_ M b_2 x1 ∧ (((sm_I M b_2 (x1).toNatClampNeg) ≤ x3 → Q (some (.inl (-1))) M) ∧ (¬ ((sm_I M b_2 (x1).toNatClampNeg) ≤ x3) → ∃ b_7, sm_R M a0 62 = some b_7 ∧ sm_iA M b_7 ∧ sm_in_ M b_7 ((10 * x1) + x3) ∧ ((¬ (sm_I M b_7 ((10 * x1) + x3).toNatClampNeg) = x2 → sm_Run d 177 13 [some (.inr (some a0)), some (.inl x1), some (.inl x2), some (.inl (x3 + 1))] [] M Q) ∧ (¬ (¬ (sm_I M b_7 ((10 * x1) + x3).toNatClampNeg) = x2) → Q (some (.inl ((10 * x1) + x3))) M))))) :
    sm_Run d 177 13 [some (.inr (some a0)), some (.inl x1), some (.inl x2), some (.inl x3)] [] M Q := by
  refine ru_go (t := (14, [some (.inr (some a0)), some (.inl x1), some (.inl x2), some (.inl x3)], [.inl x3], M)) sm_a177_13 rfl rfl rfl ?_
  refine ru_go (t := (15, [some (.inr (some a0)), some (.inl x1), some (.inl x2), some (.inl x3)], [.inr (some a0), .inl x3], M)) sm_a177_14 rfl rfl rfl ?_
  obtain ⟨h_1, h⟩ := h
  refine ru_go (t := (18, [some (.inr (some a0)), some (.inl x1), some (.inl x2), some (.inl x3)], [.inr (sm_R M a0 61), .inl x3], M)) sm_a177_15 rfl rfl (st_getR h_1 rfl rfl) ?_
  refine ru_go (t := (19, [some (.inr (some a0)), some (.inl x1), some (.inl x2), some (.inl x3)], [.inl x1, .inr (sm_R M a0 61), .inl x3], M)) sm_a177_18 rfl rfl rfl ?_
  obtain ⟨b_2, hb_3, h⟩ := h
  rw [hb_3]
  obtain ⟨h_4, h⟩ := h
  obtain ⟨h_5, h⟩ := h
  refine ru_go (t := (20, [some (.inr (some a0)), some (.inl x1), some (.inl x2), some (.inl x3)], [.inl (sm_I M b_2 (x1).toNatClampNeg), .inl x3], M)) sm_a177_19 rfl rfl (st_iald h_4 h_5) ?_
  refine ru_icmp (pc := 20) (p := 51) (p2 := 23) sm_a177_20 (by decide) rfl ⟨fun hc_6 => ?_, fun hc_6 => ?_⟩
  · have h := h.1 hc_6
    refine ru_go (t := (52, [some (.inr (some a0)), some (.inl x1), some (.inl x2), some (.inl x3)], [.inl (-1)], M)) sm_a177_51 rfl rfl (st_iconst (by decide)) ?_
    exact ru_ret sm_a177_52 rfl h
  · have h := h.2 hc_6
    refine ru_go (t := (24, [some (.inr (some a0)), some (.inl x1), some (.inl x2), some (.inl x3)], [.inr (some a0)], M)) sm_a177_23 rfl rfl rfl ?_
    refine ru_go (t := (27, [some (.inr (some a0)), some (.inl x1), some (.inl x2), some (.inl x3)], [.inr (sm_R M a0 62)], M)) sm_a177_24 rfl rfl (st_getR h_1 rfl rfl) ?_
    refine ru_go (t := (29, [some (.inr (some a0)), some (.inl x1), some (.inl x2), some (.inl x3)], [.inl 10, .inr (sm_R M a0 62)], M)) sm_a177_27 rfl rfl (st_bipush (by decide)) ?_
    refine ru_go (t := (30, [some (.inr (some a0)), some (.inl x1), some (.inl x2), some (.inl x3)], [.inl x1, .inl 10, .inr (sm_R M a0 62)], M)) sm_a177_29 rfl rfl rfl ?_
    refine ru_go (t := (31, [some (.inr (some a0)), some (.inl x1), some (.inl x2), some (.inl x3)], [.inl (10 * x1), .inr (sm_R M a0 62)], M)) sm_a177_30 rfl rfl rfl ?_
    refine ru_go (t := (32, [some (.inr (some a0)), some (.inl x1), some (.inl x2), some (.inl x3)], [.inl x3, .inl (10 * x1), .inr (sm_R M a0 62)], M)) sm_a177_31 rfl rfl rfl ?_
    refine ru_go (t := (33, [some (.inr (some a0)), some (.inl x1), some (.inl x2), some (.inl x3)], [.inl ((10 * x1) + x3), .inr (sm_R M a0 62)], M)) sm_a177_32 rfl rfl rfl ?_
    obtain ⟨b_7, hb_8, h⟩ := h
    rw [hb_8]
    obtain ⟨h_9, h⟩ := h
    obtain ⟨h_10, h⟩ := h
    refine ru_go (t := (34, [some (.inr (some a0)), some (.inl x1), some (.inl x2), some (.inl x3)], [.inl (sm_I M b_7 ((10 * x1) + x3).toNatClampNeg)], M)) sm_a177_33 rfl rfl (st_iald h_9 h_10) ?_
    refine ru_go (t := (35, [some (.inr (some a0)), some (.inl x1), some (.inl x2), some (.inl x3)], [.inl x2, .inl (sm_I M b_7 ((10 * x1) + x3).toNatClampNeg)], M)) sm_a177_34 rfl rfl rfl ?_
    refine ru_icmp (pc := 35) (p := 45) (p2 := 38) sm_a177_35 (by decide) rfl ⟨fun hc_11 => ?_, fun hc_11 => ?_⟩
    · have h := h.1 hc_11
      refine ru_go (t := (48, [some (.inr (some a0)), some (.inl x1), some (.inl x2), some (.inl (x3 + 1))], [], M)) sm_a177_45 rfl rfl (st_iinc rfl (by decide)) ?_
      refine ru_go (t := (13, [some (.inr (some a0)), some (.inl x1), some (.inl x2), some (.inl (x3 + 1))], [], M)) sm_a177_48 rfl rfl (st_goto (pc := 48) (by decide)) ?_
      exact h
    · have h := h.2 hc_11
      refine ru_go (t := (40, [some (.inr (some a0)), some (.inl x1), some (.inl x2), some (.inl x3)], [.inl 10], M)) sm_a177_38 rfl rfl (st_bipush (by decide)) ?_
      refine ru_go (t := (41, [some (.inr (some a0)), some (.inl x1), some (.inl x2), some (.inl x3)], [.inl x1, .inl 10], M)) sm_a177_40 rfl rfl rfl ?_
      refine ru_go (t := (42, [some (.inr (some a0)), some (.inl x1), some (.inl x2), some (.inl x3)], [.inl (10 * x1)], M)) sm_a177_41 rfl rfl rfl ?_
      refine ru_go (t := (43, [some (.inr (some a0)), some (.inl x1), some (.inl x2), some (.inl x3)], [.inl x3, .inl (10 * x1)], M)) sm_a177_42 rfl rfl rfl ?_
      refine ru_go (t := (44, [some (.inr (some a0)), some (.inl x1), some (.inl x2), some (.inl x3)], [.inl ((10 * x1) + x3)], M)) sm_a177_43 rfl rfl rfl ?_
      exact ru_ret sm_a177_44 rfl h

/-! WireBusModel.tell:(IIII)V -/
theorem sm_a178_0 : sm_at 178 0 = some (.aload_n 0, 1, (0, 0, 0, 0)) := by decide +kernel
theorem sm_a178_1 : sm_at 178 1 = some (.iconst (-1), 1, (0, 0, 0, 0)) := by decide +kernel
theorem sm_a178_2 : sm_at 178 2 = some (.iload_n 1, 1, (0, 0, 0, 0)) := by decide +kernel
theorem sm_a178_3 : sm_at 178 3 = some (.iload_n 2, 1, (0, 0, 0, 0)) := by decide +kernel
theorem sm_a178_4 : sm_at 178 4 = some (.iload_n 3, 1, (0, 0, 0, 0)) := by decide +kernel
theorem sm_a178_5 : sm_at 178 5 = some (.iload 4, 2, (0, 0, 0, 0)) := by decide +kernel
theorem sm_a178_7 : sm_at 178 7 = some (.invokevirtual 339, 3, (10, 159, 12, 1527)) := by decide +kernel
theorem sm_a178_10 : sm_at 178 10 = some (.istore 5, 2, (0, 0, 0, 0)) := by decide +kernel
theorem sm_a178_12 : sm_at 178 12 = some (.aload_n 0, 1, (0, 0, 0, 0)) := by decide +kernel
theorem sm_a178_13 : sm_at 178 13 = some (.iconst (-1), 1, (0, 0, 0, 0)) := by decide +kernel
theorem sm_a178_14 : sm_at 178 14 = some (.putfield 269, 3, (12, 51, 0, 1234)) := by decide +kernel
theorem sm_a178_17 : sm_at 178 17 = some (.iload 5, 2, (0, 0, 0, 0)) := by decide +kernel
theorem sm_a178_19 : sm_at 178 19 = some (.ifCond .eq 8, 3, (0, 0, 0, 0)) := by decide +kernel
theorem sm_a178_22 : sm_at 178 22 = some (.aload_n 0, 1, (0, 0, 0, 0)) := by decide +kernel
theorem sm_a178_23 : sm_at 178 23 = some (.iconst (-1), 1, (0, 0, 0, 0)) := by decide +kernel
theorem sm_a178_24 : sm_at 178 24 = some (.invokevirtual 343, 3, (10, 161, 12, 1544)) := by decide +kernel
theorem sm_a178_27 : sm_at 178 27 = some (.return_, 1, (0, 0, 0, 0)) := by decide +kernel
theorem bb_178_0 {d : Nat} {M : sm_M} {Q : Option sm_V → sm_M → Prop} {a0 : Nat} {x1 : Int32} {x2 : Int32} {x3 : Int32} {x4 : Int32} {z5 : Option sm_V}
    (h : sm_K M a0 = 39 ∧ sm_Run d 159 0 (sm_ent 159 [.inr (some a0), .inl (-1), .inl x1, .inl x2, .inl x3, .inl x4]) [] M (fun v M1 => sm_Run (d + 1) 178 10 [some (.inr (some a0)), some (.inl x1), some (.inl x2), some (.inl x3), some (.inl x4), z5] (v.toList ++ []) M1 Q)) :
    sm_Run (d + 1) 178 0 [some (.inr (some a0)), some (.inl x1), some (.inl x2), some (.inl x3), some (.inl x4), z5] [] M Q := by
  refine ru_go (t := (1, [some (.inr (some a0)), some (.inl x1), some (.inl x2), some (.inl x3), some (.inl x4), z5], [.inr (some a0)], M)) sm_a178_0 rfl rfl rfl ?_
  refine ru_go (t := (2, [some (.inr (some a0)), some (.inl x1), some (.inl x2), some (.inl x3), some (.inl x4), z5], [.inl (-1), .inr (some a0)], M)) sm_a178_1 rfl rfl (st_iconst (by decide)) ?_
  refine ru_go (t := (3, [some (.inr (some a0)), some (.inl x1), some (.inl x2), some (.inl x3), some (.inl x4), z5], [.inl x1, .inl (-1), .inr (some a0)], M)) sm_a178_2 rfl rfl rfl ?_
  refine ru_go (t := (4, [some (.inr (some a0)), some (.inl x1), some (.inl x2), some (.inl x3), some (.inl x4), z5], [.inl x2, .inl x1, .inl (-1), .inr (some a0)], M)) sm_a178_3 rfl rfl rfl ?_
  refine ru_go (t := (5, [some (.inr (some a0)), some (.inl x1), some (.inl x2), some (.inl x3), some (.inl x4), z5], [.inl x3, .inl x2, .inl x1, .inl (-1), .inr (some a0)], M)) sm_a178_4 rfl rfl rfl ?_
  refine ru_go (t := (7, [some (.inr (some a0)), some (.inl x1), some (.inl x2), some (.inl x3), some (.inl x4), z5], [.inl x4, .inl x3, .inl x2, .inl x1, .inl (-1), .inr (some a0)], M)) sm_a178_5 rfl rfl rfl ?_
  obtain ⟨h_1, h⟩ := h
  exact ru_call (p := 10) sm_a178_7 rfl (sc_virt (Or.inl rfl) rfl rfl h_1 (Nat.le_of_ble_eq_true rfl)) rfl h
theorem bb_178_10 {d : Nat} {M : sm_M} {Q : Option sm_V → sm_M → Prop} {a0 : Nat} {x1 : Int32} {x2 : Int32} {x3 : Int32} {x4 : Int32} {z5 : Option sm_V} {y0 : Int32}
    (h : sm_K M a0 = 39 ∧ ((y0 = 0 → Q none (sm_putI M a0 51 (-1))) ∧ (¬ (y0 = 0) → sm_Run d 161 0 (sm_ent 161 [.inr (some a0), .inl (-1)]) [] (sm_putI M a0 51 (-1)) (fun v M1 => sm_Run (d + 1) 178 27 [some (.inr (some a0)), some (.inl x1), some (.inl x2), some (.inl x3), some (.inl x4), some (.inl y0)] (v.toList ++ []) M1 Q)))) :
    sm_Run (d + 1) 178 10 [some (.inr (some a0)), some (.inl x1), some (.inl x2), some (.inl x3), some (.inl x4), z5] [.inl y0] M Q := by
  refine ru_go (t := (12, [some (.inr (some a0)), some (.inl x1), some (.inl x2), some (.inl x3), some (.inl x4), some (.inl y0)], [], M)) sm_a178_10 rfl rfl rfl ?_
  refine ru_go (t := (13, [some (.inr (some a0)), some (.inl x1), some (.inl x2), some (.inl x3), some (.inl x4), some (.inl y0)], [.inr (some a0)], M)) sm_a178_12 rfl rfl rfl ?_
  refine ru_go (t := (14, [some (.inr (some a0)), some (.inl x1), some (.inl x2), some (.inl x3), some (.inl x4), some (.inl y0)], [.inl (-1), .inr (some a0)], M)) sm_a178_13 rfl rfl (st_iconst (by decide)) ?_
  obtain ⟨h_1, h⟩ := h
  refine ru_go (t := (17, [some (.inr (some a0)), some (.inl x1), some (.inl x2), some (.inl x3), some (.inl x4), some (.inl y0)], [], sm_putI M a0 51 (-1))) sm_a178_14 rfl rfl (st_putI h_1 rfl) ?_
  refine ru_go (t := (19, [some (.inr (some a0)), some (.inl x1), some (.inl x2), some (.inl x3), some (.inl x4), some (.inl y0)], [.inl y0], sm_putI M a0 51 (-1))) sm_a178_17 rfl rfl rfl ?_
  refine ru_if (pc := 19) (p := 27) (p2 := 22) sm_a178_19 (by decide) rfl ⟨fun hc_2 => ?_, fun hc_2 => ?_⟩
  · have h := h.1 hc_2
    exact ru_ret sm_a178_27 (sm_rvv rfl) h
  · have h := h.2 hc_2
    refine ru_go (t := (23, [some (.inr (some a0)), some (.inl x1), some (.inl x2), some (.inl x3), some (.inl x4), some (.inl y0)], [.inr (some a0)], sm_putI M a0 51 (-1))) sm_a178_22 rfl rfl rfl ?_
    refine ru_go (t := (24, [some (.inr (some a0)), some (.inl x1), some (.inl x2), some (.inl x3), some (.inl x4), some (.inl y0)], [.inl (-1), .inr (some a0)], sm_putI M a0 51 (-1))) sm_a178_23 rfl rfl (st_iconst (by decide)) ?_
    exact ru_call (p := 27) sm_a178_24 rfl (sc_virt (Or.inl rfl) rfl rfl h_1 (Nat.le_of_ble_eq_true rfl)) rfl h
theorem bb_178_27 {d : Nat} {M : sm_M} {Q : Option sm_V → sm_M → Prop} {a0 : Nat} {x1 : Int32} {x2 : Int32} {x3 : Int32} {x4 : Int32} {x5 : Int32}
    (h : Q none M) :
    sm_Run (d + 1) 178 27 [some (.inr (some a0)), some (.inl x1), some (.inl x2), some (.inl x3), some (.inl x4), some (.inl x5)] [] M Q := by
  exact ru_ret sm_a178_27 (sm_rvv rfl) h

/-! WireBusModel.hear:()V -/
theorem sm_a179_0 : sm_at 179 0 = some (.aload_n 0, 1, (0, 0, 0, 0)) := by decide +kernel
theorem sm_a179_1 : sm_at 179 1 = some (.iconst (-1), 1, (0, 0, 0, 0)) := by decide +kernel
theorem sm_a179_2 : sm_at 179 2 = some (.putfield 346, 3, (12, 82, 0, 1265)) := by decide +kernel
theorem sm_a179_5 : sm_at 179 5 = some (.aload_n 0, 1, (0, 0, 0, 0)) := by decide +kernel
theorem sm_a179_6 : sm_at 179 6 = some (.getfield 269, 3, (12, 51, 0, 1234)) := by decide +kernel
theorem sm_a179_9 : sm_at 179 9 = some (.iconst (-1), 1, (0, 0, 0, 0)) := by decide +kernel
theorem sm_a179_10 : sm_at 179 10 = some (.if_icmp .ne 4, 3, (0, 0, 0, 0)) := by decide +kernel
theorem sm_a179_13 : sm_at 179 13 = some (.return_, 1, (0, 0, 0, 0)) := by decide +kernel
theorem sm_a179_14 : sm_at 179 14 = some (.aload_n 0, 1, (0, 0, 0, 0)) := by decide +kernel
theorem sm_a179_15 : sm_at 179 15 = some (.getfield 269, 3, (12, 51, 0, 1234)) := by decide +kernel
theorem sm_a179_18 : sm_at 179 18 = some (.istore_n 1, 1, (0, 0, 0, 0)) := by decide +kernel
theorem sm_a179_19 : sm_at 179 19 = some (.aload_n 0, 1, (0, 0, 0, 0)) := by decide +kernel
theorem sm_a179_20 : sm_at 179 20 = some (.iload_n 1, 1, (0, 0, 0, 0)) := by decide +kernel
theorem sm_a179_21 : sm_at 179 21 = some (.aload_n 0, 1, (0, 0, 0, 0)) := by decide +kernel
theorem sm_a179_22 : sm_at 179 22 = some (.getfield 272, 3, (12, 54, 0, 1237)) := by decide +kernel
theorem sm_a179_25 : sm_at 179 25 = some (.iconst 0, 1, (0, 0, 0, 0)) := by decide +kernel
theorem sm_a179_26 : sm_at 179 26 = some (.iconst 0, 1, (0, 0, 0, 0)) := by decide +kernel
theorem sm_a179_27 : sm_at 179 27 = some (.aload_n 0, 1, (0, 0, 0, 0)) := by decide +kernel
theorem sm_a179_28 : sm_at 179 28 = some (.getfield 275, 3, (12, 53, 0, 1236)) := by decide +kernel
theorem sm_a179_31 : sm_at 179 31 = some (.invokevirtual 339, 3, (10, 159, 12, 1527)) := by decide +kernel
theorem sm_a179_34 : sm_at 179 34 = some (.istore_n 2, 1, (0, 0, 0, 0)) := by decide +kernel
theorem sm_a179_35 : sm_at 179 35 = some (.iload_n 2, 1, (0, 0, 0, 0)) := by decide +kernel
theorem sm_a179_36 : sm_at 179 36 = some (.ifCond .eq 31, 3, (0, 0, 0, 0)) := by decide +kernel
theorem sm_a179_39 : sm_at 179 39 = some (.aload_n 0, 1, (0, 0, 0, 0)) := by decide +kernel
theorem sm_a179_40 : sm_at 179 40 = some (.aload_n 0, 1, (0, 0, 0, 0)) := by decide +kernel
theorem sm_a179_41 : sm_at 179 41 = some (.getfield 272, 3, (12, 54, 0, 1237)) := by decide +kernel
theorem sm_a179_44 : sm_at 179 44 = some (.putfield 346, 3, (12, 82, 0, 1265)) := by decide +kernel
theorem sm_a179_47 : sm_at 179 47 = some (.aload_n 0, 1, (0, 0, 0, 0)) := by decide +kernel
theorem sm_a179_48 : sm_at 179 48 = some (.getfield 266, 3, (12, 50, 0, 1233)) := by decide +kernel
theorem sm_a179_51 : sm_at 179 51 = some (.istore_n 3, 1, (0, 0, 0, 0)) := by decide +kernel
theorem sm_a179_52 : sm_at 179 52 = some (.aload_n 0, 1, (0, 0, 0, 0)) := by decide +kernel
theorem sm_a179_53 : sm_at 179 53 = some (.iload_n 1, 1, (0, 0, 0, 0)) := by decide +kernel
theorem sm_a179_54 : sm_at 179 54 = some (.invokevirtual 343, 3, (10, 161, 12, 1544)) := by decide +kernel
theorem sm_a179_57 : sm_at 179 57 = some (.aload_n 0, 1, (0, 0, 0, 0)) := by decide +kernel
theorem sm_a179_58 : sm_at 179 58 = some (.iconst (-1), 1, (0, 0, 0, 0)) := by decide +kernel
theorem sm_a179_59 : sm_at 179 59 = some (.putfield 269, 3, (12, 51, 0, 1234)) := by decide +kernel
theorem sm_a179_62 : sm_at 179 62 = some (.aload_n 0, 1, (0, 0, 0, 0)) := by decide +kernel
theorem sm_a179_63 : sm_at 179 63 = some (.iload_n 3, 1, (0, 0, 0, 0)) := by decide +kernel
theorem sm_a179_64 : sm_at 179 64 = some (.putfield 266, 3, (12, 50, 0, 1233)) := by decide +kernel
theorem sm_a179_67 : sm_at 179 67 = some (.return_, 1, (0, 0, 0, 0)) := by decide +kernel
theorem bb_179_0 {d : Nat} {M : sm_M} {Q : Option sm_V → sm_M → Prop} {a0 : Nat} {z1 : Option sm_V} {z2 : Option sm_V} {z3 : Option sm_V}
    (h : sm_K M a0 = 39 ∧ ((¬ (sm_I (sm_putI M a0 82 (-1)) a0 51) = (-1) → sm_Run d 159 0 (sm_ent 159 [.inr (some a0), .inl (sm_I (sm_putI M a0 82 (-1)) a0 51), .inl (sm_I (sm_putI M a0 82 (-1)) a0 54), .inl 0, .inl 0, .inl (sm_I (sm_putI M a0 82 (-1)) a0 53)]) [] (sm_putI M a0 82 (-1)) (fun v M1 => sm_Run (d + 1) 179 34 [some (.inr (some a0)), some (.inl (sm_I (sm_putI M a0 82 (-1)) a0 51)), z2, z3] (v.toList ++ []) M1 Q)) ∧ (¬ (¬ (sm_I (sm_putI M a0 82 (-1)) a0 51) = (-1)) → Q none (sm_putI M a0 82 (-1))))) :
    sm_Run (d + 1) 179 0 [some (.inr (some a0)), z1, z2, z3] [] M Q := by
  refine ru_go (t := (1, [some (.inr (some a0)), z1, z2, z3], [.inr (some a0)], M)) sm_a179_0 rfl rfl rfl ?_
  refine ru_go (t := (2, [some (.inr (some a0)), z1, z2, z3], [.inl (-1), .inr (some a0)], M)) sm_a179_1 rfl rfl (st_iconst (by decide)) ?_
  obtain ⟨h_1, h⟩ := h
  refine ru_go (t := (5, [some (.inr (some a0)), z1, z2, z3], [], sm_putI M a0 82 (-1))) sm_a179_2 rfl rfl (st_putI h_1 rfl) ?_
  refine ru_go (t := (6, [some (.inr (some a0)), z1, z2, z3], [.inr (some a0)], sm_putI M a0 82 (-1))) sm_a179_5 rfl rfl rfl ?_
  refine ru_go (t := (9, [some (.inr (some a0)), z1, z2, z3], [.inl (sm_I (sm_putI M a0 82 (-1)) a0 51)], sm_putI M a0 82 (-1))) sm_a179_6 rfl rfl (st_getI h_1 rfl) ?_
  refine ru_go (t := (10, [some (.inr (some a0)), z1, z2, z3], [.inl (-1), .inl (sm_I (sm_putI M a0 82 (-1)) a0 51)], sm_putI M a0 82 (-1))) sm_a179_9 rfl rfl (st_iconst (by decide)) ?_
  refine ru_icmp (pc := 10) (p := 14) (p2 := 13) sm_a179_10 (by decide) rfl ⟨fun hc_2 => ?_, fun hc_2 => ?_⟩
  · have h := h.1 hc_2
    refine ru_go (t := (15, [some (.inr (some a0)), z1, z2, z3], [.inr (some a0)], sm_putI M a0 82 (-1))) sm_a179_14 rfl rfl rfl ?_
    refine ru_go (t := (18, [some (.inr (some a0)), z1, z2, z3], [.inl (sm_I (sm_putI M a0 82 (-1)) a0 51)], sm_putI M a0 82 (-1))) sm_a179_15 rfl rfl (st_getI h_1 rfl) ?_
    refine ru_go (t := (19, [some (.inr (some a0)), some (.inl (sm_I (sm_putI M a0 82 (-1)) a0 51)), z2, z3], [], sm_putI M a0 82 (-1))) sm_a179_18 rfl rfl rfl ?_
    refine ru_go (t := (20, [some (.inr (some a0)), some (.inl (sm_I (sm_putI M a0 82 (-1)) a0 51)), z2, z3], [.inr (some a0)], sm_putI M a0 82 (-1))) sm_a179_19 rfl rfl rfl ?_
    refine ru_go (t := (21, [some (.inr (some a0)), some (.inl (sm_I (sm_putI M a0 82 (-1)) a0 51)), z2, z3], [.inl (sm_I (sm_putI M a0 82 (-1)) a0 51), .inr (some a0)], sm_putI M a0 82 (-1))) sm_a179_20 rfl rfl rfl ?_
    refine ru_go (t := (22, [some (.inr (some a0)), some (.inl (sm_I (sm_putI M a0 82 (-1)) a0 51)), z2, z3], [.inr (some a0), .inl (sm_I (sm_putI M a0 82 (-1)) a0 51), .inr (some a0)], sm_putI M a0 82 (-1))) sm_a179_21 rfl rfl rfl ?_
    refine ru_go (t := (25, [some (.inr (some a0)), some (.inl (sm_I (sm_putI M a0 82 (-1)) a0 51)), z2, z3], [.inl (sm_I (sm_putI M a0 82 (-1)) a0 54), .inl (sm_I (sm_putI M a0 82 (-1)) a0 51), .inr (some a0)], sm_putI M a0 82 (-1))) sm_a179_22 rfl rfl (st_getI h_1 rfl) ?_
    refine ru_go (t := (26, [some (.inr (some a0)), some (.inl (sm_I (sm_putI M a0 82 (-1)) a0 51)), z2, z3], [.inl 0, .inl (sm_I (sm_putI M a0 82 (-1)) a0 54), .inl (sm_I (sm_putI M a0 82 (-1)) a0 51), .inr (some a0)], sm_putI M a0 82 (-1))) sm_a179_25 rfl rfl (st_iconst (by decide)) ?_
    refine ru_go (t := (27, [some (.inr (some a0)), some (.inl (sm_I (sm_putI M a0 82 (-1)) a0 51)), z2, z3], [.inl 0, .inl 0, .inl (sm_I (sm_putI M a0 82 (-1)) a0 54), .inl (sm_I (sm_putI M a0 82 (-1)) a0 51), .inr (some a0)], sm_putI M a0 82 (-1))) sm_a179_26 rfl rfl (st_iconst (by decide)) ?_
    refine ru_go (t := (28, [some (.inr (some a0)), some (.inl (sm_I (sm_putI M a0 82 (-1)) a0 51)), z2, z3], [.inr (some a0), .inl 0, .inl 0, .inl (sm_I (sm_putI M a0 82 (-1)) a0 54), .inl (sm_I (sm_putI M a0 82 (-1)) a0 51), .inr (some a0)], sm_putI M a0 82 (-1))) sm_a179_27 rfl rfl rfl ?_
    refine ru_go (t := (31, [some (.inr (some a0)), some (.inl (sm_I (sm_putI M a0 82 (-1)) a0 51)), z2, z3], [.inl (sm_I (sm_putI M a0 82 (-1)) a0 53), .inl 0, .inl 0, .inl (sm_I (sm_putI M a0 82 (-1)) a0 54), .inl (sm_I (sm_putI M a0 82 (-1)) a0 51), .inr (some a0)], sm_putI M a0 82 (-1))) sm_a179_28 rfl rfl (st_getI h_1 rfl) ?_
    exact ru_call (p := 34) sm_a179_31 rfl (sc_virt (Or.inl rfl) rfl rfl h_1 (Nat.le_of_ble_eq_true rfl)) rfl h
  · have h := h.2 hc_2
    exact ru_ret sm_a179_13 (sm_rvv rfl) h
theorem bb_179_34 {d : Nat} {M : sm_M} {Q : Option sm_V → sm_M → Prop} {a0 : Nat} {x1 : Int32} {z2 : Option sm_V} {z3 : Option sm_V} {y0 : Int32}
    (h : ((y0 = 0 → Q none M) ∧ (¬ (y0 = 0) → sm_K M a0 = 39 ∧ sm_Run d 161 0 (sm_ent 161 [.inr (some a0), .inl x1]) [] (sm_putI M a0 82 (sm_I M a0 54)) (fun v M1 => sm_Run (d + 1) 179 57 [some (.inr (some a0)), some (.inl x1), some (.inl y0), some (.inl (sm_I (sm_putI M a0 82 (sm_I M a0 54)) a0 50))] (v.toList ++ []) M1 Q)))) :
    sm_Run (d + 1) 179 34 [some (.inr (some a0)), some (.inl x1), z2, z3] [.inl y0] M Q := by
  refine ru_go (t := (35, [some (.inr (some a0)), some (.inl x1), some (.inl y0), z3], [], M)) sm_a179_34 rfl rfl rfl ?_
  refine ru_go (t := (36, [some (.inr (some a0)), some (.inl x1), some (.inl y0), z3], [.inl y0], M)) sm_a179_35 rfl rfl rfl ?_
  refine ru_if (pc := 36) (p := 67) (p2 := 39) sm_a179_36 (by decide) rfl ⟨fun hc_1 => ?_, fun hc_1 => ?_⟩
  · have h := h.1 hc_1
    exact ru_ret sm_a179_67 (sm_rvv rfl) h
  · have h := h.2 hc_1
    refine ru_go (t := (40, [some (.inr (some a0)), some (.inl x1), some (.inl y0), z3], [.inr (some a0)], M)) sm_a179_39 rfl rfl rfl ?_
    refine ru_go (t := (41, [some (.inr (some a0)), some (.inl x1), some (.inl y0), z3], [.inr (some a0), .inr (some a0)], M)) sm_a179_40 rfl rfl rfl ?_
    obtain ⟨h_2, h⟩ := h
    refine ru_go (t := (44, [some (.inr (some a0)), some (.inl x1), some (.inl y0), z3], [.inl (sm_I M a0 54), .inr (some a0)], M)) sm_a179_41 rfl rfl (st_getI h_2 rfl) ?_
    refine ru_go (t := (47, [some (.inr (some a0)), some (.inl x1), some (.inl y0), z3], [], sm_putI M a0 82 (sm_I M a0 54))) sm_a179_44 rfl rfl (st_putI h_2 rfl) ?_
    refine ru_go (t := (48, [some (.inr (some a0)), some (.inl x1), some (.inl y0), z3], [.inr (some a0)], sm_putI M a0 82 (sm_I M a0 54))) sm_a179_47 rfl rfl rfl ?_
    refine ru_go (t := (51, [some (.inr (some a0)), some (.inl x1), some (.inl y0), z3], [.inl (sm_I (sm_putI M a0 82 (sm_I M a0 54)) a0 50)], sm_putI M a0 82 (sm_I M a0 54))) sm_a179_48 rfl rfl (st_getI h_2 rfl) ?_
    refine ru_go (t := (52, [some (.inr (some a0)), some (.inl x1), some (.inl y0), some (.inl (sm_I (sm_putI M a0 82 (sm_I M a0 54)) a0 50))], [], sm_putI M a0 82 (sm_I M a0 54))) sm_a179_51 rfl rfl rfl ?_
    refine ru_go (t := (53, [some (.inr (some a0)), some (.inl x1), some (.inl y0), some (.inl (sm_I (sm_putI M a0 82 (sm_I M a0 54)) a0 50))], [.inr (some a0)], sm_putI M a0 82 (sm_I M a0 54))) sm_a179_52 rfl rfl rfl ?_
    refine ru_go (t := (54, [some (.inr (some a0)), some (.inl x1), some (.inl y0), some (.inl (sm_I (sm_putI M a0 82 (sm_I M a0 54)) a0 50))], [.inl x1, .inr (some a0)], sm_putI M a0 82 (sm_I M a0 54))) sm_a179_53 rfl rfl rfl ?_
    exact ru_call (p := 57) sm_a179_54 rfl (sc_virt (Or.inl rfl) rfl rfl h_2 (Nat.le_of_ble_eq_true rfl)) rfl h
theorem bb_179_57 {d : Nat} {M : sm_M} {Q : Option sm_V → sm_M → Prop} {a0 : Nat} {x1 : Int32} {x2 : Int32} {x3 : Int32}
    (h : sm_K M a0 = 39 ∧ Q none (sm_putI (sm_putI M a0 51 (-1)) a0 50 x3)) :
    sm_Run (d + 1) 179 57 [some (.inr (some a0)), some (.inl x1), some (.inl x2), some (.inl x3)] [] M Q := by
  refine ru_go (t := (58, [some (.inr (some a0)), some (.inl x1), some (.inl x2), some (.inl x3)], [.inr (some a0)], M)) sm_a179_57 rfl rfl rfl ?_
  refine ru_go (t := (59, [some (.inr (some a0)), some (.inl x1), some (.inl x2), some (.inl x3)], [.inl (-1), .inr (some a0)], M)) sm_a179_58 rfl rfl (st_iconst (by decide)) ?_
  obtain ⟨h_1, h⟩ := h
  refine ru_go (t := (62, [some (.inr (some a0)), some (.inl x1), some (.inl x2), some (.inl x3)], [], sm_putI M a0 51 (-1))) sm_a179_59 rfl rfl (st_putI h_1 rfl) ?_
  refine ru_go (t := (63, [some (.inr (some a0)), some (.inl x1), some (.inl x2), some (.inl x3)], [.inr (some a0)], sm_putI M a0 51 (-1))) sm_a179_62 rfl rfl rfl ?_
  refine ru_go (t := (64, [some (.inr (some a0)), some (.inl x1), some (.inl x2), some (.inl x3)], [.inl x3, .inr (some a0)], sm_putI M a0 51 (-1))) sm_a179_63 rfl rfl rfl ?_
  refine ru_go (t := (67, [some (.inr (some a0)), some (.inl x1), some (.inl x2), some (.inl x3)], [], sm_putI (sm_putI M a0 51 (-1)) a0 50 x3)) sm_a179_64 rfl rfl (st_putI h_1 rfl) ?_
  exact ru_ret sm_a179_67 (sm_rvv rfl) h
