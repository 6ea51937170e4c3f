/-! WireBusModel.<init>:(I)V -/
theorem sm_a150_0 : sm_at 150 0 = some (.aload_n 0, 1, (0, 0, 0, 0)) := by decide +kernel
theorem sm_a150_1 : sm_at 150 1 = some (.invokespecial 1, 3, (1, 0, 0, 1181)) := by decide +kernel
theorem sm_a150_4 : sm_at 150 4 = some (.aload_n 0, 1, (0, 0, 0, 0)) := by decide +kernel
theorem sm_a150_5 : sm_at 150 5 = some (.bipush 20, 2, (0, 0, 0, 0)) := by decide +kernel
theorem sm_a150_7 : sm_at 150 7 = some (.newarray .int, 2, (100, 0, 0, 0)) := by decide +kernel
theorem sm_a150_9 : sm_at 150 9 = some (.putfield 7, 3, (12, 1, 0, 1184)) := by decide +kernel
theorem sm_a150_12 : sm_at 150 12 = some (.aload_n 0, 1, (0, 0, 0, 0)) := by decide +kernel
theorem sm_a150_13 : sm_at 150 13 = some (.sipush 200, 3, (0, 0, 0, 0)) := by decide +kernel
theorem sm_a150_16 : sm_at 150 16 = some (.newarray .int, 2, (101, 0, 0, 0)) := by decide +kernel
theorem sm_a150_18 : sm_at 150 18 = some (.putfield 13, 3, (12, 2, 0, 1185)) := by decide +kernel
theorem sm_a150_21 : sm_at 150 21 = some (.aload_n 0, 1, (0, 0, 0, 0)) := by decide +kernel
theorem sm_a150_22 : sm_at 150 22 = some (.bipush 6, 2, (0, 0, 0, 0)) := by decide +kernel
theorem sm_a150_24 : sm_at 150 24 = some (.newarray .int, 2, (102, 0, 0, 0)) := by decide +kernel
theorem sm_a150_26 : sm_at 150 26 = some (.putfield 16, 3, (12, 4, 0, 1187)) := by decide +kernel
theorem sm_a150_29 : sm_at 150 29 = some (.aload_n 0, 1, (0, 0, 0, 0)) := by decide +kernel
theorem sm_a150_30 : sm_at 150 30 = some (.bipush 6, 2, (0, 0, 0, 0)) := by decide +kernel
theorem sm_a150_32 : sm_at 150 32 = some (.newarray .int, 2, (103, 0, 0, 0)) := by decide +kernel
theorem sm_a150_34 : sm_at 150 34 = some (.putfield 19, 3, (12, 5, 0, 1188)) := by decide +kernel
theorem sm_a150_37 : sm_at 150 37 = some (.aload_n 0, 1, (0, 0, 0, 0)) := by decide +kernel
theorem sm_a150_38 : sm_at 150 38 = some (.bipush 6, 2, (0, 0, 0, 0)) := by decide +kernel
theorem sm_a150_40 : sm_at 150 40 = some (.newarray .int, 2, (104, 0, 0, 0)) := by decide +kernel
theorem sm_a150_42 : sm_at 150 42 = some (.putfield 22, 3, (12, 6, 0, 1189)) := by decide +kernel
theorem sm_a150_45 : sm_at 150 45 = some (.aload_n 0, 1, (0, 0, 0, 0)) := by decide +kernel
theorem sm_a150_46 : sm_at 150 46 = some (.bipush 6, 2, (0, 0, 0, 0)) := by decide +kernel
theorem sm_a150_48 : sm_at 150 48 = some (.newarray .int, 2, (105, 0, 0, 0)) := by decide +kernel
theorem sm_a150_50 : sm_at 150 50 = some (.putfield 25, 3, (12, 7, 0, 1190)) := by decide +kernel
theorem sm_a150_53 : sm_at 150 53 = some (.aload_n 0, 1, (0, 0, 0, 0)) := by decide +kernel
theorem sm_a150_54 : sm_at 150 54 = some (.bipush 6, 2, (0, 0, 0, 0)) := by decide +kernel
theorem sm_a150_56 : sm_at 150 56 = some (.newarray .int, 2, (106, 0, 0, 0)) := by decide +kernel
theorem sm_a150_58 : sm_at 150 58 = some (.putfield 28, 3, (12, 8, 0, 1191)) := by decide +kernel
theorem sm_a150_61 : sm_at 150 61 = some (.aload_n 0, 1, (0, 0, 0, 0)) := by decide +kernel
theorem sm_a150_62 : sm_at 150 62 = some (.bipush 6, 2, (0, 0, 0, 0)) := by decide +kernel
theorem sm_a150_64 : sm_at 150 64 = some (.newarray .int, 2, (107, 0, 0, 0)) := by decide +kernel
theorem sm_a150_66 : sm_at 150 66 = some (.putfield 31, 3, (12, 9, 0, 1192)) := by decide +kernel
theorem sm_a150_69 : sm_at 150 69 = some (.aload_n 0, 1, (0, 0, 0, 0)) := by decide +kernel
theorem sm_a150_70 : sm_at 150 70 = some (.bipush 36, 2, (0, 0, 0, 0)) := by decide +kernel
theorem sm_a150_72 : sm_at 150 72 = some (.newarray .int, 2, (108, 0, 0, 0)) := by decide +kernel
theorem sm_a150_74 : sm_at 150 74 = some (.putfield 34, 3, (12, 10, 0, 1193)) := by decide +kernel
theorem sm_a150_77 : sm_at 150 77 = some (.aload_n 0, 1, (0, 0, 0, 0)) := by decide +kernel
theorem sm_a150_78 : sm_at 150 78 = some (.bipush 36, 2, (0, 0, 0, 0)) := by decide +kernel
theorem sm_a150_80 : sm_at 150 80 = some (.newarray .int, 2, (109, 0, 0, 0)) := by decide +kernel
theorem sm_a150_82 : sm_at 150 82 = some (.putfield 37, 3, (12, 11, 0, 1194)) := by decide +kernel
theorem sm_a150_85 : sm_at 150 85 = some (.aload_n 0, 1, (0, 0, 0, 0)) := by decide +kernel
theorem sm_a150_86 : sm_at 150 86 = some (.bipush 36, 2, (0, 0, 0, 0)) := by decide +kernel
theorem sm_a150_88 : sm_at 150 88 = some (.newarray .int, 2, (110, 0, 0, 0)) := by decide +kernel
theorem sm_a150_90 : sm_at 150 90 = some (.putfield 40, 3, (12, 12, 0, 1195)) := by decide +kernel
theorem sm_a150_93 : sm_at 150 93 = some (.aload_n 0, 1, (0, 0, 0, 0)) := by decide +kernel
theorem sm_a150_94 : sm_at 150 94 = some (.bipush 36, 2, (0, 0, 0, 0)) := by decide +kernel
theorem sm_a150_96 : sm_at 150 96 = some (.newarray .int, 2, (111, 0, 0, 0)) := by decide +kernel
theorem sm_a150_98 : sm_at 150 98 = some (.putfield 43, 3, (12, 13, 0, 1196)) := by decide +kernel
theorem sm_a150_101 : sm_at 150 101 = some (.aload_n 0, 1, (0, 0, 0, 0)) := by decide +kernel
theorem sm_a150_102 : sm_at 150 102 = some (.bipush 36, 2, (0, 0, 0, 0)) := by decide +kernel
theorem sm_a150_104 : sm_at 150 104 = some (.newarray .boolean, 2, (200, 0, 0, 0)) := by decide +kernel
theorem sm_a150_106 : sm_at 150 106 = some (.putfield 46, 3, (12, 14, 0, 1197)) := by decide +kernel
theorem sm_a150_109 : sm_at 150 109 = some (.aload_n 0, 1, (0, 0, 0, 0)) := by decide +kernel
theorem sm_a150_110 : sm_at 150 110 = some (.bipush 36, 2, (0, 0, 0, 0)) := by decide +kernel
theorem sm_a150_112 : sm_at 150 112 = some (.newarray .int, 2, (112, 0, 0, 0)) := by decide +kernel
theorem sm_a150_114 : sm_at 150 114 = some (.putfield 50, 3, (12, 15, 0, 1198)) := by decide +kernel
theorem sm_a150_117 : sm_at 150 117 = some (.aload_n 0, 1, (0, 0, 0, 0)) := by decide +kernel
theorem sm_a150_118 : sm_at 150 118 = some (.bipush 36, 2, (0, 0, 0, 0)) := by decide +kernel
theorem sm_a150_120 : sm_at 150 120 = some (.newarray .int, 2, (113, 0, 0, 0)) := by decide +kernel
theorem sm_a150_122 : sm_at 150 122 = some (.putfield 53, 3, (12, 16, 0, 1199)) := by decide +kernel
theorem sm_a150_125 : sm_at 150 125 = some (.aload_n 0, 1, (0, 0, 0, 0)) := by decide +kernel
theorem sm_a150_126 : sm_at 150 126 = some (.sipush 9216, 3, (0, 0, 0, 0)) := by decide +kernel
theorem sm_a150_129 : sm_at 150 129 = some (.newarray .int, 2, (114, 0, 0, 0)) := by decide +kernel
theorem sm_a150_131 : sm_at 150 131 = some (.putfield 56, 3, (12, 17, 0, 1200)) := by decide +kernel
theorem sm_a150_134 : sm_at 150 134 = some (.aload_n 0, 1, (0, 0, 0, 0)) := by decide +kernel
theorem sm_a150_135 : sm_at 150 135 = some (.sipush 384, 3, (0, 0, 0, 0)) := by decide +kernel
theorem sm_a150_138 : sm_at 150 138 = some (.newarray .int, 2, (115, 0, 0, 0)) := by decide +kernel
theorem sm_a150_140 : sm_at 150 140 = some (.putfield 59, 3, (12, 18, 0, 1201)) := by decide +kernel
theorem sm_a150_143 : sm_at 150 143 = some (.aload_n 0, 1, (0, 0, 0, 0)) := by decide +kernel
theorem sm_a150_144 : sm_at 150 144 = some (.bipush 6, 2, (0, 0, 0, 0)) := by decide +kernel
theorem sm_a150_146 : sm_at 150 146 = some (.newarray .int, 2, (116, 0, 0, 0)) := by decide +kernel
theorem sm_a150_148 : sm_at 150 148 = some (.putfield 62, 3, (12, 19, 0, 1202)) := by decide +kernel
theorem sm_a150_151 : sm_at 150 151 = some (.aload_n 0, 1, (0, 0, 0, 0)) := by decide +kernel
theorem sm_a150_152 : sm_at 150 152 = some (.bipush 6, 2, (0, 0, 0, 0)) := by decide +kernel
theorem sm_a150_154 : sm_at 150 154 = some (.newarray .int, 2, (117, 0, 0, 0)) := by decide +kernel
theorem sm_a150_156 : sm_at 150 156 = some (.putfield 65, 3, (12, 20, 0, 1203)) := by decide +kernel
theorem sm_a150_159 : sm_at 150 159 = some (.aload_n 0, 1, (0, 0, 0, 0)) := by decide +kernel
theorem sm_a150_160 : sm_at 150 160 = some (.bipush 6, 2, (0, 0, 0, 0)) := by decide +kernel
theorem sm_a150_162 : sm_at 150 162 = some (.newarray .int, 2, (118, 0, 0, 0)) := by decide +kernel
theorem sm_a150_164 : sm_at 150 164 = some (.putfield 68, 3, (12, 21, 0, 1204)) := by decide +kernel
theorem sm_a150_167 : sm_at 150 167 = some (.aload_n 0, 1, (0, 0, 0, 0)) := by decide +kernel
theorem sm_a150_168 : sm_at 150 168 = some (.bipush 6, 2, (0, 0, 0, 0)) := by decide +kernel
theorem sm_a150_170 : sm_at 150 170 = some (.newarray .boolean, 2, (201, 0, 0, 0)) := by decide +kernel
theorem sm_a150_172 : sm_at 150 172 = some (.putfield 71, 3, (12, 22, 0, 1205)) := by decide +kernel
theorem sm_a150_175 : sm_at 150 175 = some (.aload_n 0, 1, (0, 0, 0, 0)) := by decide +kernel
theorem sm_a150_176 : sm_at 150 176 = some (.bipush 6, 2, (0, 0, 0, 0)) := by decide +kernel
theorem sm_a150_178 : sm_at 150 178 = some (.newarray .int, 2, (119, 0, 0, 0)) := by decide +kernel
theorem sm_a150_180 : sm_at 150 180 = some (.putfield 74, 3, (12, 23, 0, 1206)) := by decide +kernel
theorem sm_a150_183 : sm_at 150 183 = some (.aload_n 0, 1, (0, 0, 0, 0)) := by decide +kernel
theorem sm_a150_184 : sm_at 150 184 = some (.bipush 6, 2, (0, 0, 0, 0)) := by decide +kernel
theorem sm_a150_186 : sm_at 150 186 = some (.newarray .int, 2, (120, 0, 0, 0)) := by decide +kernel
theorem sm_a150_188 : sm_at 150 188 = some (.putfield 77, 3, (12, 24, 0, 1207)) := by decide +kernel
theorem sm_a150_191 : sm_at 150 191 = some (.aload_n 0, 1, (0, 0, 0, 0)) := by decide +kernel
theorem sm_a150_192 : sm_at 150 192 = some (.bipush 6, 2, (0, 0, 0, 0)) := by decide +kernel
theorem sm_a150_194 : sm_at 150 194 = some (.newarray .int, 2, (121, 0, 0, 0)) := by decide +kernel
theorem sm_a150_196 : sm_at 150 196 = some (.putfield 80, 3, (12, 25, 0, 1208)) := by decide +kernel
theorem sm_a150_199 : sm_at 150 199 = some (.aload_n 0, 1, (0, 0, 0, 0)) := by decide +kernel
theorem sm_a150_200 : sm_at 150 200 = some (.bipush 6, 2, (0, 0, 0, 0)) := by decide +kernel
theorem sm_a150_202 : sm_at 150 202 = some (.newarray .int, 2, (122, 0, 0, 0)) := by decide +kernel
theorem sm_a150_204 : sm_at 150 204 = some (.putfield 83, 3, (12, 26, 0, 1209)) := by decide +kernel
theorem sm_a150_207 : sm_at 150 207 = some (.aload_n 0, 1, (0, 0, 0, 0)) := by decide +kernel
theorem sm_a150_208 : sm_at 150 208 = some (.bipush 6, 2, (0, 0, 0, 0)) := by decide +kernel
theorem sm_a150_210 : sm_at 150 210 = some (.newarray .boolean, 2, (202, 0, 0, 0)) := by decide +kernel
theorem sm_a150_212 : sm_at 150 212 = some (.putfield 86, 3, (12, 27, 0, 1210)) := by decide +kernel
theorem sm_a150_215 : sm_at 150 215 = some (.aload_n 0, 1, (0, 0, 0, 0)) := by decide +kernel
theorem sm_a150_216 : sm_at 150 216 = some (.bipush 6, 2, (0, 0, 0, 0)) := by decide +kernel
theorem sm_a150_218 : sm_at 150 218 = some (.newarray .int, 2, (123, 0, 0, 0)) := by decide +kernel
theorem sm_a150_220 : sm_at 150 220 = some (.putfield 89, 3, (12, 28, 0, 1211)) := by decide +kernel
theorem sm_a150_223 : sm_at 150 223 = some (.aload_n 0, 1, (0, 0, 0, 0)) := by decide +kernel
theorem sm_a150_224 : sm_at 150 224 = some (.sipush 600, 3, (0, 0, 0, 0)) := by decide +kernel
theorem sm_a150_227 : sm_at 150 227 = some (.newarray .int, 2, (124, 0, 0, 0)) := by decide +kernel
theorem sm_a150_229 : sm_at 150 229 = some (.putfield 92, 3, (12, 29, 0, 1212)) := by decide +kernel
theorem sm_a150_232 : sm_at 150 232 = some (.aload_n 0, 1, (0, 0, 0, 0)) := by decide +kernel
theorem sm_a150_233 : sm_at 150 233 = some (.bipush 6, 2, (0, 0, 0, 0)) := by decide +kernel
theorem sm_a150_235 : sm_at 150 235 = some (.newarray .int, 2, (125, 0, 0, 0)) := by decide +kernel
theorem sm_a150_237 : sm_at 150 237 = some (.putfield 95, 3, (12, 30, 0, 1213)) := by decide +kernel
theorem sm_a150_240 : sm_at 150 240 = some (.aload_n 0, 1, (0, 0, 0, 0)) := by decide +kernel
theorem sm_a150_241 : sm_at 150 241 = some (.bipush 6, 2, (0, 0, 0, 0)) := by decide +kernel
theorem sm_a150_243 : sm_at 150 243 = some (.newarray .int, 2, (126, 0, 0, 0)) := by decide +kernel
theorem sm_a150_245 : sm_at 150 245 = some (.putfield 98, 3, (12, 31, 0, 1214)) := by decide +kernel
theorem sm_a150_248 : sm_at 150 248 = some (.aload_n 0, 1, (0, 0, 0, 0)) := by decide +kernel
theorem sm_a150_249 : sm_at 150 249 = some (.bipush 50, 2, (0, 0, 0, 0)) := by decide +kernel
theorem sm_a150_251 : sm_at 150 251 = some (.newarray .int, 2, (127, 0, 0, 0)) := by decide +kernel
theorem sm_a150_253 : sm_at 150 253 = some (.putfield 101, 3, (12, 34, 0, 1217)) := by decide +kernel
theorem sm_a150_256 : sm_at 150 256 = some (.aload_n 0, 1, (0, 0, 0, 0)) := by decide +kernel
theorem sm_a150_257 : sm_at 150 257 = some (.bipush 50, 2, (0, 0, 0, 0)) := by decide +kernel
theorem sm_a150_259 : sm_at 150 259 = some (.newarray .int, 2, (128, 0, 0, 0)) := by decide +kernel
theorem sm_a150_261 : sm_at 150 261 = some (.putfield 104, 3, (12, 35, 0, 1218)) := by decide +kernel
theorem sm_a150_264 : sm_at 150 264 = some (.aload_n 0, 1, (0, 0, 0, 0)) := by decide +kernel
theorem sm_a150_265 : sm_at 150 265 = some (.bipush 50, 2, (0, 0, 0, 0)) := by decide +kernel
theorem sm_a150_267 : sm_at 150 267 = some (.newarray .int, 2, (129, 0, 0, 0)) := by decide +kernel
theorem sm_a150_269 : sm_at 150 269 = some (.putfield 107, 3, (12, 36, 0, 1219)) := by decide +kernel
theorem sm_a150_272 : sm_at 150 272 = some (.aload_n 0, 1, (0, 0, 0, 0)) := by decide +kernel
theorem sm_a150_273 : sm_at 150 273 = some (.bipush 60, 2, (0, 0, 0, 0)) := by decide +kernel
theorem sm_a150_275 : sm_at 150 275 = some (.newarray .int, 2, (130, 0, 0, 0)) := by decide +kernel
theorem sm_a150_277 : sm_at 150 277 = some (.putfield 110, 3, (12, 37, 0, 1220)) := by decide +kernel
theorem sm_a150_280 : sm_at 150 280 = some (.aload_n 0, 1, (0, 0, 0, 0)) := by decide +kernel
theorem sm_a150_281 : sm_at 150 281 = some (.bipush 60, 2, (0, 0, 0, 0)) := by decide +kernel
theorem sm_a150_283 : sm_at 150 283 = some (.newarray .int, 2, (131, 0, 0, 0)) := by decide +kernel
theorem sm_a150_285 : sm_at 150 285 = some (.putfield 113, 3, (12, 38, 0, 1221)) := by decide +kernel
theorem sm_a150_288 : sm_at 150 288 = some (.aload_n 0, 1, (0, 0, 0, 0)) := by decide +kernel
theorem sm_a150_289 : sm_at 150 289 = some (.bipush 60, 2, (0, 0, 0, 0)) := by decide +kernel
theorem sm_a150_291 : sm_at 150 291 = some (.newarray .int, 2, (132, 0, 0, 0)) := by decide +kernel
theorem sm_a150_293 : sm_at 150 293 = some (.putfield 116, 3, (12, 39, 0, 1222)) := by decide +kernel
theorem sm_a150_296 : sm_at 150 296 = some (.aload_n 0, 1, (0, 0, 0, 0)) := by decide +kernel
theorem sm_a150_297 : sm_at 150 297 = some (.bipush 60, 2, (0, 0, 0, 0)) := by decide +kernel
theorem sm_a150_299 : sm_at 150 299 = some (.newarray .int, 2, (133, 0, 0, 0)) := by decide +kernel
theorem sm_a150_301 : sm_at 150 301 = some (.putfield 119, 3, (12, 40, 0, 1223)) := by decide +kernel
theorem sm_a150_304 : sm_at 150 304 = some (.aload_n 0, 1, (0, 0, 0, 0)) := by decide +kernel
theorem sm_a150_305 : sm_at 150 305 = some (.bipush 60, 2, (0, 0, 0, 0)) := by decide +kernel
theorem sm_a150_307 : sm_at 150 307 = some (.newarray .int, 2, (134, 0, 0, 0)) := by decide +kernel
theorem sm_a150_309 : sm_at 150 309 = some (.putfield 122, 3, (12, 41, 0, 1224)) := by decide +kernel
theorem sm_a150_312 : sm_at 150 312 = some (.aload_n 0, 1, (0, 0, 0, 0)) := by decide +kernel
theorem sm_a150_313 : sm_at 150 313 = some (.sipush 6000, 3, (0, 0, 0, 0)) := by decide +kernel
theorem sm_a150_316 : sm_at 150 316 = some (.newarray .int, 2, (135, 0, 0, 0)) := by decide +kernel
theorem sm_a150_318 : sm_at 150 318 = some (.putfield 125, 3, (12, 42, 0, 1225)) := by decide +kernel
theorem sm_a150_321 : sm_at 150 321 = some (.aload_n 0, 1, (0, 0, 0, 0)) := by decide +kernel
theorem sm_a150_322 : sm_at 150 322 = some (.bipush 60, 2, (0, 0, 0, 0)) := by decide +kernel
theorem sm_a150_324 : sm_at 150 324 = some (.newarray .int, 2, (136, 0, 0, 0)) := by decide +kernel
theorem sm_a150_326 : sm_at 150 326 = some (.putfield 128, 3, (12, 43, 0, 1226)) := by decide +kernel
theorem sm_a150_329 : sm_at 150 329 = some (.aload_n 0, 1, (0, 0, 0, 0)) := by decide +kernel
theorem sm_a150_330 : sm_at 150 330 = some (.bipush 60, 2, (0, 0, 0, 0)) := by decide +kernel
theorem sm_a150_332 : sm_at 150 332 = some (.newarray .int, 2, (137, 0, 0, 0)) := by decide +kernel
theorem sm_a150_334 : sm_at 150 334 = some (.putfield 131, 3, (12, 44, 0, 1227)) := by decide +kernel
theorem sm_a150_337 : sm_at 150 337 = some (.aload_n 0, 1, (0, 0, 0, 0)) := by decide +kernel
theorem sm_a150_338 : sm_at 150 338 = some (.bipush 60, 2, (0, 0, 0, 0)) := by decide +kernel
theorem sm_a150_340 : sm_at 150 340 = some (.newarray .int, 2, (138, 0, 0, 0)) := by decide +kernel
theorem sm_a150_342 : sm_at 150 342 = some (.putfield 134, 3, (12, 45, 0, 1228)) := by decide +kernel
theorem sm_a150_345 : sm_at 150 345 = some (.aload_n 0, 1, (0, 0, 0, 0)) := by decide +kernel
theorem sm_a150_346 : sm_at 150 346 = some (.sipush 800, 3, (0, 0, 0, 0)) := by decide +kernel
theorem sm_a150_349 : sm_at 150 349 = some (.newarray .int, 2, (139, 0, 0, 0)) := by decide +kernel
theorem sm_a150_351 : sm_at 150 351 = some (.putfield 137, 3, (12, 47, 0, 1230)) := by decide +kernel
theorem sm_a150_354 : sm_at 150 354 = some (.aload_n 0, 1, (0, 0, 0, 0)) := by decide +kernel
theorem sm_a150_355 : sm_at 150 355 = some (.sipush 700, 3, (0, 0, 0, 0)) := by decide +kernel
theorem sm_a150_358 : sm_at 150 358 = some (.newarray .int, 2, (140, 0, 0, 0)) := by decide +kernel
theorem sm_a150_360 : sm_at 150 360 = some (.putfield 140, 3, (12, 49, 0, 1232)) := by decide +kernel
theorem sm_a150_363 : sm_at 150 363 = some (.aload_n 0, 1, (0, 0, 0, 0)) := by decide +kernel
theorem sm_a150_364 : sm_at 150 364 = some (.bipush 100, 2, (0, 0, 0, 0)) := by decide +kernel
theorem sm_a150_366 : sm_at 150 366 = some (.newarray .int, 2, (141, 0, 0, 0)) := by decide +kernel
theorem sm_a150_368 : sm_at 150 368 = some (.putfield 143, 3, (12, 52, 0, 1235)) := by decide +kernel
theorem sm_a150_371 : sm_at 150 371 = some (.aload_n 0, 1, (0, 0, 0, 0)) := by decide +kernel
theorem sm_a150_372 : sm_at 150 372 = some (.bipush 18, 2, (0, 0, 0, 0)) := by decide +kernel
theorem sm_a150_374 : sm_at 150 374 = some (.newarray .int, 2, (142, 0, 0, 0)) := by decide +kernel
theorem sm_a150_376 : sm_at 150 376 = some (.dup, 1, (0, 0, 0, 0)) := by decide +kernel
theorem sm_a150_377 : sm_at 150 377 = some (.iconst 0, 1, (0, 0, 0, 0)) := by decide +kernel
theorem sm_a150_378 : sm_at 150 378 = some (.bipush 9, 2, (0, 0, 0, 0)) := by decide +kernel
theorem sm_a150_380 : sm_at 150 380 = some (.iastore, 1, (1, 0, 0, 0)) := by decide +kernel
theorem sm_a150_381 : sm_at 150 381 = some (.dup, 1, (0, 0, 0, 0)) := by decide +kernel
theorem sm_a150_382 : sm_at 150 382 = some (.iconst 1, 1, (0, 0, 0, 0)) := by decide +kernel
theorem sm_a150_383 : sm_at 150 383 = some (.iconst 2, 1, (0, 0, 0, 0)) := by decide +kernel
theorem sm_a150_384 : sm_at 150 384 = some (.iastore, 1, (1, 0, 0, 0)) := by decide +kernel
theorem sm_a150_385 : sm_at 150 385 = some (.dup, 1, (0, 0, 0, 0)) := by decide +kernel
theorem sm_a150_386 : sm_at 150 386 = some (.iconst 2, 1, (0, 0, 0, 0)) := by decide +kernel
theorem sm_a150_387 : sm_at 150 387 = some (.iconst 0, 1, (0, 0, 0, 0)) := by decide +kernel
theorem sm_a150_388 : sm_at 150 388 = some (.iastore, 1, (1, 0, 0, 0)) := by decide +kernel
theorem sm_a150_389 : sm_at 150 389 = some (.dup, 1, (0, 0, 0, 0)) := by decide +kernel
theorem sm_a150_390 : sm_at 150 390 = some (.iconst 3, 1, (0, 0, 0, 0)) := by decide +kernel
theorem sm_a150_391 : sm_at 150 391 = some (.iconst 0, 1, (0, 0, 0, 0)) := by decide +kernel
theorem sm_a150_392 : sm_at 150 392 = some (.iastore, 1, (1, 0, 0, 0)) := by decide +kernel
theorem sm_a150_393 : sm_at 150 393 = some (.dup, 1, (0, 0, 0, 0)) := by decide +kernel
theorem sm_a150_394 : sm_at 150 394 = some (.iconst 4, 1, (0, 0, 0, 0)) := by decide +kernel
theorem sm_a150_395 : sm_at 150 395 = some (.iconst 1, 1, (0, 0, 0, 0)) := by decide +kernel
theorem sm_a150_396 : sm_at 150 396 = some (.iastore, 1, (1, 0, 0, 0)) := by decide +kernel
theorem sm_a150_397 : sm_at 150 397 = some (.dup, 1, (0, 0, 0, 0)) := by decide +kernel
theorem sm_a150_398 : sm_at 150 398 = some (.iconst 5, 1, (0, 0, 0, 0)) := by decide +kernel
theorem sm_a150_399 : sm_at 150 399 = some (.iconst 1, 1, (0, 0, 0, 0)) := by decide +kernel
theorem sm_a150_400 : sm_at 150 400 = some (.iastore, 1, (1, 0, 0, 0)) := by decide +kernel
theorem sm_a150_401 : sm_at 150 401 = some (.dup, 1, (0, 0, 0, 0)) := by decide +kernel
theorem sm_a150_402 : sm_at 150 402 = some (.bipush 6, 2, (0, 0, 0, 0)) := by decide +kernel
theorem sm_a150_404 : sm_at 150 404 = some (.iconst 0, 1, (0, 0, 0, 0)) := by decide +kernel
theorem sm_a150_405 : sm_at 150 405 = some (.iastore, 1, (1, 0, 0, 0)) := by decide +kernel
theorem sm_a150_406 : sm_at 150 406 = some (.dup, 1, (0, 0, 0, 0)) := by decide +kernel
theorem sm_a150_407 : sm_at 150 407 = some (.bipush 7, 2, (0, 0, 0, 0)) := by decide +kernel
theorem sm_a150_409 : sm_at 150 409 = some (.sipush 128, 3, (0, 0, 0, 0)) := by decide +kernel
theorem sm_a150_412 : sm_at 150 412 = some (.iastore, 1, (1, 0, 0, 0)) := by decide +kernel
theorem sm_a150_413 : sm_at 150 413 = some (.dup, 1, (0, 0, 0, 0)) := by decide +kernel
theorem sm_a150_414 : sm_at 150 414 = some (.bipush 8, 2, (0, 0, 0, 0)) := by decide +kernel
theorem sm_a150_416 : sm_at 150 416 = some (.bipush 50, 2, (0, 0, 0, 0)) := by decide +kernel
theorem sm_a150_418 : sm_at 150 418 = some (.iastore, 1, (1, 0, 0, 0)) := by decide +kernel
theorem sm_a150_419 : sm_at 150 419 = some (.dup, 1, (0, 0, 0, 0)) := by decide +kernel
theorem sm_a150_420 : sm_at 150 420 = some (.bipush 9, 2, (0, 0, 0, 0)) := by decide +kernel
theorem sm_a150_422 : sm_at 150 422 = some (.bipush 9, 2, (0, 0, 0, 0)) := by decide +kernel
theorem sm_a150_424 : sm_at 150 424 = some (.iastore, 1, (1, 0, 0, 0)) := by decide +kernel
theorem sm_a150_425 : sm_at 150 425 = some (.dup, 1, (0, 0, 0, 0)) := by decide +kernel
theorem sm_a150_426 : sm_at 150 426 = some (.bipush 10, 2, (0, 0, 0, 0)) := by decide +kernel
theorem sm_a150_428 : sm_at 150 428 = some (.iconst 4, 1, (0, 0, 0, 0)) := by decide +kernel
theorem sm_a150_429 : sm_at 150 429 = some (.iastore, 1, (1, 0, 0, 0)) := by decide +kernel
theorem sm_a150_430 : sm_at 150 430 = some (.dup, 1, (0, 0, 0, 0)) := by decide +kernel
theorem sm_a150_431 : sm_at 150 431 = some (.bipush 11, 2, (0, 0, 0, 0)) := by decide +kernel
theorem sm_a150_433 : sm_at 150 433 = some (.iconst 0, 1, (0, 0, 0, 0)) := by decide +kernel
theorem sm_a150_434 : sm_at 150 434 = some (.iastore, 1, (1, 0, 0, 0)) := by decide +kernel
theorem sm_a150_435 : sm_at 150 435 = some (.dup, 1, (0, 0, 0, 0)) := by decide +kernel
theorem sm_a150_436 : sm_at 150 436 = some (.bipush 12, 2, (0, 0, 0, 0)) := by decide +kernel
theorem sm_a150_438 : sm_at 150 438 = some (.iconst 0, 1, (0, 0, 0, 0)) := by decide +kernel
theorem sm_a150_439 : sm_at 150 439 = some (.iastore, 1, (1, 0, 0, 0)) := by decide +kernel
theorem sm_a150_440 : sm_at 150 440 = some (.dup, 1, (0, 0, 0, 0)) := by decide +kernel
theorem sm_a150_441 : sm_at 150 441 = some (.bipush 13, 2, (0, 0, 0, 0)) := by decide +kernel
theorem sm_a150_443 : sm_at 150 443 = some (.iconst 0, 1, (0, 0, 0, 0)) := by decide +kernel
theorem sm_a150_444 : sm_at 150 444 = some (.iastore, 1, (1, 0, 0, 0)) := by decide +kernel
theorem sm_a150_445 : sm_at 150 445 = some (.dup, 1, (0, 0, 0, 0)) := by decide +kernel
theorem sm_a150_446 : sm_at 150 446 = some (.bipush 14, 2, (0, 0, 0, 0)) := by decide +kernel
theorem sm_a150_448 : sm_at 150 448 = some (.sipush 255, 3, (0, 0, 0, 0)) := by decide +kernel
theorem sm_a150_451 : sm_at 150 451 = some (.iastore, 1, (1, 0, 0, 0)) := by decide +kernel
theorem sm_a150_452 : sm_at 150 452 = some (.dup, 1, (0, 0, 0, 0)) := by decide +kernel
theorem sm_a150_453 : sm_at 150 453 = some (.bipush 15, 2, (0, 0, 0, 0)) := by decide +kernel
theorem sm_a150_455 : sm_at 150 455 = some (.iconst 0, 1, (0, 0, 0, 0)) := by decide +kernel
theorem sm_a150_456 : sm_at 150 456 = some (.iastore, 1, (1, 0, 0, 0)) := by decide +kernel
theorem sm_a150_457 : sm_at 150 457 = some (.dup, 1, (0, 0, 0, 0)) := by decide +kernel
theorem sm_a150_458 : sm_at 150 458 = some (.bipush 16, 2, (0, 0, 0, 0)) := by decide +kernel
theorem sm_a150_460 : sm_at 150 460 = some (.iconst 0, 1, (0, 0, 0, 0)) := by decide +kernel
theorem sm_a150_461 : sm_at 150 461 = some (.iastore, 1, (1, 0, 0, 0)) := by decide +kernel
theorem sm_a150_462 : sm_at 150 462 = some (.dup, 1, (0, 0, 0, 0)) := by decide +kernel
theorem sm_a150_463 : sm_at 150 463 = some (.bipush 17, 2, (0, 0, 0, 0)) := by decide +kernel
theorem sm_a150_465 : sm_at 150 465 = some (.iconst 0, 1, (0, 0, 0, 0)) := by decide +kernel
theorem sm_a150_466 : sm_at 150 466 = some (.iastore, 1, (1, 0, 0, 0)) := by decide +kernel
theorem sm_a150_467 : sm_at 150 467 = some (.putfield 146, 3, (12, 55, 0, 1238)) := by decide +kernel
theorem sm_a150_470 : sm_at 150 470 = some (.aload_n 0, 1, (0, 0, 0, 0)) := by decide +kernel
theorem sm_a150_471 : sm_at 150 471 = some (.bipush 6, 2, (0, 0, 0, 0)) := by decide +kernel
theorem sm_a150_473 : sm_at 150 473 = some (.newarray .int, 2, (143, 0, 0, 0)) := by decide +kernel
theorem sm_a150_475 : sm_at 150 475 = some (.putfield 149, 3, (12, 57, 0, 1240)) := by decide +kernel
theorem sm_a150_478 : sm_at 150 478 = some (.aload_n 0, 1, (0, 0, 0, 0)) := by decide +kernel
theorem sm_a150_479 : sm_at 150 479 = some (.bipush 6, 2, (0, 0, 0, 0)) := by decide +kernel
theorem sm_a150_481 : sm_at 150 481 = some (.newarray .int, 2, (144, 0, 0, 0)) := by decide +kernel
theorem sm_a150_483 : sm_at 150 483 = some (.putfield 152, 3, (12, 58, 0, 1241)) := by decide +kernel
theorem sm_a150_486 : sm_at 150 486 = some (.aload_n 0, 1, (0, 0, 0, 0)) := by decide +kernel
theorem sm_a150_487 : sm_at 150 487 = some (.bipush 6, 2, (0, 0, 0, 0)) := by decide +kernel
theorem sm_a150_489 : sm_at 150 489 = some (.newarray .int, 2, (145, 0, 0, 0)) := by decide +kernel
theorem sm_a150_491 : sm_at 150 491 = some (.putfield 155, 3, (12, 59, 0, 1242)) := by decide +kernel
theorem sm_a150_494 : sm_at 150 494 = some (.aload_n 0, 1, (0, 0, 0, 0)) := by decide +kernel
theorem sm_a150_495 : sm_at 150 495 = some (.bipush 6, 2, (0, 0, 0, 0)) := by decide +kernel
theorem sm_a150_497 : sm_at 150 497 = some (.newarray .int, 2, (146, 0, 0, 0)) := by decide +kernel
theorem sm_a150_499 : sm_at 150 499 = some (.putfield 158, 3, (12, 60, 0, 1243)) := by decide +kernel
theorem sm_a150_502 : sm_at 150 502 = some (.aload_n 0, 1, (0, 0, 0, 0)) := by decide +kernel
theorem sm_a150_503 : sm_at 150 503 = some (.bipush 6, 2, (0, 0, 0, 0)) := by decide +kernel
theorem sm_a150_505 : sm_at 150 505 = some (.newarray .int, 2, (147, 0, 0, 0)) := by decide +kernel
theorem sm_a150_507 : sm_at 150 507 = some (.putfield 161, 3, (12, 61, 0, 1244)) := by decide +kernel
theorem sm_a150_510 : sm_at 150 510 = some (.aload_n 0, 1, (0, 0, 0, 0)) := by decide +kernel
theorem sm_a150_511 : sm_at 150 511 = some (.bipush 60, 2, (0, 0, 0, 0)) := by decide +kernel
theorem sm_a150_513 : sm_at 150 513 = some (.newarray .int, 2, (148, 0, 0, 0)) := by decide +kernel
theorem sm_a150_515 : sm_at 150 515 = some (.putfield 164, 3, (12, 62, 0, 1245)) := by decide +kernel
theorem sm_a150_518 : sm_at 150 518 = some (.aload_n 0, 1, (0, 0, 0, 0)) := by decide +kernel
theorem sm_a150_519 : sm_at 150 519 = some (.bipush 60, 2, (0, 0, 0, 0)) := by decide +kernel
theorem sm_a150_521 : sm_at 150 521 = some (.newarray .int, 2, (149, 0, 0, 0)) := by decide +kernel
theorem sm_a150_523 : sm_at 150 523 = some (.putfield 167, 3, (12, 63, 0, 1246)) := by decide +kernel
theorem sm_a150_526 : sm_at 150 526 = some (.aload_n 0, 1, (0, 0, 0, 0)) := by decide +kernel
theorem sm_a150_527 : sm_at 150 527 = some (.bipush 60, 2, (0, 0, 0, 0)) := by decide +kernel
theorem sm_a150_529 : sm_at 150 529 = some (.newarray .int, 2, (150, 0, 0, 0)) := by decide +kernel
theorem sm_a150_531 : sm_at 150 531 = some (.putfield 170, 3, (12, 64, 0, 1247)) := by decide +kernel
theorem sm_a150_534 : sm_at 150 534 = some (.aload_n 0, 1, (0, 0, 0, 0)) := by decide +kernel
theorem sm_a150_535 : sm_at 150 535 = some (.bipush 60, 2, (0, 0, 0, 0)) := by decide +kernel
theorem sm_a150_537 : sm_at 150 537 = some (.newarray .int, 2, (151, 0, 0, 0)) := by decide +kernel
theorem sm_a150_539 : sm_at 150 539 = some (.putfield 173, 3, (12, 65, 0, 1248)) := by decide +kernel
theorem sm_a150_542 : sm_at 150 542 = some (.aload_n 0, 1, (0, 0, 0, 0)) := by decide +kernel
theorem sm_a150_543 : sm_at 150 543 = some (.bipush 60, 2, (0, 0, 0, 0)) := by decide +kernel
theorem sm_a150_545 : sm_at 150 545 = some (.newarray .int, 2, (152, 0, 0, 0)) := by decide +kernel
theorem sm_a150_547 : sm_at 150 547 = some (.putfield 176, 3, (12, 66, 0, 1249)) := by decide +kernel
theorem sm_a150_550 : sm_at 150 550 = some (.aload_n 0, 1, (0, 0, 0, 0)) := by decide +kernel
theorem sm_a150_551 : sm_at 150 551 = some (.bipush 60, 2, (0, 0, 0, 0)) := by decide +kernel
theorem sm_a150_553 : sm_at 150 553 = some (.newarray .boolean, 2, (203, 0, 0, 0)) := by decide +kernel
theorem sm_a150_555 : sm_at 150 555 = some (.putfield 179, 3, (12, 67, 0, 1250)) := by decide +kernel
theorem sm_a150_558 : sm_at 150 558 = some (.aload_n 0, 1, (0, 0, 0, 0)) := by decide +kernel
theorem sm_a150_559 : sm_at 150 559 = some (.bipush 60, 2, (0, 0, 0, 0)) := by decide +kernel
theorem sm_a150_561 : sm_at 150 561 = some (.newarray .boolean, 2, (204, 0, 0, 0)) := by decide +kernel
theorem sm_a150_563 : sm_at 150 563 = some (.putfield 182, 3, (12, 68, 0, 1251)) := by decide +kernel
theorem sm_a150_566 : sm_at 150 566 = some (.aload_n 0, 1, (0, 0, 0, 0)) := by decide +kernel
theorem sm_a150_567 : sm_at 150 567 = some (.sipush 400, 3, (0, 0, 0, 0)) := by decide +kernel
theorem sm_a150_570 : sm_at 150 570 = some (.newarray .int, 2, (153, 0, 0, 0)) := by decide +kernel
theorem sm_a150_572 : sm_at 150 572 = some (.putfield 185, 3, (12, 71, 0, 1254)) := by decide +kernel
theorem sm_a150_575 : sm_at 150 575 = some (.aload_n 0, 1, (0, 0, 0, 0)) := by decide +kernel
theorem sm_a150_576 : sm_at 150 576 = some (.sipush 400, 3, (0, 0, 0, 0)) := by decide +kernel
theorem sm_a150_579 : sm_at 150 579 = some (.newarray .int, 2, (154, 0, 0, 0)) := by decide +kernel
theorem sm_a150_581 : sm_at 150 581 = some (.putfield 188, 3, (12, 72, 0, 1255)) := by decide +kernel
theorem sm_a150_584 : sm_at 150 584 = some (.aload_n 0, 1, (0, 0, 0, 0)) := by decide +kernel
theorem sm_a150_585 : sm_at 150 585 = some (.sipush 400, 3, (0, 0, 0, 0)) := by decide +kernel
theorem sm_a150_588 : sm_at 150 588 = some (.newarray .int, 2, (155, 0, 0, 0)) := by decide +kernel
theorem sm_a150_590 : sm_at 150 590 = some (.putfield 191, 3, (12, 73, 0, 1256)) := by decide +kernel
theorem sm_a150_593 : sm_at 150 593 = some (.aload_n 0, 1, (0, 0, 0, 0)) := by decide +kernel
theorem sm_a150_594 : sm_at 150 594 = some (.sipush 400, 3, (0, 0, 0, 0)) := by decide +kernel
theorem sm_a150_597 : sm_at 150 597 = some (.newarray .int, 2, (156, 0, 0, 0)) := by decide +kernel
theorem sm_a150_599 : sm_at 150 599 = some (.putfield 194, 3, (12, 74, 0, 1257)) := by decide +kernel
theorem sm_a150_602 : sm_at 150 602 = some (.aload_n 0, 1, (0, 0, 0, 0)) := by decide +kernel
theorem sm_a150_603 : sm_at 150 603 = some (.sipush 400, 3, (0, 0, 0, 0)) := by decide +kernel
theorem sm_a150_606 : sm_at 150 606 = some (.newarray .int, 2, (157, 0, 0, 0)) := by decide +kernel
theorem sm_a150_608 : sm_at 150 608 = some (.putfield 197, 3, (12, 75, 0, 1258)) := by decide +kernel
theorem sm_a150_611 : sm_at 150 611 = some (.aload_n 0, 1, (0, 0, 0, 0)) := by decide +kernel
theorem sm_a150_612 : sm_at 150 612 = some (.sipush 400, 3, (0, 0, 0, 0)) := by decide +kernel
theorem sm_a150_615 : sm_at 150 615 = some (.newarray .int, 2, (158, 0, 0, 0)) := by decide +kernel
theorem sm_a150_617 : sm_at 150 617 = some (.putfield 200, 3, (12, 76, 0, 1259)) := by decide +kernel
theorem sm_a150_620 : sm_at 150 620 = some (.aload_n 0, 1, (0, 0, 0, 0)) := by decide +kernel
theorem sm_a150_621 : sm_at 150 621 = some (.sipush 400, 3, (0, 0, 0, 0)) := by decide +kernel
theorem sm_a150_624 : sm_at 150 624 = some (.newarray .int, 2, (159, 0, 0, 0)) := by decide +kernel
theorem sm_a150_626 : sm_at 150 626 = some (.putfield 203, 3, (12, 77, 0, 1260)) := by decide +kernel
theorem sm_a150_629 : sm_at 150 629 = some (.aload_n 0, 1, (0, 0, 0, 0)) := by decide +kernel
theorem sm_a150_630 : sm_at 150 630 = some (.sipush 400, 3, (0, 0, 0, 0)) := by decide +kernel
theorem sm_a150_633 : sm_at 150 633 = some (.newarray .int, 2, (160, 0, 0, 0)) := by decide +kernel
theorem sm_a150_635 : sm_at 150 635 = some (.putfield 206, 3, (12, 78, 0, 1261)) := by decide +kernel
theorem sm_a150_638 : sm_at 150 638 = some (.aload_n 0, 1, (0, 0, 0, 0)) := by decide +kernel
theorem sm_a150_639 : sm_at 150 639 = some (.sipush 400, 3, (0, 0, 0, 0)) := by decide +kernel
theorem sm_a150_642 : sm_at 150 642 = some (.newarray .boolean, 2, (205, 0, 0, 0)) := by decide +kernel
theorem sm_a150_644 : sm_at 150 644 = some (.putfield 209, 3, (12, 79, 0, 1262)) := by decide +kernel
theorem sm_a150_647 : sm_at 150 647 = some (.aload_n 0, 1, (0, 0, 0, 0)) := by decide +kernel
theorem sm_a150_648 : sm_at 150 648 = some (.sipush 3200, 3, (0, 0, 0, 0)) := by decide +kernel
theorem sm_a150_651 : sm_at 150 651 = some (.newarray .int, 2, (161, 0, 0, 0)) := by decide +kernel
theorem sm_a150_653 : sm_at 150 653 = some (.putfield 212, 3, (12, 80, 0, 1263)) := by decide +kernel
theorem sm_a150_656 : sm_at 150 656 = some (.aload_n 0, 1, (0, 0, 0, 0)) := by decide +kernel
theorem sm_a150_657 : sm_at 150 657 = some (.ldc 215, 2, (40000, 0, 0, 1182)) := by decide +kernel
theorem sm_a150_659 : sm_at 150 659 = some (.newarray .int, 2, (162, 0, 0, 0)) := by decide +kernel
theorem sm_a150_661 : sm_at 150 661 = some (.putfield 216, 3, (12, 81, 0, 1264)) := by decide +kernel
theorem sm_a150_664 : sm_at 150 664 = some (.aload_n 0, 1, (0, 0, 0, 0)) := by decide +kernel
theorem sm_a150_665 : sm_at 150 665 = some (.bipush 100, 2, (0, 0, 0, 0)) := by decide +kernel
theorem sm_a150_667 : sm_at 150 667 = some (.newarray .int, 2, (163, 0, 0, 0)) := by decide +kernel
theorem sm_a150_669 : sm_at 150 669 = some (.putfield 219, 3, (12, 83, 0, 1266)) := by decide +kernel
theorem sm_a150_672 : sm_at 150 672 = some (.aload_n 0, 1, (0, 0, 0, 0)) := by decide +kernel
theorem sm_a150_673 : sm_at 150 673 = some (.bipush 6, 2, (0, 0, 0, 0)) := by decide +kernel
theorem sm_a150_675 : sm_at 150 675 = some (.newarray .int, 2, (164, 0, 0, 0)) := by decide +kernel
theorem sm_a150_677 : sm_at 150 677 = some (.putfield 222, 3, (12, 85, 0, 1268)) := by decide +kernel
theorem sm_a150_680 : sm_at 150 680 = some (.aload_n 0, 1, (0, 0, 0, 0)) := by decide +kernel
theorem sm_a150_681 : sm_at 150 681 = some (.sipush 360, 3, (0, 0, 0, 0)) := by decide +kernel
theorem sm_a150_684 : sm_at 150 684 = some (.newarray .int, 2, (165, 0, 0, 0)) := by decide +kernel
theorem sm_a150_686 : sm_at 150 686 = some (.putfield 225, 3, (12, 86, 0, 1269)) := by decide +kernel
theorem sm_a150_689 : sm_at 150 689 = some (.aload_n 0, 1, (0, 0, 0, 0)) := by decide +kernel
theorem sm_a150_690 : sm_at 150 690 = some (.iload_n 1, 1, (0, 0, 0, 0)) := by decide +kernel
theorem sm_a150_691 : sm_at 150 691 = some (.iconst 1, 1, (0, 0, 0, 0)) := by decide +kernel
theorem sm_a150_692 : sm_at 150 692 = some (.if_icmp .ge 7, 3, (0, 0, 0, 0)) := by decide +kernel
theorem sm_a150_695 : sm_at 150 695 = some (.iconst 1, 1, (0, 0, 0, 0)) := by decide +kernel
theorem sm_a150_696 : sm_at 150 696 = some (.goto 15, 3, (0, 0, 0, 0)) := by decide +kernel
theorem sm_a150_699 : sm_at 150 699 = some (.iload_n 1, 1, (0, 0, 0, 0)) := by decide +kernel
theorem sm_a150_700 : sm_at 150 700 = some (.bipush 40, 2, (0, 0, 0, 0)) := by decide +kernel
theorem sm_a150_702 : sm_at 150 702 = some (.if_icmp .le 8, 3, (0, 0, 0, 0)) := by decide +kernel
theorem sm_a150_705 : sm_at 150 705 = some (.bipush 40, 2, (0, 0, 0, 0)) := by decide +kernel
theorem sm_a150_707 : sm_at 150 707 = some (.goto 4, 3, (0, 0, 0, 0)) := by decide +kernel
theorem sm_a150_710 : sm_at 150 710 = some (.iload_n 1, 1, (0, 0, 0, 0)) := by decide +kernel
theorem sm_a150_711 : sm_at 150 711 = some (.putfield 228, 3, (12, 0, 0, 1183)) := by decide +kernel
theorem sm_a150_714 : sm_at 150 714 = some (.aload_n 0, 1, (0, 0, 0, 0)) := by decide +kernel
theorem sm_a150_715 : sm_at 150 715 = some (.bipush 59, 2, (0, 0, 0, 0)) := by decide +kernel
theorem sm_a150_717 : sm_at 150 717 = some (.putfield 232, 3, (12, 69, 0, 1252)) := by decide +kernel
theorem sm_a150_720 : sm_at 150 720 = some (.iconst 0, 1, (0, 0, 0, 0)) := by decide +kernel
theorem sm_a150_721 : sm_at 150 721 = some (.istore_n 2, 1, (0, 0, 0, 0)) := by decide +kernel
theorem sm_a150_722 : sm_at 150 722 = some (.iload_n 2, 1, (0, 0, 0, 0)) := by decide +kernel
theorem sm_a150_723 : sm_at 150 723 = some (.bipush 6, 2, (0, 0, 0, 0)) := by decide +kernel
theorem sm_a150_725 : sm_at 150 725 = some (.if_icmp .ge 25, 3, (0, 0, 0, 0)) := by decide +kernel
theorem sm_a150_728 : sm_at 150 728 = some (.aload_n 0, 1, (0, 0, 0, 0)) := by decide +kernel
theorem sm_a150_729 : sm_at 150 729 = some (.getfield 22, 3, (12, 6, 0, 1189)) := by decide +kernel
theorem sm_a150_732 : sm_at 150 732 = some (.iload_n 2, 1, (0, 0, 0, 0)) := by decide +kernel
theorem sm_a150_733 : sm_at 150 733 = some (.bipush 8, 2, (0, 0, 0, 0)) := by decide +kernel
theorem sm_a150_735 : sm_at 150 735 = some (.iastore, 1, (1, 0, 0, 0)) := by decide +kernel
theorem sm_a150_736 : sm_at 150 736 = some (.aload_n 0, 1, (0, 0, 0, 0)) := by decide +kernel
theorem sm_a150_737 : sm_at 150 737 = some (.getfield 152, 3, (12, 58, 0, 1241)) := by decide +kernel
theorem sm_a150_740 : sm_at 150 740 = some (.iload_n 2, 1, (0, 0, 0, 0)) := by decide +kernel
theorem sm_a150_741 : sm_at 150 741 = some (.bipush 8, 2, (0, 0, 0, 0)) := by decide +kernel
theorem sm_a150_743 : sm_at 150 743 = some (.iastore, 1, (1, 0, 0, 0)) := by decide +kernel
theorem sm_a150_744 : sm_at 150 744 = some (.iinc 2 1, 3, (0, 0, 0, 0)) := by decide +kernel
theorem sm_a150_747 : sm_at 150 747 = some (.goto (-25), 3, (0, 0, 0, 0)) := by decide +kernel
theorem sm_a150_750 : sm_at 150 750 = some (.return_, 1, (0, 0, 0, 0)) := by decide +kernel
theorem bb_150_0 {d : Nat} {M : sm_M} {Q : Option sm_V → sm_M → Prop} {a0 : Nat} {x1 : Int32} {z2 : Option sm_V}
    (h : sm_K (sm_new M 302 (20 : Int32).toNatClampNeg (20 : Int32).toNatClampNeg) a0 = 39 ∧ sm_K (sm_new (sm_putR (sm_new M 302 (20 : Int32).toNatClampNeg (20 : Int32).toNatClampNeg) a0 1 (some (sm_N M))) 305 (200 : Int32).toNatClampNeg (200 : Int32).toNatClampNeg) a0 = 39 ∧ sm_K (sm_new (sm_putR (sm_new (sm_putR (sm_new M 302 (20 : Int32).toNatClampNeg (20 : Int32).toNatClampNeg) a0 1 (some (sm_N M))) 305 (200 : Int32).toNatClampNeg (200 : Int32).toNatClampNeg) a0 2 (some (sm_N (sm_putR (sm_new M 302 (20 : Int32).toNatClampNeg (20 : Int32).toNatClampNeg) a0 1 (some (sm_N M)))))) 308 (6 : Int32).toNatClampNeg (6 : Int32).toNatClampNeg) a0 = 39 ∧ sm_Run (d + 1) 150 29 [some (.inr (some a0)), some (.inl x1), z2] [] (sm_putR (sm_new (sm_putR (sm_new (sm_putR (sm_new M 302 (20 : Int32).toNatClampNeg (20 : Int32).toNatClampNeg) a0 1 (some (sm_N M))) 305 (200 : Int32).toNatClampNeg (200 : Int32).toNatClampNeg) a0 2 (some (sm_N (sm_putR (sm_new M 302 (20 : Int32).toNatClampNeg (20 : Int32).toNatClampNeg) a0 1 (some (sm_N M)))))) 308 (6 : Int32).toNatClampNeg (6 : Int32).toNatClampNeg) a0 4 (some (sm_N (sm_putR (sm_new (sm_putR (sm_new M 302 (20 : Int32).toNatClampNeg (20 : Int32).toNatClampNeg) a0 1 (some (sm_N M))) 305 (200 : Int32).toNatClampNeg (200 : Int32).toNatClampNeg) a0 2 (some (sm_N (sm_putR (sm_new M 302 (20 : Int32).toNatClampNeg (20 : Int32).toNatClampNeg) a0 1 (some (sm_N M))))))))) Q) :
    sm_Run (d + 1) 150 0 [some (.inr (some a0)), some (.inl x1), z2] [] M Q := by
  refine ru_go (t := (1, [some (.inr (some a0)), some (.inl x1), z2], [.inr (some a0)], M)) sm_a150_0 rfl rfl rfl ?_
  refine ru_go (t := (4, [some (.inr (some a0)), some (.inl x1), z2], [], M)) sm_a150_1 rfl rfl (st_oi (Nat.le_of_ble_eq_true rfl)) ?_
  refine ru_go (t := (5, [some (.inr (some a0)), some (.inl x1), z2], [.inr (some a0)], M)) sm_a150_4 rfl rfl rfl ?_
  refine ru_go (t := (7, [some (.inr (some a0)), some (.inl x1), z2], [.inl 20, .inr (some a0)], M)) sm_a150_5 rfl rfl (st_bipush (by decide)) ?_
  refine ru_go (t := (9, [some (.inr (some a0)), some (.inl x1), z2], [.inr (some (sm_N M)), .inr (some a0)], sm_new M 302 (20 : Int32).toNatClampNeg (20 : Int32).toNatClampNeg)) sm_a150_7 rfl rfl (st_newa (by decide)) ?_
  obtain ⟨h_1, h⟩ := h
  refine ru_go (t := (12, [some (.inr (some a0)), some (.inl x1), z2], [], sm_putR (sm_new M 302 (20 : Int32).toNatClampNeg (20 : Int32).toNatClampNeg) a0 1 (some (sm_N M)))) sm_a150_9 rfl rfl (st_putR h_1 rfl) ?_
  refine ru_go (t := (13, [some (.inr (some a0)), some (.inl x1), z2], [.inr (some a0)], sm_putR (sm_new M 302 (20 : Int32).toNatClampNeg (20 : Int32).toNatClampNeg) a0 1 (some (sm_N M)))) sm_a150_12 rfl rfl rfl ?_
  refine ru_go (t := (16, [some (.inr (some a0)), some (.inl x1), z2], [.inl 200, .inr (some a0)], sm_putR (sm_new M 302 (20 : Int32).toNatClampNeg (20 : Int32).toNatClampNeg) a0 1 (some (sm_N M)))) sm_a150_13 rfl rfl (st_sipush (by decide)) ?_
  refine ru_go (t := (18, [some (.inr (some a0)), some (.inl x1), z2], [.inr (some (sm_N (sm_putR (sm_new M 302 (20 : Int32).toNatClampNeg (20 : Int32).toNatClampNeg) a0 1 (some (sm_N M))))), .inr (some a0)], sm_new (sm_putR (sm_new M 302 (20 : Int32).toNatClampNeg (20 : Int32).toNatClampNeg) a0 1 (some (sm_N M))) 305 (200 : Int32).toNatClampNeg (200 : Int32).toNatClampNeg)) sm_a150_16 rfl rfl (st_newa (by decide)) ?_
  obtain ⟨h_2, h⟩ := h
  refine ru_go (t := (21, [some (.inr (some a0)), some (.inl x1), z2], [], sm_putR (sm_new (sm_putR (sm_new M 302 (20 : Int32).toNatClampNeg (20 : Int32).toNatClampNeg) a0 1 (some (sm_N M))) 305 (200 : Int32).toNatClampNeg (200 : Int32).toNatClampNeg) a0 2 (some (sm_N (sm_putR (sm_new M 302 (20 : Int32).toNatClampNeg (20 : Int32).toNatClampNeg) a0 1 (some (sm_N M))))))) sm_a150_18 rfl rfl (st_putR h_2 rfl) ?_
  refine ru_go (t := (22, [some (.inr (some a0)), some (.inl x1), z2], [.inr (some a0)], sm_putR (sm_new (sm_putR (sm_new M 302 (20 : Int32).toNatClampNeg (20 : Int32).toNatClampNeg) a0 1 (some (sm_N M))) 305 (200 : Int32).toNatClampNeg (200 : Int32).toNatClampNeg) a0 2 (some (sm_N (sm_putR (sm_new M 302 (20 : Int32).toNatClampNeg (20 : Int32).toNatClampNeg) a0 1 (some (sm_N M))))))) sm_a150_21 rfl rfl rfl ?_
  refine ru_go (t := (24, [some (.inr (some a0)), some (.inl x1), z2], [.inl 6, .inr (some a0)], sm_putR (sm_new (sm_putR (sm_new M 302 (20 : Int32).toNatClampNeg (20 : Int32).toNatClampNeg) a0 1 (some (sm_N M))) 305 (200 : Int32).toNatClampNeg (200 : Int32).toNatClampNeg) a0 2 (some (sm_N (sm_putR (sm_new M 302 (20 : Int32).toNatClampNeg (20 : Int32).toNatClampNeg) a0 1 (some (sm_N M))))))) sm_a150_22 rfl rfl (st_bipush (by decide)) ?_
  refine ru_go (t := (26, [some (.inr (some a0)), some (.inl x1), z2], [.inr (some (sm_N (sm_putR (sm_new (sm_putR (sm_new M 302 (20 : Int32).toNatClampNeg (20 : Int32).toNatClampNeg) a0 1 (some (sm_N M))) 305 (200 : Int32).toNatClampNeg (200 : Int32).toNatClampNeg) a0 2 (some (sm_N (sm_putR (sm_new M 302 (20 : Int32).toNatClampNeg (20 : Int32).toNatClampNeg) a0 1 (some (sm_N M)))))))), .inr (some a0)], sm_new (sm_putR (sm_new (sm_putR (sm_new M 302 (20 : Int32).toNatClampNeg (20 : Int32).toNatClampNeg) a0 1 (some (sm_N M))) 305 (200 : Int32).toNatClampNeg (200 : Int32).toNatClampNeg) a0 2 (some (sm_N (sm_putR (sm_new M 302 (20 : Int32).toNatClampNeg (20 : Int32).toNatClampNeg) a0 1 (some (sm_N M)))))) 308 (6 : Int32).toNatClampNeg (6 : Int32).toNatClampNeg)) sm_a150_24 rfl rfl (st_newa (by decide)) ?_
  obtain ⟨h_3, h⟩ := h
  refine ru_go (t := (29, [some (.inr (some a0)), some (.inl x1), z2], [], sm_putR (sm_new (sm_putR (sm_new (sm_putR (sm_new M 302 (20 : Int32).toNatClampNeg (20 : Int32).toNatClampNeg) a0 1 (some (sm_N M))) 305 (200 : Int32).toNatClampNeg (200 : Int32).toNatClampNeg) a0 2 (some (sm_N (sm_putR (sm_new M 302 (20 : Int32).toNatClampNeg (20 : Int32).toNatClampNeg) a0 1 (some (sm_N M)))))) 308 (6 : Int32).toNatClampNeg (6 : Int32).toNatClampNeg) a0 4 (some (sm_N (sm_putR (sm_new (sm_putR (sm_new M 302 (20 : Int32).toNatClampNeg (20 : Int32).toNatClampNeg) a0 1 (some (sm_N M))) 305 (200 : Int32).toNatClampNeg (200 : Int32).toNatClampNeg) a0 2 (some (sm_N (sm_putR (sm_new M 302 (20 : Int32).toNatClampNeg (20 : Int32).toNatClampNeg) a0 1 (some (sm_N M)))))))))) sm_a150_26 rfl rfl (st_putR h_3 rfl) ?_
  exact h
theorem bb_150_29 {d : Nat} {M : sm_M} {Q : Option sm_V → sm_M → Prop} {a0 : Nat} {x1 : Int32} {z2 : Option sm_V}
    (h : sm_K (sm_new M 311 (6 : Int32).toNatClampNeg (6 : Int32).toNatClampNeg) a0 = 39 ∧ sm_K (sm_new (sm_putR (sm_new M 311 (6 : Int32).toNatClampNeg (6 : Int32).toNatClampNeg) a0 5 (some (sm_N M))) 314 (6 : Int32).toNatClampNeg (6 : Int32).toNatClampNeg) a0 = 39 ∧ sm_K (sm_new (sm_putR (sm_new (sm_putR (sm_new M 311 (6 : Int32).toNatClampNeg (6 : Int32).toNatClampNeg) a0 5 (some (sm_N M))) 314 (6 : Int32).toNatClampNeg (6 : Int32).toNatClampNeg) a0 6 (some (sm_N (sm_putR (sm_new M 311 (6 : Int32).toNatClampNeg (6 : Int32).toNatClampNeg) a0 5 (some (sm_N M)))))) 317 (6 : Int32).toNatClampNeg (6 : Int32).toNatClampNeg) a0 = 39 ∧ sm_Run (d + 1) 150 53 [some (.inr (some a0)), some (.inl x1), z2] [] (sm_putR (sm_new (sm_putR (sm_new (sm_putR (sm_new M 311 (6 : Int32).toNatClampNeg (6 : Int32).toNatClampNeg) a0 5 (some (sm_N M))) 314 (6 : Int32).toNatClampNeg (6 : Int32).toNatClampNeg) a0 6 (some (sm_N (sm_putR (sm_new M 311 (6 : Int32).toNatClampNeg (6 : Int32).toNatClampNeg) a0 5 (some (sm_N M)))))) 317 (6 : Int32).toNatClampNeg (6 : Int32).toNatClampNeg) a0 7 (some (sm_N (sm_putR (sm_new (sm_putR (sm_new M 311 (6 : Int32).toNatClampNeg (6 : Int32).toNatClampNeg) a0 5 (some (sm_N M))) 314 (6 : Int32).toNatClampNeg (6 : Int32).toNatClampNeg) a0 6 (some (sm_N (sm_putR (sm_new M 311 (6 : Int32).toNatClampNeg (6 : Int32).toNatClampNeg) a0 5 (some (sm_N M))))))))) Q) :
    sm_Run (d + 1) 150 29 [some (.inr (some a0)), some (.inl x1), z2] [] M Q := by
  refine ru_go (t := (30, [some (.inr (some a0)), some (.inl x1), z2], [.inr (some a0)], M)) sm_a150_29 rfl rfl rfl ?_
  refine ru_go (t := (32, [some (.inr (some a0)), some (.inl x1), z2], [.inl 6, .inr (some a0)], M)) sm_a150_30 rfl rfl (st_bipush (by decide)) ?_
  refine ru_go (t := (34, [some (.inr (some a0)), some (.inl x1), z2], [.inr (some (sm_N M)), .inr (some a0)], sm_new M 311 (6 : Int32).toNatClampNeg (6 : Int32).toNatClampNeg)) sm_a150_32 rfl rfl (st_newa (by decide)) ?_
  obtain ⟨h_1, h⟩ := h
  refine ru_go (t := (37, [some (.inr (some a0)), some (.inl x1), z2], [], sm_putR (sm_new M 311 (6 : Int32).toNatClampNeg (6 : Int32).toNatClampNeg) a0 5 (some (sm_N M)))) sm_a150_34 rfl rfl (st_putR h_1 rfl) ?_
  refine ru_go (t := (38, [some (.inr (some a0)), some (.inl x1), z2], [.inr (some a0)], sm_putR (sm_new M 311 (6 : Int32).toNatClampNeg (6 : Int32).toNatClampNeg) a0 5 (some (sm_N M)))) sm_a150_37 rfl rfl rfl ?_
  refine ru_go (t := (40, [some (.inr (some a0)), some (.inl x1), z2], [.inl 6, .inr (some a0)], sm_putR (sm_new M 311 (6 : Int32).toNatClampNeg (6 : Int32).toNatClampNeg) a0 5 (some (sm_N M)))) sm_a150_38 rfl rfl (st_bipush (by decide)) ?_
  refine ru_go (t := (42, [some (.inr (some a0)), some (.inl x1), z2], [.inr (some (sm_N (sm_putR (sm_new M 311 (6 : Int32).toNatClampNeg (6 : Int32).toNatClampNeg) a0 5 (some (sm_N M))))), .inr (some a0)], sm_new (sm_putR (sm_new M 311 (6 : Int32).toNatClampNeg (6 : Int32).toNatClampNeg) a0 5 (some (sm_N M))) 314 (6 : Int32).toNatClampNeg (6 : Int32).toNatClampNeg)) sm_a150_40 rfl rfl (st_newa (by decide)) ?_
  obtain ⟨h_2, h⟩ := h
  refine ru_go (t := (45, [some (.inr (some a0)), some (.inl x1), z2], [], sm_putR (sm_new (sm_putR (sm_new M 311 (6 : Int32).toNatClampNeg (6 : Int32).toNatClampNeg) a0 5 (some (sm_N M))) 314 (6 : Int32).toNatClampNeg (6 : Int32).toNatClampNeg) a0 6 (some (sm_N (sm_putR (sm_new M 311 (6 : Int32).toNatClampNeg (6 : Int32).toNatClampNeg) a0 5 (some (sm_N M))))))) sm_a150_42 rfl rfl (st_putR h_2 rfl) ?_
  refine ru_go (t := (46, [some (.inr (some a0)), some (.inl x1), z2], [.inr (some a0)], sm_putR (sm_new (sm_putR (sm_new M 311 (6 : Int32).toNatClampNeg (6 : Int32).toNatClampNeg) a0 5 (some (sm_N M))) 314 (6 : Int32).toNatClampNeg (6 : Int32).toNatClampNeg) a0 6 (some (sm_N (sm_putR (sm_new M 311 (6 : Int32).toNatClampNeg (6 : Int32).toNatClampNeg) a0 5 (some (sm_N M))))))) sm_a150_45 rfl rfl rfl ?_
  refine ru_go (t := (48, [some (.inr (some a0)), some (.inl x1), z2], [.inl 6, .inr (some a0)], sm_putR (sm_new (sm_putR (sm_new M 311 (6 : Int32).toNatClampNeg (6 : Int32).toNatClampNeg) a0 5 (some (sm_N M))) 314 (6 : Int32).toNatClampNeg (6 : Int32).toNatClampNeg) a0 6 (some (sm_N (sm_putR (sm_new M 311 (6 : Int32).toNatClampNeg (6 : Int32).toNatClampNeg) a0 5 (some (sm_N M))))))) sm_a150_46 rfl rfl (st_bipush (by decide)) ?_
  refine ru_go (t := (50, [some (.inr (some a0)), some (.inl x1), z2], [.inr (some (sm_N (sm_putR (sm_new (sm_putR (sm_new M 311 (6 : Int32).toNatClampNeg (6 : Int32).toNatClampNeg) a0 5 (some (sm_N M))) 314 (6 : Int32).toNatClampNeg (6 : Int32).toNatClampNeg) a0 6 (some (sm_N (sm_putR (sm_new M 311 (6 : Int32).toNatClampNeg (6 : Int32).toNatClampNeg) a0 5 (some (sm_N M)))))))), .inr (some a0)], sm_new (sm_putR (sm_new (sm_putR (sm_new M 311 (6 : Int32).toNatClampNeg (6 : Int32).toNatClampNeg) a0 5 (some (sm_N M))) 314 (6 : Int32).toNatClampNeg (6 : Int32).toNatClampNeg) a0 6 (some (sm_N (sm_putR (sm_new M 311 (6 : Int32).toNatClampNeg (6 : Int32).toNatClampNeg) a0 5 (some (sm_N M)))))) 317 (6 : Int32).toNatClampNeg (6 : Int32).toNatClampNeg)) sm_a150_48 rfl rfl (st_newa (by decide)) ?_
  obtain ⟨h_3, h⟩ := h
  refine ru_go (t := (53, [some (.inr (some a0)), some (.inl x1), z2], [], sm_putR (sm_new (sm_putR (sm_new (sm_putR (sm_new M 311 (6 : Int32).toNatClampNeg (6 : Int32).toNatClampNeg) a0 5 (some (sm_N M))) 314 (6 : Int32).toNatClampNeg (6 : Int32).toNatClampNeg) a0 6 (some (sm_N (sm_putR (sm_new M 311 (6 : Int32).toNatClampNeg (6 : Int32).toNatClampNeg) a0 5 (some (sm_N M)))))) 317 (6 : Int32).toNatClampNeg (6 : Int32).toNatClampNeg) a0 7 (some (sm_N (sm_putR (sm_new (sm_putR (sm_new M 311 (6 : Int32).toNatClampNeg (6 : Int32).toNatClampNeg) a0 5 (some (sm_N M))) 314 (6 : Int32).toNatClampNeg (6 : Int32).toNatClampNeg) a0 6 (some (sm_N (sm_putR (sm_new M 311 (6 : Int32).toNatClampNeg (6 : Int32).toNatClampNeg) a0 5 (some (sm_N M)))))))))) sm_a150_50 rfl rfl (st_putR h_3 rfl) ?_
  exact h
theorem bb_150_53 {d : Nat} {M : sm_M} {Q : Option sm_V → sm_M → Prop} {a0 : Nat} {x1 : Int32} {z2 : Option sm_V}
    (h : sm_K (sm_new M 320 (6 : Int32).toNatClampNeg (6 : Int32).toNatClampNeg) a0 = 39 ∧ sm_K (sm_new (sm_putR (sm_new M 320 (6 : Int32).toNatClampNeg (6 : Int32).toNatClampNeg) a0 8 (some (sm_N M))) 323 (6 : Int32).toNatClampNeg (6 : Int32).toNatClampNeg) a0 = 39 ∧ sm_K (sm_new (sm_putR (sm_new (sm_putR (sm_new M 320 (6 : Int32).toNatClampNeg (6 : Int32).toNatClampNeg) a0 8 (some (sm_N M))) 323 (6 : Int32).toNatClampNeg (6 : Int32).toNatClampNeg) a0 9 (some (sm_N (sm_putR (sm_new M 320 (6 : Int32).toNatClampNeg (6 : Int32).toNatClampNeg) a0 8 (some (sm_N M)))))) 326 (36 : Int32).toNatClampNeg (36 : Int32).toNatClampNeg) a0 = 39 ∧ sm_Run (d + 1) 150 77 [some (.inr (some a0)), some (.inl x1), z2] [] (sm_putR (sm_new (sm_putR (sm_new (sm_putR (sm_new M 320 (6 : Int32).toNatClampNeg (6 : Int32).toNatClampNeg) a0 8 (some (sm_N M))) 323 (6 : Int32).toNatClampNeg (6 : Int32).toNatClampNeg) a0 9 (some (sm_N (sm_putR (sm_new M 320 (6 : Int32).toNatClampNeg (6 : Int32).toNatClampNeg) a0 8 (some (sm_N M)))))) 326 (36 : Int32).toNatClampNeg (36 : Int32).toNatClampNeg) a0 10 (some (sm_N (sm_putR (sm_new (sm_putR (sm_new M 320 (6 : Int32).toNatClampNeg (6 : Int32).toNatClampNeg) a0 8 (some (sm_N M))) 323 (6 : Int32).toNatClampNeg (6 : Int32).toNatClampNeg) a0 9 (some (sm_N (sm_putR (sm_new M 320 (6 : Int32).toNatClampNeg (6 : Int32).toNatClampNeg) a0 8 (some (sm_N M))))))))) Q) :
    sm_Run (d + 1) 150 53 [some (.inr (some a0)), some (.inl x1), z2] [] M Q := by
  refine ru_go (t := (54, [some (.inr (some a0)), some (.inl x1), z2], [.inr (some a0)], M)) sm_a150_53 rfl rfl rfl ?_
  refine ru_go (t := (56, [some (.inr (some a0)), some (.inl x1), z2], [.inl 6, .inr (some a0)], M)) sm_a150_54 rfl rfl (st_bipush (by decide)) ?_
  refine ru_go (t := (58, [some (.inr (some a0)), some (.inl x1), z2], [.inr (some (sm_N M)), .inr (some a0)], sm_new M 320 (6 : Int32).toNatClampNeg (6 : Int32).toNatClampNeg)) sm_a150_56 rfl rfl (st_newa (by decide)) ?_
  obtain ⟨h_1, h⟩ := h
  refine ru_go (t := (61, [some (.inr (some a0)), some (.inl x1), z2], [], sm_putR (sm_new M 320 (6 : Int32).toNatClampNeg (6 : Int32).toNatClampNeg) a0 8 (some (sm_N M)))) sm_a150_58 rfl rfl (st_putR h_1 rfl) ?_
  refine ru_go (t := (62, [some (.inr (some a0)), some (.inl x1), z2], [.inr (some a0)], sm_putR (sm_new M 320 (6 : Int32).toNatClampNeg (6 : Int32).toNatClampNeg) a0 8 (some (sm_N M)))) sm_a150_61 rfl rfl rfl ?_
  refine ru_go (t := (64, [some (.inr (some a0)), some (.inl x1), z2], [.inl 6, .inr (some a0)], sm_putR (sm_new M 320 (6 : Int32).toNatClampNeg (6 : Int32).toNatClampNeg) a0 8 (some (sm_N M)))) sm_a150_62 rfl rfl (st_bipush (by decide)) ?_
  refine ru_go (t := (66, [some (.inr (some a0)), some (.inl x1), z2], [.inr (some (sm_N (sm_putR (sm_new M 320 (6 : Int32).toNatClampNeg (6 : Int32).toNatClampNeg) a0 8 (some (sm_N M))))), .inr (some a0)], sm_new (sm_putR (sm_new M 320 (6 : Int32).toNatClampNeg (6 : Int32).toNatClampNeg) a0 8 (some (sm_N M))) 323 (6 : Int32).toNatClampNeg (6 : Int32).toNatClampNeg)) sm_a150_64 rfl rfl (st_newa (by decide)) ?_
  obtain ⟨h_2, h⟩ := h
  refine ru_go (t := (69, [some (.inr (some a0)), some (.inl x1), z2], [], sm_putR (sm_new (sm_putR (sm_new M 320 (6 : Int32).toNatClampNeg (6 : Int32).toNatClampNeg) a0 8 (some (sm_N M))) 323 (6 : Int32).toNatClampNeg (6 : Int32).toNatClampNeg) a0 9 (some (sm_N (sm_putR (sm_new M 320 (6 : Int32).toNatClampNeg (6 : Int32).toNatClampNeg) a0 8 (some (sm_N M))))))) sm_a150_66 rfl rfl (st_putR h_2 rfl) ?_
  refine ru_go (t := (70, [some (.inr (some a0)), some (.inl x1), z2], [.inr (some a0)], sm_putR (sm_new (sm_putR (sm_new M 320 (6 : Int32).toNatClampNeg (6 : Int32).toNatClampNeg) a0 8 (some (sm_N M))) 323 (6 : Int32).toNatClampNeg (6 : Int32).toNatClampNeg) a0 9 (some (sm_N (sm_putR (sm_new M 320 (6 : Int32).toNatClampNeg (6 : Int32).toNatClampNeg) a0 8 (some (sm_N M))))))) sm_a150_69 rfl rfl rfl ?_
  refine ru_go (t := (72, [some (.inr (some a0)), some (.inl x1), z2], [.inl 36, .inr (some a0)], sm_putR (sm_new (sm_putR (sm_new M 320 (6 : Int32).toNatClampNeg (6 : Int32).toNatClampNeg) a0 8 (some (sm_N M))) 323 (6 : Int32).toNatClampNeg (6 : Int32).toNatClampNeg) a0 9 (some (sm_N (sm_putR (sm_new M 320 (6 : Int32).toNatClampNeg (6 : Int32).toNatClampNeg) a0 8 (some (sm_N M))))))) sm_a150_70 rfl rfl (st_bipush (by decide)) ?_
  refine ru_go (t := (74, [some (.inr (some a0)), some (.inl x1), z2], [.inr (some (sm_N (sm_putR (sm_new (sm_putR (sm_new M 320 (6 : Int32).toNatClampNeg (6 : Int32).toNatClampNeg) a0 8 (some (sm_N M))) 323 (6 : Int32).toNatClampNeg (6 : Int32).toNatClampNeg) a0 9 (some (sm_N (sm_putR (sm_new M 320 (6 : Int32).toNatClampNeg (6 : Int32).toNatClampNeg) a0 8 (some (sm_N M)))))))), .inr (some a0)], sm_new (sm_putR (sm_new (sm_putR (sm_new M 320 (6 : Int32).toNatClampNeg (6 : Int32).toNatClampNeg) a0 8 (some (sm_N M))) 323 (6 : Int32).toNatClampNeg (6 : Int32).toNatClampNeg) a0 9 (some (sm_N (sm_putR (sm_new M 320 (6 : Int32).toNatClampNeg (6 : Int32).toNatClampNeg) a0 8 (some (sm_N M)))))) 326 (36 : Int32).toNatClampNeg (36 : Int32).toNatClampNeg)) sm_a150_72 rfl rfl (st_newa (by decide)) ?_
  obtain ⟨h_3, h⟩ := h
  refine ru_go (t := (77, [some (.inr (some a0)), some (.inl x1), z2], [], sm_putR (sm_new (sm_putR (sm_new (sm_putR (sm_new M 320 (6 : Int32).toNatClampNeg (6 : Int32).toNatClampNeg) a0 8 (some (sm_N M))) 323 (6 : Int32).toNatClampNeg (6 : Int32).toNatClampNeg) a0 9 (some (sm_N (sm_putR (sm_new M 320 (6 : Int32).toNatClampNeg (6 : Int32).toNatClampNeg) a0 8 (some (sm_N M)))))) 326 (36 : Int32).toNatClampNeg (36 : Int32).toNatClampNeg) a0 10 (some (sm_N (sm_putR (sm_new (sm_putR (sm_new M 320 (6 : Int32).toNatClampNeg (6 : Int32).toNatClampNeg) a0 8 (some (sm_N M))) 323 (6 : Int32).toNatClampNeg (6 : Int32).toNatClampNeg) a0 9 (some (sm_N (sm_putR (sm_new M 320 (6 : Int32).toNatClampNeg (6 : Int32).toNatClampNeg) a0 8 (some (sm_N M)))))))))) sm_a150_74 rfl rfl (st_putR h_3 rfl) ?_
  exact h
theorem bb_150_77 {d : Nat} {M : sm_M} {Q : Option sm_V → sm_M → Prop} {a0 : Nat} {x1 : Int32} {z2 : Option sm_V}
    (h : sm_K (sm_new M 329 (36 : Int32).toNatClampNeg (36 : Int32).toNatClampNeg) a0 = 39 ∧ sm_K (sm_new (sm_putR (sm_new M 329 (36 : Int32).toNatClampNeg (36 : Int32).toNatClampNeg) a0 11 (some (sm_N M))) 332 (36 : Int32).toNatClampNeg (36 : Int32).toNatClampNeg) a0 = 39 ∧ sm_K (sm_new (sm_putR (sm_new (sm_putR (sm_new M 329 (36 : Int32).toNatClampNeg (36 : Int32).toNatClampNeg) a0 11 (some (sm_N M))) 332 (36 : Int32).toNatClampNeg (36 : Int32).toNatClampNeg) a0 12 (some (sm_N (sm_putR (sm_new M 329 (36 : Int32).toNatClampNeg (36 : Int32).toNatClampNeg) a0 11 (some (sm_N M)))))) 335 (36 : Int32).toNatClampNeg (36 : Int32).toNatClampNeg) a0 = 39 ∧ sm_Run (d + 1) 150 101 [some (.inr (some a0)), some (.inl x1), z2] [] (sm_putR (sm_new (sm_putR (sm_new (sm_putR (sm_new M 329 (36 : Int32).toNatClampNeg (36 : Int32).toNatClampNeg) a0 11 (some (sm_N M))) 332 (36 : Int32).toNatClampNeg (36 : Int32).toNatClampNeg) a0 12 (some (sm_N (sm_putR (sm_new M 329 (36 : Int32).toNatClampNeg (36 : Int32).toNatClampNeg) a0 11 (some (sm_N M)))))) 335 (36 : Int32).toNatClampNeg (36 : Int32).toNatClampNeg) a0 13 (some (sm_N (sm_putR (sm_new (sm_putR (sm_new M 329 (36 : Int32).toNatClampNeg (36 : Int32).toNatClampNeg) a0 11 (some (sm_N M))) 332 (36 : Int32).toNatClampNeg (36 : Int32).toNatClampNeg) a0 12 (some (sm_N (sm_putR (sm_new M 329 (36 : Int32).toNatClampNeg (36 : Int32).toNatClampNeg) a0 11 (some (sm_N M))))))))) Q) :
    sm_Run (d + 1) 150 77 [some (.inr (some a0)), some (.inl x1), z2] [] M Q := by
  refine ru_go (t := (78, [some (.inr (some a0)), some (.inl x1), z2], [.inr (some a0)], M)) sm_a150_77 rfl rfl rfl ?_
  refine ru_go (t := (80, [some (.inr (some a0)), some (.inl x1), z2], [.inl 36, .inr (some a0)], M)) sm_a150_78 rfl rfl (st_bipush (by decide)) ?_
  refine ru_go (t := (82, [some (.inr (some a0)), some (.inl x1), z2], [.inr (some (sm_N M)), .inr (some a0)], sm_new M 329 (36 : Int32).toNatClampNeg (36 : Int32).toNatClampNeg)) sm_a150_80 rfl rfl (st_newa (by decide)) ?_
  obtain ⟨h_1, h⟩ := h
  refine ru_go (t := (85, [some (.inr (some a0)), some (.inl x1), z2], [], sm_putR (sm_new M 329 (36 : Int32).toNatClampNeg (36 : Int32).toNatClampNeg) a0 11 (some (sm_N M)))) sm_a150_82 rfl rfl (st_putR h_1 rfl) ?_
  refine ru_go (t := (86, [some (.inr (some a0)), some (.inl x1), z2], [.inr (some a0)], sm_putR (sm_new M 329 (36 : Int32).toNatClampNeg (36 : Int32).toNatClampNeg) a0 11 (some (sm_N M)))) sm_a150_85 rfl rfl rfl ?_
  refine ru_go (t := (88, [some (.inr (some a0)), some (.inl x1), z2], [.inl 36, .inr (some a0)], sm_putR (sm_new M 329 (36 : Int32).toNatClampNeg (36 : Int32).toNatClampNeg) a0 11 (some (sm_N M)))) sm_a150_86 rfl rfl (st_bipush (by decide)) ?_
  refine ru_go (t := (90, [some (.inr (some a0)), some (.inl x1), z2], [.inr (some (sm_N (sm_putR (sm_new M 329 (36 : Int32).toNatClampNeg (36 : Int32).toNatClampNeg) a0 11 (some (sm_N M))))), .inr (some a0)], sm_new (sm_putR (sm_new M 329 (36 : Int32).toNatClampNeg (36 : Int32).toNatClampNeg) a0 11 (some (sm_N M))) 332 (36 : Int32).toNatClampNeg (36 : Int32).toNatClampNeg)) sm_a150_88 rfl rfl (st_newa (by decide)) ?_
  obtain ⟨h_2, h⟩ := h
  refine ru_go (t := (93, [some (.inr (some a0)), some (.inl x1), z2], [], sm_putR (sm_new (sm_putR (sm_new M 329 (36 : Int32).toNatClampNeg (36 : Int32).toNatClampNeg) a0 11 (some (sm_N M))) 332 (36 : Int32).toNatClampNeg (36 : Int32).toNatClampNeg) a0 12 (some (sm_N (sm_putR (sm_new M 329 (36 : Int32).toNatClampNeg (36 : Int32).toNatClampNeg) a0 11 (some (sm_N M))))))) sm_a150_90 rfl rfl (st_putR h_2 rfl) ?_
  refine ru_go (t := (94, [some (.inr (some a0)), some (.inl x1), z2], [.inr (some a0)], sm_putR (sm_new (sm_putR (sm_new M 329 (36 : Int32).toNatClampNeg (36 : Int32).toNatClampNeg) a0 11 (some (sm_N M))) 332 (36 : Int32).toNatClampNeg (36 : Int32).toNatClampNeg) a0 12 (some (sm_N (sm_putR (sm_new M 329 (36 : Int32).toNatClampNeg (36 : Int32).toNatClampNeg) a0 11 (some (sm_N M))))))) sm_a150_93 rfl rfl rfl ?_
  refine ru_go (t := (96, [some (.inr (some a0)), some (.inl x1), z2], [.inl 36, .inr (some a0)], sm_putR (sm_new (sm_putR (sm_new M 329 (36 : Int32).toNatClampNeg (36 : Int32).toNatClampNeg) a0 11 (some (sm_N M))) 332 (36 : Int32).toNatClampNeg (36 : Int32).toNatClampNeg) a0 12 (some (sm_N (sm_putR (sm_new M 329 (36 : Int32).toNatClampNeg (36 : Int32).toNatClampNeg) a0 11 (some (sm_N M))))))) sm_a150_94 rfl rfl (st_bipush (by decide)) ?_
  refine ru_go (t := (98, [some (.inr (some a0)), some (.inl x1), z2], [.inr (some (sm_N (sm_putR (sm_new (sm_putR (sm_new M 329 (36 : Int32).toNatClampNeg (36 : Int32).toNatClampNeg) a0 11 (some (sm_N M))) 332 (36 : Int32).toNatClampNeg (36 : Int32).toNatClampNeg) a0 12 (some (sm_N (sm_putR (sm_new M 329 (36 : Int32).toNatClampNeg (36 : Int32).toNatClampNeg) a0 11 (some (sm_N M)))))))), .inr (some a0)], sm_new (sm_putR (sm_new (sm_putR (sm_new M 329 (36 : Int32).toNatClampNeg (36 : Int32).toNatClampNeg) a0 11 (some (sm_N M))) 332 (36 : Int32).toNatClampNeg (36 : Int32).toNatClampNeg) a0 12 (some (sm_N (sm_putR (sm_new M 329 (36 : Int32).toNatClampNeg (36 : Int32).toNatClampNeg) a0 11 (some (sm_N M)))))) 335 (36 : Int32).toNatClampNeg (36 : Int32).toNatClampNeg)) sm_a150_96 rfl rfl (st_newa (by decide)) ?_
  obtain ⟨h_3, h⟩ := h
  refine ru_go (t := (101, [some (.inr (some a0)), some (.inl x1), z2], [], sm_putR (sm_new (sm_putR (sm_new (sm_putR (sm_new M 329 (36 : Int32).toNatClampNeg (36 : Int32).toNatClampNeg) a0 11 (some (sm_N M))) 332 (36 : Int32).toNatClampNeg (36 : Int32).toNatClampNeg) a0 12 (some (sm_N (sm_putR (sm_new M 329 (36 : Int32).toNatClampNeg (36 : Int32).toNatClampNeg) a0 11 (some (sm_N M)))))) 335 (36 : Int32).toNatClampNeg (36 : Int32).toNatClampNeg) a0 13 (some (sm_N (sm_putR (sm_new (sm_putR (sm_new M 329 (36 : Int32).toNatClampNeg (36 : Int32).toNatClampNeg) a0 11 (some (sm_N M))) 332 (36 : Int32).toNatClampNeg (36 : Int32).toNatClampNeg) a0 12 (some (sm_N (sm_putR (sm_new M 329 (36 : Int32).toNatClampNeg (36 : Int32).toNatClampNeg) a0 11 (some (sm_N M)))))))))) sm_a150_98 rfl rfl (st_putR h_3 rfl) ?_
  exact h
theorem bb_150_101 {d : Nat} {M : sm_M} {Q : Option sm_V → sm_M → Prop} {a0 : Nat} {x1 : Int32} {z2 : Option sm_V}
    (h : sm_K (sm_new M 602 (36 : Int32).toNatClampNeg (36 : Int32).toNatClampNeg) a0 = 39 ∧ sm_K (sm_new (sm_putR (sm_new M 602 (36 : Int32).toNatClampNeg (36 : Int32).toNatClampNeg) a0 14 (some (sm_N M))) 338 (36 : Int32).toNatClampNeg (36 : Int32).toNatClampNeg) a0 = 39 ∧ sm_K (sm_new (sm_putR (sm_new (sm_putR (sm_new M 602 (36 : Int32).toNatClampNeg (36 : Int32).toNatClampNeg) a0 14 (some (sm_N M))) 338 (36 : Int32).toNatClampNeg (36 : Int32).toNatClampNeg) a0 15 (some (sm_N (sm_putR (sm_new M 602 (36 : Int32).toNatClampNeg (36 : Int32).toNatClampNeg) a0 14 (some (sm_N M)))))) 341 (36 : Int32).toNatClampNeg (36 : Int32).toNatClampNeg) a0 = 39 ∧ sm_Run (d + 1) 150 125 [some (.inr (some a0)), some (.inl x1), z2] [] (sm_putR (sm_new (sm_putR (sm_new (sm_putR (sm_new M 602 (36 : Int32).toNatClampNeg (36 : Int32).toNatClampNeg) a0 14 (some (sm_N M))) 338 (36 : Int32).toNatClampNeg (36 : Int32).toNatClampNeg) a0 15 (some (sm_N (sm_putR (sm_new M 602 (36 : Int32).toNatClampNeg (36 : Int32).toNatClampNeg) a0 14 (some (sm_N M)))))) 341 (36 : Int32).toNatClampNeg (36 : Int32).toNatClampNeg) a0 16 (some (sm_N (sm_putR (sm_new (sm_putR (sm_new M 602 (36 : Int32).toNatClampNeg (36 : Int32).toNatClampNeg) a0 14 (some (sm_N M))) 338 (36 : Int32).toNatClampNeg (36 : Int32).toNatClampNeg) a0 15 (some (sm_N (sm_putR (sm_new M 602 (36 : Int32).toNatClampNeg (36 : Int32).toNatClampNeg) a0 14 (some (sm_N M))))))))) Q) :
    sm_Run (d + 1) 150 101 [some (.inr (some a0)), some (.inl x1), z2] [] M Q := by
  refine ru_go (t := (102, [some (.inr (some a0)), some (.inl x1), z2], [.inr (some a0)], M)) sm_a150_101 rfl rfl rfl ?_
  refine ru_go (t := (104, [some (.inr (some a0)), some (.inl x1), z2], [.inl 36, .inr (some a0)], M)) sm_a150_102 rfl rfl (st_bipush (by decide)) ?_
  refine ru_go (t := (106, [some (.inr (some a0)), some (.inl x1), z2], [.inr (some (sm_N M)), .inr (some a0)], sm_new M 602 (36 : Int32).toNatClampNeg (36 : Int32).toNatClampNeg)) sm_a150_104 rfl rfl (st_newa (by decide)) ?_
  obtain ⟨h_1, h⟩ := h
  refine ru_go (t := (109, [some (.inr (some a0)), some (.inl x1), z2], [], sm_putR (sm_new M 602 (36 : Int32).toNatClampNeg (36 : Int32).toNatClampNeg) a0 14 (some (sm_N M)))) sm_a150_106 rfl rfl (st_putR h_1 rfl) ?_
  refine ru_go (t := (110, [some (.inr (some a0)), some (.inl x1), z2], [.inr (some a0)], sm_putR (sm_new M 602 (36 : Int32).toNatClampNeg (36 : Int32).toNatClampNeg) a0 14 (some (sm_N M)))) sm_a150_109 rfl rfl rfl ?_
  refine ru_go (t := (112, [some (.inr (some a0)), some (.inl x1), z2], [.inl 36, .inr (some a0)], sm_putR (sm_new M 602 (36 : Int32).toNatClampNeg (36 : Int32).toNatClampNeg) a0 14 (some (sm_N M)))) sm_a150_110 rfl rfl (st_bipush (by decide)) ?_
  refine ru_go (t := (114, [some (.inr (some a0)), some (.inl x1), z2], [.inr (some (sm_N (sm_putR (sm_new M 602 (36 : Int32).toNatClampNeg (36 : Int32).toNatClampNeg) a0 14 (some (sm_N M))))), .inr (some a0)], sm_new (sm_putR (sm_new M 602 (36 : Int32).toNatClampNeg (36 : Int32).toNatClampNeg) a0 14 (some (sm_N M))) 338 (36 : Int32).toNatClampNeg (36 : Int32).toNatClampNeg)) sm_a150_112 rfl rfl (st_newa (by decide)) ?_
  obtain ⟨h_2, h⟩ := h
  refine ru_go (t := (117, [some (.inr (some a0)), some (.inl x1), z2], [], sm_putR (sm_new (sm_putR (sm_new M 602 (36 : Int32).toNatClampNeg (36 : Int32).toNatClampNeg) a0 14 (some (sm_N M))) 338 (36 : Int32).toNatClampNeg (36 : Int32).toNatClampNeg) a0 15 (some (sm_N (sm_putR (sm_new M 602 (36 : Int32).toNatClampNeg (36 : Int32).toNatClampNeg) a0 14 (some (sm_N M))))))) sm_a150_114 rfl rfl (st_putR h_2 rfl) ?_
  refine ru_go (t := (118, [some (.inr (some a0)), some (.inl x1), z2], [.inr (some a0)], sm_putR (sm_new (sm_putR (sm_new M 602 (36 : Int32).toNatClampNeg (36 : Int32).toNatClampNeg) a0 14 (some (sm_N M))) 338 (36 : Int32).toNatClampNeg (36 : Int32).toNatClampNeg) a0 15 (some (sm_N (sm_putR (sm_new M 602 (36 : Int32).toNatClampNeg (36 : Int32).toNatClampNeg) a0 14 (some (sm_N M))))))) sm_a150_117 rfl rfl rfl ?_
  refine ru_go (t := (120, [some (.inr (some a0)), some (.inl x1), z2], [.inl 36, .inr (some a0)], sm_putR (sm_new (sm_putR (sm_new M 602 (36 : Int32).toNatClampNeg (36 : Int32).toNatClampNeg) a0 14 (some (sm_N M))) 338 (36 : Int32).toNatClampNeg (36 : Int32).toNatClampNeg) a0 15 (some (sm_N (sm_putR (sm_new M 602 (36 : Int32).toNatClampNeg (36 : Int32).toNatClampNeg) a0 14 (some (sm_N M))))))) sm_a150_118 rfl rfl (st_bipush (by decide)) ?_
  refine ru_go (t := (122, [some (.inr (some a0)), some (.inl x1), z2], [.inr (some (sm_N (sm_putR (sm_new (sm_putR (sm_new M 602 (36 : Int32).toNatClampNeg (36 : Int32).toNatClampNeg) a0 14 (some (sm_N M))) 338 (36 : Int32).toNatClampNeg (36 : Int32).toNatClampNeg) a0 15 (some (sm_N (sm_putR (sm_new M 602 (36 : Int32).toNatClampNeg (36 : Int32).toNatClampNeg) a0 14 (some (sm_N M)))))))), .inr (some a0)], sm_new (sm_putR (sm_new (sm_putR (sm_new M 602 (36 : Int32).toNatClampNeg (36 : Int32).toNatClampNeg) a0 14 (some (sm_N M))) 338 (36 : Int32).toNatClampNeg (36 : Int32).toNatClampNeg) a0 15 (some (sm_N (sm_putR (sm_new M 602 (36 : Int32).toNatClampNeg (36 : Int32).toNatClampNeg) a0 14 (some (sm_N M)))))) 341 (36 : Int32).toNatClampNeg (36 : Int32).toNatClampNeg)) sm_a150_120 rfl rfl (st_newa (by decide)) ?_
  obtain ⟨h_3, h⟩ := h
  refine ru_go (t := (125, [some (.inr (some a0)), some (.inl x1), z2], [], sm_putR (sm_new (sm_putR (sm_new (sm_putR (sm_new M 602 (36 : Int32).toNatClampNeg (36 : Int32).toNatClampNeg) a0 14 (some (sm_N M))) 338 (36 : Int32).toNatClampNeg (36 : Int32).toNatClampNeg) a0 15 (some (sm_N (sm_putR (sm_new M 602 (36 : Int32).toNatClampNeg (36 : Int32).toNatClampNeg) a0 14 (some (sm_N M)))))) 341 (36 : Int32).toNatClampNeg (36 : Int32).toNatClampNeg) a0 16 (some (sm_N (sm_putR (sm_new (sm_putR (sm_new M 602 (36 : Int32).toNatClampNeg (36 : Int32).toNatClampNeg) a0 14 (some (sm_N M))) 338 (36 : Int32).toNatClampNeg (36 : Int32).toNatClampNeg) a0 15 (some (sm_N (sm_putR (sm_new M 602 (36 : Int32).toNatClampNeg (36 : Int32).toNatClampNeg) a0 14 (some (sm_N M)))))))))) sm_a150_122 rfl rfl (st_putR h_3 rfl) ?_
  exact h
theorem bb_150_125 {d : Nat} {M : sm_M} {Q : Option sm_V → sm_M → Prop} {a0 : Nat} {x1 : Int32} {z2 : Option sm_V}
    (h : sm_K (sm_new M 344 (9216 : Int32).toNatClampNeg (9216 : Int32).toNatClampNeg) a0 = 39 ∧ sm_K (sm_new (sm_putR (sm_new M 344 (9216 : Int32).toNatClampNeg (9216 : Int32).toNatClampNeg) a0 17 (some (sm_N M))) 347 (384 : Int32).toNatClampNeg (384 : Int32).toNatClampNeg) a0 = 39 ∧ sm_K (sm_new (sm_putR (sm_new (sm_putR (sm_new M 344 (9216 : Int32).toNatClampNeg (9216 : Int32).toNatClampNeg) a0 17 (some (sm_N M))) 347 (384 : Int32).toNatClampNeg (384 : Int32).toNatClampNeg) a0 18 (some (sm_N (sm_putR (sm_new M 344 (9216 : Int32).toNatClampNeg (9216 : Int32).toNatClampNeg) a0 17 (some (sm_N M)))))) 350 (6 : Int32).toNatClampNeg (6 : Int32).toNatClampNeg) a0 = 39 ∧ sm_Run (d + 1) 150 151 [some (.inr (some a0)), some (.inl x1), z2] [] (sm_putR (sm_new (sm_putR (sm_new (sm_putR (sm_new M 344 (9216 : Int32).toNatClampNeg (9216 : Int32).toNatClampNeg) a0 17 (some (sm_N M))) 347 (384 : Int32).toNatClampNeg (384 : Int32).toNatClampNeg) a0 18 (some (sm_N (sm_putR (sm_new M 344 (9216 : Int32).toNatClampNeg (9216 : Int32).toNatClampNeg) a0 17 (some (sm_N M)))))) 350 (6 : Int32).toNatClampNeg (6 : Int32).toNatClampNeg) a0 19 (some (sm_N (sm_putR (sm_new (sm_putR (sm_new M 344 (9216 : Int32).toNatClampNeg (9216 : Int32).toNatClampNeg) a0 17 (some (sm_N M))) 347 (384 : Int32).toNatClampNeg (384 : Int32).toNatClampNeg) a0 18 (some (sm_N (sm_putR (sm_new M 344 (9216 : Int32).toNatClampNeg (9216 : Int32).toNatClampNeg) a0 17 (some (sm_N M))))))))) Q) :
    sm_Run (d + 1) 150 125 [some (.inr (some a0)), some (.inl x1), z2] [] M Q := by
  refine ru_go (t := (126, [some (.inr (some a0)), some (.inl x1), z2], [.inr (some a0)], M)) sm_a150_125 rfl rfl rfl ?_
  refine ru_go (t := (129, [some (.inr (some a0)), some (.inl x1), z2], [.inl 9216, .inr (some a0)], M)) sm_a150_126 rfl rfl (st_sipush (by decide)) ?_
  refine ru_go (t := (131, [some (.inr (some a0)), some (.inl x1), z2], [.inr (some (sm_N M)), .inr (some a0)], sm_new M 344 (9216 : Int32).toNatClampNeg (9216 : Int32).toNatClampNeg)) sm_a150_129 rfl rfl (st_newa (by decide)) ?_
  obtain ⟨h_1, h⟩ := h
  refine ru_go (t := (134, [some (.inr (some a0)), some (.inl x1), z2], [], sm_putR (sm_new M 344 (9216 : Int32).toNatClampNeg (9216 : Int32).toNatClampNeg) a0 17 (some (sm_N M)))) sm_a150_131 rfl rfl (st_putR h_1 rfl) ?_
  refine ru_go (t := (135, [some (.inr (some a0)), some (.inl x1), z2], [.inr (some a0)], sm_putR (sm_new M 344 (9216 : Int32).toNatClampNeg (9216 : Int32).toNatClampNeg) a0 17 (some (sm_N M)))) sm_a150_134 rfl rfl rfl ?_
  refine ru_go (t := (138, [some (.inr (some a0)), some (.inl x1), z2], [.inl 384, .inr (some a0)], sm_putR (sm_new M 344 (9216 : Int32).toNatClampNeg (9216 : Int32).toNatClampNeg) a0 17 (some (sm_N M)))) sm_a150_135 rfl rfl (st_sipush (by decide)) ?_
  refine ru_go (t := (140, [some (.inr (some a0)), some (.inl x1), z2], [.inr (some (sm_N (sm_putR (sm_new M 344 (9216 : Int32).toNatClampNeg (9216 : Int32).toNatClampNeg) a0 17 (some (sm_N M))))), .inr (some a0)], sm_new (sm_putR (sm_new M 344 (9216 : Int32).toNatClampNeg (9216 : Int32).toNatClampNeg) a0 17 (some (sm_N M))) 347 (384 : Int32).toNatClampNeg (384 : Int32).toNatClampNeg)) sm_a150_138 rfl rfl (st_newa (by decide)) ?_
  obtain ⟨h_2, h⟩ := h
  refine ru_go (t := (143, [some (.inr (some a0)), some (.inl x1), z2], [], sm_putR (sm_new (sm_putR (sm_new M 344 (9216 : Int32).toNatClampNeg (9216 : Int32).toNatClampNeg) a0 17 (some (sm_N M))) 347 (384 : Int32).toNatClampNeg (384 : Int32).toNatClampNeg) a0 18 (some (sm_N (sm_putR (sm_new M 344 (9216 : Int32).toNatClampNeg (9216 : Int32).toNatClampNeg) a0 17 (some (sm_N M))))))) sm_a150_140 rfl rfl (st_putR h_2 rfl) ?_
  refine ru_go (t := (144, [some (.inr (some a0)), some (.inl x1), z2], [.inr (some a0)], sm_putR (sm_new (sm_putR (sm_new M 344 (9216 : Int32).toNatClampNeg (9216 : Int32).toNatClampNeg) a0 17 (some (sm_N M))) 347 (384 : Int32).toNatClampNeg (384 : Int32).toNatClampNeg) a0 18 (some (sm_N (sm_putR (sm_new M 344 (9216 : Int32).toNatClampNeg (9216 : Int32).toNatClampNeg) a0 17 (some (sm_N M))))))) sm_a150_143 rfl rfl rfl ?_
  refine ru_go (t := (146, [some (.inr (some a0)), some (.inl x1), z2], [.inl 6, .inr (some a0)], sm_putR (sm_new (sm_putR (sm_new M 344 (9216 : Int32).toNatClampNeg (9216 : Int32).toNatClampNeg) a0 17 (some (sm_N M))) 347 (384 : Int32).toNatClampNeg (384 : Int32).toNatClampNeg) a0 18 (some (sm_N (sm_putR (sm_new M 344 (9216 : Int32).toNatClampNeg (9216 : Int32).toNatClampNeg) a0 17 (some (sm_N M))))))) sm_a150_144 rfl rfl (st_bipush (by decide)) ?_
  refine ru_go (t := (148, [some (.inr (some a0)), some (.inl x1), z2], [.inr (some (sm_N (sm_putR (sm_new (sm_putR (sm_new M 344 (9216 : Int32).toNatClampNeg (9216 : Int32).toNatClampNeg) a0 17 (some (sm_N M))) 347 (384 : Int32).toNatClampNeg (384 : Int32).toNatClampNeg) a0 18 (some (sm_N (sm_putR (sm_new M 344 (9216 : Int32).toNatClampNeg (9216 : Int32).toNatClampNeg) a0 17 (some (sm_N M)))))))), .inr (some a0)], sm_new (sm_putR (sm_new (sm_putR (sm_new M 344 (9216 : Int32).toNatClampNeg (9216 : Int32).toNatClampNeg) a0 17 (some (sm_N M))) 347 (384 : Int32).toNatClampNeg (384 : Int32).toNatClampNeg) a0 18 (some (sm_N (sm_putR (sm_new M 344 (9216 : Int32).toNatClampNeg (9216 : Int32).toNatClampNeg) a0 17 (some (sm_N M)))))) 350 (6 : Int32).toNatClampNeg (6 : Int32).toNatClampNeg)) sm_a150_146 rfl rfl (st_newa (by decide)) ?_
  obtain ⟨h_3, h⟩ := h
  refine ru_go (t := (151, [some (.inr (some a0)), some (.inl x1), z2], [], sm_putR (sm_new (sm_putR (sm_new (sm_putR (sm_new M 344 (9216 : Int32).toNatClampNeg (9216 : Int32).toNatClampNeg) a0 17 (some (sm_N M))) 347 (384 : Int32).toNatClampNeg (384 : Int32).toNatClampNeg) a0 18 (some (sm_N (sm_putR (sm_new M 344 (9216 : Int32).toNatClampNeg (9216 : Int32).toNatClampNeg) a0 17 (some (sm_N M)))))) 350 (6 : Int32).toNatClampNeg (6 : Int32).toNatClampNeg) a0 19 (some (sm_N (sm_putR (sm_new (sm_putR (sm_new M 344 (9216 : Int32).toNatClampNeg (9216 : Int32).toNatClampNeg) a0 17 (some (sm_N M))) 347 (384 : Int32).toNatClampNeg (384 : Int32).toNatClampNeg) a0 18 (some (sm_N (sm_putR (sm_new M 344 (9216 : Int32).toNatClampNeg (9216 : Int32).toNatClampNeg) a0 17 (some (sm_N M)))))))))) sm_a150_148 rfl rfl (st_putR h_3 rfl) ?_
  exact h
theorem bb_150_151 {d : Nat} {M : sm_M} {Q : Option sm_V → sm_M → Prop} {a0 : Nat} {x1 : Int32} {z2 : Option sm_V}
    (h : sm_K (sm_new M 353 (6 : Int32).toNatClampNeg (6 : Int32).toNatClampNeg) a0 = 39 ∧ sm_K (sm_new (sm_putR (sm_new M 353 (6 : Int32).toNatClampNeg (6 : Int32).toNatClampNeg) a0 20 (some (sm_N M))) 356 (6 : Int32).toNatClampNeg (6 : Int32).toNatClampNeg) a0 = 39 ∧ sm_K (sm_new (sm_putR (sm_new (sm_putR (sm_new M 353 (6 : Int32).toNatClampNeg (6 : Int32).toNatClampNeg) a0 20 (some (sm_N M))) 356 (6 : Int32).toNatClampNeg (6 : Int32).toNatClampNeg) a0 21 (some (sm_N (sm_putR (sm_new M 353 (6 : Int32).toNatClampNeg (6 : Int32).toNatClampNeg) a0 20 (some (sm_N M)))))) 605 (6 : Int32).toNatClampNeg (6 : Int32).toNatClampNeg) a0 = 39 ∧ sm_Run (d + 1) 150 175 [some (.inr (some a0)), some (.inl x1), z2] [] (sm_putR (sm_new (sm_putR (sm_new (sm_putR (sm_new M 353 (6 : Int32).toNatClampNeg (6 : Int32).toNatClampNeg) a0 20 (some (sm_N M))) 356 (6 : Int32).toNatClampNeg (6 : Int32).toNatClampNeg) a0 21 (some (sm_N (sm_putR (sm_new M 353 (6 : Int32).toNatClampNeg (6 : Int32).toNatClampNeg) a0 20 (some (sm_N M)))))) 605 (6 : Int32).toNatClampNeg (6 : Int32).toNatClampNeg) a0 22 (some (sm_N (sm_putR (sm_new (sm_putR (sm_new M 353 (6 : Int32).toNatClampNeg (6 : Int32).toNatClampNeg) a0 20 (some (sm_N M))) 356 (6 : Int32).toNatClampNeg (6 : Int32).toNatClampNeg) a0 21 (some (sm_N (sm_putR (sm_new M 353 (6 : Int32).toNatClampNeg (6 : Int32).toNatClampNeg) a0 20 (some (sm_N M))))))))) Q) :
    sm_Run (d + 1) 150 151 [some (.inr (some a0)), some (.inl x1), z2] [] M Q := by
  refine ru_go (t := (152, [some (.inr (some a0)), some (.inl x1), z2], [.inr (some a0)], M)) sm_a150_151 rfl rfl rfl ?_
  refine ru_go (t := (154, [some (.inr (some a0)), some (.inl x1), z2], [.inl 6, .inr (some a0)], M)) sm_a150_152 rfl rfl (st_bipush (by decide)) ?_
  refine ru_go (t := (156, [some (.inr (some a0)), some (.inl x1), z2], [.inr (some (sm_N M)), .inr (some a0)], sm_new M 353 (6 : Int32).toNatClampNeg (6 : Int32).toNatClampNeg)) sm_a150_154 rfl rfl (st_newa (by decide)) ?_
  obtain ⟨h_1, h⟩ := h
  refine ru_go (t := (159, [some (.inr (some a0)), some (.inl x1), z2], [], sm_putR (sm_new M 353 (6 : Int32).toNatClampNeg (6 : Int32).toNatClampNeg) a0 20 (some (sm_N M)))) sm_a150_156 rfl rfl (st_putR h_1 rfl) ?_
  refine ru_go (t := (160, [some (.inr (some a0)), some (.inl x1), z2], [.inr (some a0)], sm_putR (sm_new M 353 (6 : Int32).toNatClampNeg (6 : Int32).toNatClampNeg) a0 20 (some (sm_N M)))) sm_a150_159 rfl rfl rfl ?_
  refine ru_go (t := (162, [some (.inr (some a0)), some (.inl x1), z2], [.inl 6, .inr (some a0)], sm_putR (sm_new M 353 (6 : Int32).toNatClampNeg (6 : Int32).toNatClampNeg) a0 20 (some (sm_N M)))) sm_a150_160 rfl rfl (st_bipush (by decide)) ?_
  refine ru_go (t := (164, [some (.inr (some a0)), some (.inl x1), z2], [.inr (some (sm_N (sm_putR (sm_new M 353 (6 : Int32).toNatClampNeg (6 : Int32).toNatClampNeg) a0 20 (some (sm_N M))))), .inr (some a0)], sm_new (sm_putR (sm_new M 353 (6 : Int32).toNatClampNeg (6 : Int32).toNatClampNeg) a0 20 (some (sm_N M))) 356 (6 : Int32).toNatClampNeg (6 : Int32).toNatClampNeg)) sm_a150_162 rfl rfl (st_newa (by decide)) ?_
  obtain ⟨h_2, h⟩ := h
  refine ru_go (t := (167, [some (.inr (some a0)), some (.inl x1), z2], [], sm_putR (sm_new (sm_putR (sm_new M 353 (6 : Int32).toNatClampNeg (6 : Int32).toNatClampNeg) a0 20 (some (sm_N M))) 356 (6 : Int32).toNatClampNeg (6 : Int32).toNatClampNeg) a0 21 (some (sm_N (sm_putR (sm_new M 353 (6 : Int32).toNatClampNeg (6 : Int32).toNatClampNeg) a0 20 (some (sm_N M))))))) sm_a150_164 rfl rfl (st_putR h_2 rfl) ?_
  refine ru_go (t := (168, [some (.inr (some a0)), some (.inl x1), z2], [.inr (some a0)], sm_putR (sm_new (sm_putR (sm_new M 353 (6 : Int32).toNatClampNeg (6 : Int32).toNatClampNeg) a0 20 (some (sm_N M))) 356 (6 : Int32).toNatClampNeg (6 : Int32).toNatClampNeg) a0 21 (some (sm_N (sm_putR (sm_new M 353 (6 : Int32).toNatClampNeg (6 : Int32).toNatClampNeg) a0 20 (some (sm_N M))))))) sm_a150_167 rfl rfl rfl ?_
  refine ru_go (t := (170, [some (.inr (some a0)), some (.inl x1), z2], [.inl 6, .inr (some a0)], sm_putR (sm_new (sm_putR (sm_new M 353 (6 : Int32).toNatClampNeg (6 : Int32).toNatClampNeg) a0 20 (some (sm_N M))) 356 (6 : Int32).toNatClampNeg (6 : Int32).toNatClampNeg) a0 21 (some (sm_N (sm_putR (sm_new M 353 (6 : Int32).toNatClampNeg (6 : Int32).toNatClampNeg) a0 20 (some (sm_N M))))))) sm_a150_168 rfl rfl (st_bipush (by decide)) ?_
  refine ru_go (t := (172, [some (.inr (some a0)), some (.inl x1), z2], [.inr (some (sm_N (sm_putR (sm_new (sm_putR (sm_new M 353 (6 : Int32).toNatClampNeg (6 : Int32).toNatClampNeg) a0 20 (some (sm_N M))) 356 (6 : Int32).toNatClampNeg (6 : Int32).toNatClampNeg) a0 21 (some (sm_N (sm_putR (sm_new M 353 (6 : Int32).toNatClampNeg (6 : Int32).toNatClampNeg) a0 20 (some (sm_N M)))))))), .inr (some a0)], sm_new (sm_putR (sm_new (sm_putR (sm_new M 353 (6 : Int32).toNatClampNeg (6 : Int32).toNatClampNeg) a0 20 (some (sm_N M))) 356 (6 : Int32).toNatClampNeg (6 : Int32).toNatClampNeg) a0 21 (some (sm_N (sm_putR (sm_new M 353 (6 : Int32).toNatClampNeg (6 : Int32).toNatClampNeg) a0 20 (some (sm_N M)))))) 605 (6 : Int32).toNatClampNeg (6 : Int32).toNatClampNeg)) sm_a150_170 rfl rfl (st_newa (by decide)) ?_
  obtain ⟨h_3, h⟩ := h
  refine ru_go (t := (175, [some (.inr (some a0)), some (.inl x1), z2], [], sm_putR (sm_new (sm_putR (sm_new (sm_putR (sm_new M 353 (6 : Int32).toNatClampNeg (6 : Int32).toNatClampNeg) a0 20 (some (sm_N M))) 356 (6 : Int32).toNatClampNeg (6 : Int32).toNatClampNeg) a0 21 (some (sm_N (sm_putR (sm_new M 353 (6 : Int32).toNatClampNeg (6 : Int32).toNatClampNeg) a0 20 (some (sm_N M)))))) 605 (6 : Int32).toNatClampNeg (6 : Int32).toNatClampNeg) a0 22 (some (sm_N (sm_putR (sm_new (sm_putR (sm_new M 353 (6 : Int32).toNatClampNeg (6 : Int32).toNatClampNeg) a0 20 (some (sm_N M))) 356 (6 : Int32).toNatClampNeg (6 : Int32).toNatClampNeg) a0 21 (some (sm_N (sm_putR (sm_new M 353 (6 : Int32).toNatClampNeg (6 : Int32).toNatClampNeg) a0 20 (some (sm_N M)))))))))) sm_a150_172 rfl rfl (st_putR h_3 rfl) ?_
  exact h
theorem bb_150_175 {d : Nat} {M : sm_M} {Q : Option sm_V → sm_M → Prop} {a0 : Nat} {x1 : Int32} {z2 : Option sm_V}
    (h : sm_K (sm_new M 359 (6 : Int32).toNatClampNeg (6 : Int32).toNatClampNeg) a0 = 39 ∧ sm_K (sm_new (sm_putR (sm_new M 359 (6 : Int32).toNatClampNeg (6 : Int32).toNatClampNeg) a0 23 (some (sm_N M))) 362 (6 : Int32).toNatClampNeg (6 : Int32).toNatClampNeg) a0 = 39 ∧ sm_K (sm_new (sm_putR (sm_new (sm_putR (sm_new M 359 (6 : Int32).toNatClampNeg (6 : Int32).toNatClampNeg) a0 23 (some (sm_N M))) 362 (6 : Int32).toNatClampNeg (6 : Int32).toNatClampNeg) a0 24 (some (sm_N (sm_putR (sm_new M 359 (6 : Int32).toNatClampNeg (6 : Int32).toNatClampNeg) a0 23 (some (sm_N M)))))) 365 (6 : Int32).toNatClampNeg (6 : Int32).toNatClampNeg) a0 = 39 ∧ sm_Run (d + 1) 150 199 [some (.inr (some a0)), some (.inl x1), z2] [] (sm_putR (sm_new (sm_putR (sm_new (sm_putR (sm_new M 359 (6 : Int32).toNatClampNeg (6 : Int32).toNatClampNeg) a0 23 (some (sm_N M))) 362 (6 : Int32).toNatClampNeg (6 : Int32).toNatClampNeg) a0 24 (some (sm_N (sm_putR (sm_new M 359 (6 : Int32).toNatClampNeg (6 : Int32).toNatClampNeg) a0 23 (some (sm_N M)))))) 365 (6 : Int32).toNatClampNeg (6 : Int32).toNatClampNeg) a0 25 (some (sm_N (sm_putR (sm_new (sm_putR (sm_new M 359 (6 : Int32).toNatClampNeg (6 : Int32).toNatClampNeg) a0 23 (some (sm_N M))) 362 (6 : Int32).toNatClampNeg (6 : Int32).toNatClampNeg) a0 24 (some (sm_N (sm_putR (sm_new M 359 (6 : Int32).toNatClampNeg (6 : Int32).toNatClampNeg) a0 23 (some (sm_N M))))))))) Q) :
    sm_Run (d + 1) 150 175 [some (.inr (some a0)), some (.inl x1), z2] [] M Q := by
  refine ru_go (t := (176, [some (.inr (some a0)), some (.inl x1), z2], [.inr (some a0)], M)) sm_a150_175 rfl rfl rfl ?_
  refine ru_go (t := (178, [some (.inr (some a0)), some (.inl x1), z2], [.inl 6, .inr (some a0)], M)) sm_a150_176 rfl rfl (st_bipush (by decide)) ?_
  refine ru_go (t := (180, [some (.inr (some a0)), some (.inl x1), z2], [.inr (some (sm_N M)), .inr (some a0)], sm_new M 359 (6 : Int32).toNatClampNeg (6 : Int32).toNatClampNeg)) sm_a150_178 rfl rfl (st_newa (by decide)) ?_
  obtain ⟨h_1, h⟩ := h
  refine ru_go (t := (183, [some (.inr (some a0)), some (.inl x1), z2], [], sm_putR (sm_new M 359 (6 : Int32).toNatClampNeg (6 : Int32).toNatClampNeg) a0 23 (some (sm_N M)))) sm_a150_180 rfl rfl (st_putR h_1 rfl) ?_
  refine ru_go (t := (184, [some (.inr (some a0)), some (.inl x1), z2], [.inr (some a0)], sm_putR (sm_new M 359 (6 : Int32).toNatClampNeg (6 : Int32).toNatClampNeg) a0 23 (some (sm_N M)))) sm_a150_183 rfl rfl rfl ?_
  refine ru_go (t := (186, [some (.inr (some a0)), some (.inl x1), z2], [.inl 6, .inr (some a0)], sm_putR (sm_new M 359 (6 : Int32).toNatClampNeg (6 : Int32).toNatClampNeg) a0 23 (some (sm_N M)))) sm_a150_184 rfl rfl (st_bipush (by decide)) ?_
  refine ru_go (t := (188, [some (.inr (some a0)), some (.inl x1), z2], [.inr (some (sm_N (sm_putR (sm_new M 359 (6 : Int32).toNatClampNeg (6 : Int32).toNatClampNeg) a0 23 (some (sm_N M))))), .inr (some a0)], sm_new (sm_putR (sm_new M 359 (6 : Int32).toNatClampNeg (6 : Int32).toNatClampNeg) a0 23 (some (sm_N M))) 362 (6 : Int32).toNatClampNeg (6 : Int32).toNatClampNeg)) sm_a150_186 rfl rfl (st_newa (by decide)) ?_
  obtain ⟨h_2, h⟩ := h
  refine ru_go (t := (191, [some (.inr (some a0)), some (.inl x1), z2], [], sm_putR (sm_new (sm_putR (sm_new M 359 (6 : Int32).toNatClampNeg (6 : Int32).toNatClampNeg) a0 23 (some (sm_N M))) 362 (6 : Int32).toNatClampNeg (6 : Int32).toNatClampNeg) a0 24 (some (sm_N (sm_putR (sm_new M 359 (6 : Int32).toNatClampNeg (6 : Int32).toNatClampNeg) a0 23 (some (sm_N M))))))) sm_a150_188 rfl rfl (st_putR h_2 rfl) ?_
  refine ru_go (t := (192, [some (.inr (some a0)), some (.inl x1), z2], [.inr (some a0)], sm_putR (sm_new (sm_putR (sm_new M 359 (6 : Int32).toNatClampNeg (6 : Int32).toNatClampNeg) a0 23 (some (sm_N M))) 362 (6 : Int32).toNatClampNeg (6 : Int32).toNatClampNeg) a0 24 (some (sm_N (sm_putR (sm_new M 359 (6 : Int32).toNatClampNeg (6 : Int32).toNatClampNeg) a0 23 (some (sm_N M))))))) sm_a150_191 rfl rfl rfl ?_
  refine ru_go (t := (194, [some (.inr (some a0)), some (.inl x1), z2], [.inl 6, .inr (some a0)], sm_putR (sm_new (sm_putR (sm_new M 359 (6 : Int32).toNatClampNeg (6 : Int32).toNatClampNeg) a0 23 (some (sm_N M))) 362 (6 : Int32).toNatClampNeg (6 : Int32).toNatClampNeg) a0 24 (some (sm_N (sm_putR (sm_new M 359 (6 : Int32).toNatClampNeg (6 : Int32).toNatClampNeg) a0 23 (some (sm_N M))))))) sm_a150_192 rfl rfl (st_bipush (by decide)) ?_
  refine ru_go (t := (196, [some (.inr (some a0)), some (.inl x1), z2], [.inr (some (sm_N (sm_putR (sm_new (sm_putR (sm_new M 359 (6 : Int32).toNatClampNeg (6 : Int32).toNatClampNeg) a0 23 (some (sm_N M))) 362 (6 : Int32).toNatClampNeg (6 : Int32).toNatClampNeg) a0 24 (some (sm_N (sm_putR (sm_new M 359 (6 : Int32).toNatClampNeg (6 : Int32).toNatClampNeg) a0 23 (some (sm_N M)))))))), .inr (some a0)], sm_new (sm_putR (sm_new (sm_putR (sm_new M 359 (6 : Int32).toNatClampNeg (6 : Int32).toNatClampNeg) a0 23 (some (sm_N M))) 362 (6 : Int32).toNatClampNeg (6 : Int32).toNatClampNeg) a0 24 (some (sm_N (sm_putR (sm_new M 359 (6 : Int32).toNatClampNeg (6 : Int32).toNatClampNeg) a0 23 (some (sm_N M)))))) 365 (6 : Int32).toNatClampNeg (6 : Int32).toNatClampNeg)) sm_a150_194 rfl rfl (st_newa (by decide)) ?_
  obtain ⟨h_3, h⟩ := h
  refine ru_go (t := (199, [some (.inr (some a0)), some (.inl x1), z2], [], sm_putR (sm_new (sm_putR (sm_new (sm_putR (sm_new M 359 (6 : Int32).toNatClampNeg (6 : Int32).toNatClampNeg) a0 23 (some (sm_N M))) 362 (6 : Int32).toNatClampNeg (6 : Int32).toNatClampNeg) a0 24 (some (sm_N (sm_putR (sm_new M 359 (6 : Int32).toNatClampNeg (6 : Int32).toNatClampNeg) a0 23 (some (sm_N M)))))) 365 (6 : Int32).toNatClampNeg (6 : Int32).toNatClampNeg) a0 25 (some (sm_N (sm_putR (sm_new (sm_putR (sm_new M 359 (6 : Int32).toNatClampNeg (6 : Int32).toNatClampNeg) a0 23 (some (sm_N M))) 362 (6 : Int32).toNatClampNeg (6 : Int32).toNatClampNeg) a0 24 (some (sm_N (sm_putR (sm_new M 359 (6 : Int32).toNatClampNeg (6 : Int32).toNatClampNeg) a0 23 (some (sm_N M)))))))))) sm_a150_196 rfl rfl (st_putR h_3 rfl) ?_
  exact h
theorem bb_150_199 {d : Nat} {M : sm_M} {Q : Option sm_V → sm_M → Prop} {a0 : Nat} {x1 : Int32} {z2 : Option sm_V}
    (h : sm_K (sm_new M 368 (6 : Int32).toNatClampNeg (6 : Int32).toNatClampNeg) a0 = 39 ∧ sm_K (sm_new (sm_putR (sm_new M 368 (6 : Int32).toNatClampNeg (6 : Int32).toNatClampNeg) a0 26 (some (sm_N M))) 608 (6 : Int32).toNatClampNeg (6 : Int32).toNatClampNeg) a0 = 39 ∧ sm_K (sm_new (sm_putR (sm_new (sm_putR (sm_new M 368 (6 : Int32).toNatClampNeg (6 : Int32).toNatClampNeg) a0 26 (some (sm_N M))) 608 (6 : Int32).toNatClampNeg (6 : Int32).toNatClampNeg) a0 27 (some (sm_N (sm_putR (sm_new M 368 (6 : Int32).toNatClampNeg (6 : Int32).toNatClampNeg) a0 26 (some (sm_N M)))))) 371 (6 : Int32).toNatClampNeg (6 : Int32).toNatClampNeg) a0 = 39 ∧ sm_Run (d + 1) 150 223 [some (.inr (some a0)), some (.inl x1), z2] [] (sm_putR (sm_new (sm_putR (sm_new (sm_putR (sm_new M 368 (6 : Int32).toNatClampNeg (6 : Int32).toNatClampNeg) a0 26 (some (sm_N M))) 608 (6 : Int32).toNatClampNeg (6 : Int32).toNatClampNeg) a0 27 (some (sm_N (sm_putR (sm_new M 368 (6 : Int32).toNatClampNeg (6 : Int32).toNatClampNeg) a0 26 (some (sm_N M)))))) 371 (6 : Int32).toNatClampNeg (6 : Int32).toNatClampNeg) a0 28 (some (sm_N (sm_putR (sm_new (sm_putR (sm_new M 368 (6 : Int32).toNatClampNeg (6 : Int32).toNatClampNeg) a0 26 (some (sm_N M))) 608 (6 : Int32).toNatClampNeg (6 : Int32).toNatClampNeg) a0 27 (some (sm_N (sm_putR (sm_new M 368 (6 : Int32).toNatClampNeg (6 : Int32).toNatClampNeg) a0 26 (some (sm_N M))))))))) Q) :
    sm_Run (d + 1) 150 199 [some (.inr (some a0)), some (.inl x1), z2] [] M Q := by
  refine ru_go (t := (200, [some (.inr (some a0)), some (.inl x1), z2], [.inr (some a0)], M)) sm_a150_199 rfl rfl rfl ?_
  refine ru_go (t := (202, [some (.inr (some a0)), some (.inl x1), z2], [.inl 6, .inr (some a0)], M)) sm_a150_200 rfl rfl (st_bipush (by decide)) ?_
  refine ru_go (t := (204, [some (.inr (some a0)), some (.inl x1), z2], [.inr (some (sm_N M)), .inr (some a0)], sm_new M 368 (6 : Int32).toNatClampNeg (6 : Int32).toNatClampNeg)) sm_a150_202 rfl rfl (st_newa (by decide)) ?_
  obtain ⟨h_1, h⟩ := h
  refine ru_go (t := (207, [some (.inr (some a0)), some (.inl x1), z2], [], sm_putR (sm_new M 368 (6 : Int32).toNatClampNeg (6 : Int32).toNatClampNeg) a0 26 (some (sm_N M)))) sm_a150_204 rfl rfl (st_putR h_1 rfl) ?_
  refine ru_go (t := (208, [some (.inr (some a0)), some (.inl x1), z2], [.inr (some a0)], sm_putR (sm_new M 368 (6 : Int32).toNatClampNeg (6 : Int32).toNatClampNeg) a0 26 (some (sm_N M)))) sm_a150_207 rfl rfl rfl ?_
  refine ru_go (t := (210, [some (.inr (some a0)), some (.inl x1), z2], [.inl 6, .inr (some a0)], sm_putR (sm_new M 368 (6 : Int32).toNatClampNeg (6 : Int32).toNatClampNeg) a0 26 (some (sm_N M)))) sm_a150_208 rfl rfl (st_bipush (by decide)) ?_
  refine ru_go (t := (212, [some (.inr (some a0)), some (.inl x1), z2], [.inr (some (sm_N (sm_putR (sm_new M 368 (6 : Int32).toNatClampNeg (6 : Int32).toNatClampNeg) a0 26 (some (sm_N M))))), .inr (some a0)], sm_new (sm_putR (sm_new M 368 (6 : Int32).toNatClampNeg (6 : Int32).toNatClampNeg) a0 26 (some (sm_N M))) 608 (6 : Int32).toNatClampNeg (6 : Int32).toNatClampNeg)) sm_a150_210 rfl rfl (st_newa (by decide)) ?_
  obtain ⟨h_2, h⟩ := h
  refine ru_go (t := (215, [some (.inr (some a0)), some (.inl x1), z2], [], sm_putR (sm_new (sm_putR (sm_new M 368 (6 : Int32).toNatClampNeg (6 : Int32).toNatClampNeg) a0 26 (some (sm_N M))) 608 (6 : Int32).toNatClampNeg (6 : Int32).toNatClampNeg) a0 27 (some (sm_N (sm_putR (sm_new M 368 (6 : Int32).toNatClampNeg (6 : Int32).toNatClampNeg) a0 26 (some (sm_N M))))))) sm_a150_212 rfl rfl (st_putR h_2 rfl) ?_
  refine ru_go (t := (216, [some (.inr (some a0)), some (.inl x1), z2], [.inr (some a0)], sm_putR (sm_new (sm_putR (sm_new M 368 (6 : Int32).toNatClampNeg (6 : Int32).toNatClampNeg) a0 26 (some (sm_N M))) 608 (6 : Int32).toNatClampNeg (6 : Int32).toNatClampNeg) a0 27 (some (sm_N (sm_putR (sm_new M 368 (6 : Int32).toNatClampNeg (6 : Int32).toNatClampNeg) a0 26 (some (sm_N M))))))) sm_a150_215 rfl rfl rfl ?_
  refine ru_go (t := (218, [some (.inr (some a0)), some (.inl x1), z2], [.inl 6, .inr (some a0)], sm_putR (sm_new (sm_putR (sm_new M 368 (6 : Int32).toNatClampNeg (6 : Int32).toNatClampNeg) a0 26 (some (sm_N M))) 608 (6 : Int32).toNatClampNeg (6 : Int32).toNatClampNeg) a0 27 (some (sm_N (sm_putR (sm_new M 368 (6 : Int32).toNatClampNeg (6 : Int32).toNatClampNeg) a0 26 (some (sm_N M))))))) sm_a150_216 rfl rfl (st_bipush (by decide)) ?_
  refine ru_go (t := (220, [some (.inr (some a0)), some (.inl x1), z2], [.inr (some (sm_N (sm_putR (sm_new (sm_putR (sm_new M 368 (6 : Int32).toNatClampNeg (6 : Int32).toNatClampNeg) a0 26 (some (sm_N M))) 608 (6 : Int32).toNatClampNeg (6 : Int32).toNatClampNeg) a0 27 (some (sm_N (sm_putR (sm_new M 368 (6 : Int32).toNatClampNeg (6 : Int32).toNatClampNeg) a0 26 (some (sm_N M)))))))), .inr (some a0)], sm_new (sm_putR (sm_new (sm_putR (sm_new M 368 (6 : Int32).toNatClampNeg (6 : Int32).toNatClampNeg) a0 26 (some (sm_N M))) 608 (6 : Int32).toNatClampNeg (6 : Int32).toNatClampNeg) a0 27 (some (sm_N (sm_putR (sm_new M 368 (6 : Int32).toNatClampNeg (6 : Int32).toNatClampNeg) a0 26 (some (sm_N M)))))) 371 (6 : Int32).toNatClampNeg (6 : Int32).toNatClampNeg)) sm_a150_218 rfl rfl (st_newa (by decide)) ?_
  obtain ⟨h_3, h⟩ := h
  refine ru_go (t := (223, [some (.inr (some a0)), some (.inl x1), z2], [], sm_putR (sm_new (sm_putR (sm_new (sm_putR (sm_new M 368 (6 : Int32).toNatClampNeg (6 : Int32).toNatClampNeg) a0 26 (some (sm_N M))) 608 (6 : Int32).toNatClampNeg (6 : Int32).toNatClampNeg) a0 27 (some (sm_N (sm_putR (sm_new M 368 (6 : Int32).toNatClampNeg (6 : Int32).toNatClampNeg) a0 26 (some (sm_N M)))))) 371 (6 : Int32).toNatClampNeg (6 : Int32).toNatClampNeg) a0 28 (some (sm_N (sm_putR (sm_new (sm_putR (sm_new M 368 (6 : Int32).toNatClampNeg (6 : Int32).toNatClampNeg) a0 26 (some (sm_N M))) 608 (6 : Int32).toNatClampNeg (6 : Int32).toNatClampNeg) a0 27 (some (sm_N (sm_putR (sm_new M 368 (6 : Int32).toNatClampNeg (6 : Int32).toNatClampNeg) a0 26 (some (sm_N M)))))))))) sm_a150_220 rfl rfl (st_putR h_3 rfl) ?_
  exact h
theorem bb_150_223 {d : Nat} {M : sm_M} {Q : Option sm_V → sm_M → Prop} {a0 : Nat} {x1 : Int32} {z2 : Option sm_V}
    (h : sm_K (sm_new M 374 (600 : Int32).toNatClampNeg (600 : Int32).toNatClampNeg) a0 = 39 ∧ sm_K (sm_new (sm_putR (sm_new M 374 (600 : Int32).toNatClampNeg (600 : Int32).toNatClampNeg) a0 29 (some (sm_N M))) 377 (6 : Int32).toNatClampNeg (6 : Int32).toNatClampNeg) a0 = 39 ∧ sm_K (sm_new (sm_putR (sm_new (sm_putR (sm_new M 374 (600 : Int32).toNatClampNeg (600 : Int32).toNatClampNeg) a0 29 (some (sm_N M))) 377 (6 : Int32).toNatClampNeg (6 : Int32).toNatClampNeg) a0 30 (some (sm_N (sm_putR (sm_new M 374 (600 : Int32).toNatClampNeg (600 : Int32).toNatClampNeg) a0 29 (some (sm_N M)))))) 380 (6 : Int32).toNatClampNeg (6 : Int32).toNatClampNeg) a0 = 39 ∧ sm_Run (d + 1) 150 248 [some (.inr (some a0)), some (.inl x1), z2] [] (sm_putR (sm_new (sm_putR (sm_new (sm_putR (sm_new M 374 (600 : Int32).toNatClampNeg (600 : Int32).toNatClampNeg) a0 29 (some (sm_N M))) 377 (6 : Int32).toNatClampNeg (6 : Int32).toNatClampNeg) a0 30 (some (sm_N (sm_putR (sm_new M 374 (600 : Int32).toNatClampNeg (600 : Int32).toNatClampNeg) a0 29 (some (sm_N M)))))) 380 (6 : Int32).toNatClampNeg (6 : Int32).toNatClampNeg) a0 31 (some (sm_N (sm_putR (sm_new (sm_putR (sm_new M 374 (600 : Int32).toNatClampNeg (600 : Int32).toNatClampNeg) a0 29 (some (sm_N M))) 377 (6 : Int32).toNatClampNeg (6 : Int32).toNatClampNeg) a0 30 (some (sm_N (sm_putR (sm_new M 374 (600 : Int32).toNatClampNeg (600 : Int32).toNatClampNeg) a0 29 (some (sm_N M))))))))) Q) :
    sm_Run (d + 1) 150 223 [some (.inr (some a0)), some (.inl x1), z2] [] M Q := by
  refine ru_go (t := (224, [some (.inr (some a0)), some (.inl x1), z2], [.inr (some a0)], M)) sm_a150_223 rfl rfl rfl ?_
  refine ru_go (t := (227, [some (.inr (some a0)), some (.inl x1), z2], [.inl 600, .inr (some a0)], M)) sm_a150_224 rfl rfl (st_sipush (by decide)) ?_
  refine ru_go (t := (229, [some (.inr (some a0)), some (.inl x1), z2], [.inr (some (sm_N M)), .inr (some a0)], sm_new M 374 (600 : Int32).toNatClampNeg (600 : Int32).toNatClampNeg)) sm_a150_227 rfl rfl (st_newa (by decide)) ?_
  obtain ⟨h_1, h⟩ := h
  refine ru_go (t := (232, [some (.inr (some a0)), some (.inl x1), z2], [], sm_putR (sm_new M 374 (600 : Int32).toNatClampNeg (600 : Int32).toNatClampNeg) a0 29 (some (sm_N M)))) sm_a150_229 rfl rfl (st_putR h_1 rfl) ?_
  refine ru_go (t := (233, [some (.inr (some a0)), some (.inl x1), z2], [.inr (some a0)], sm_putR (sm_new M 374 (600 : Int32).toNatClampNeg (600 : Int32).toNatClampNeg) a0 29 (some (sm_N M)))) sm_a150_232 rfl rfl rfl ?_
  refine ru_go (t := (235, [some (.inr (some a0)), some (.inl x1), z2], [.inl 6, .inr (some a0)], sm_putR (sm_new M 374 (600 : Int32).toNatClampNeg (600 : Int32).toNatClampNeg) a0 29 (some (sm_N M)))) sm_a150_233 rfl rfl (st_bipush (by decide)) ?_
  refine ru_go (t := (237, [some (.inr (some a0)), some (.inl x1), z2], [.inr (some (sm_N (sm_putR (sm_new M 374 (600 : Int32).toNatClampNeg (600 : Int32).toNatClampNeg) a0 29 (some (sm_N M))))), .inr (some a0)], sm_new (sm_putR (sm_new M 374 (600 : Int32).toNatClampNeg (600 : Int32).toNatClampNeg) a0 29 (some (sm_N M))) 377 (6 : Int32).toNatClampNeg (6 : Int32).toNatClampNeg)) sm_a150_235 rfl rfl (st_newa (by decide)) ?_
  obtain ⟨h_2, h⟩ := h
  refine ru_go (t := (240, [some (.inr (some a0)), some (.inl x1), z2], [], sm_putR (sm_new (sm_putR (sm_new M 374 (600 : Int32).toNatClampNeg (600 : Int32).toNatClampNeg) a0 29 (some (sm_N M))) 377 (6 : Int32).toNatClampNeg (6 : Int32).toNatClampNeg) a0 30 (some (sm_N (sm_putR (sm_new M 374 (600 : Int32).toNatClampNeg (600 : Int32).toNatClampNeg) a0 29 (some (sm_N M))))))) sm_a150_237 rfl rfl (st_putR h_2 rfl) ?_
  refine ru_go (t := (241, [some (.inr (some a0)), some (.inl x1), z2], [.inr (some a0)], sm_putR (sm_new (sm_putR (sm_new M 374 (600 : Int32).toNatClampNeg (600 : Int32).toNatClampNeg) a0 29 (some (sm_N M))) 377 (6 : Int32).toNatClampNeg (6 : Int32).toNatClampNeg) a0 30 (some (sm_N (sm_putR (sm_new M 374 (600 : Int32).toNatClampNeg (600 : Int32).toNatClampNeg) a0 29 (some (sm_N M))))))) sm_a150_240 rfl rfl rfl ?_
  refine ru_go (t := (243, [some (.inr (some a0)), some (.inl x1), z2], [.inl 6, .inr (some a0)], sm_putR (sm_new (sm_putR (sm_new M 374 (600 : Int32).toNatClampNeg (600 : Int32).toNatClampNeg) a0 29 (some (sm_N M))) 377 (6 : Int32).toNatClampNeg (6 : Int32).toNatClampNeg) a0 30 (some (sm_N (sm_putR (sm_new M 374 (600 : Int32).toNatClampNeg (600 : Int32).toNatClampNeg) a0 29 (some (sm_N M))))))) sm_a150_241 rfl rfl (st_bipush (by decide)) ?_
  refine ru_go (t := (245, [some (.inr (some a0)), some (.inl x1), z2], [.inr (some (sm_N (sm_putR (sm_new (sm_putR (sm_new M 374 (600 : Int32).toNatClampNeg (600 : Int32).toNatClampNeg) a0 29 (some (sm_N M))) 377 (6 : Int32).toNatClampNeg (6 : Int32).toNatClampNeg) a0 30 (some (sm_N (sm_putR (sm_new M 374 (600 : Int32).toNatClampNeg (600 : Int32).toNatClampNeg) a0 29 (some (sm_N M)))))))), .inr (some a0)], sm_new (sm_putR (sm_new (sm_putR (sm_new M 374 (600 : Int32).toNatClampNeg (600 : Int32).toNatClampNeg) a0 29 (some (sm_N M))) 377 (6 : Int32).toNatClampNeg (6 : Int32).toNatClampNeg) a0 30 (some (sm_N (sm_putR (sm_new M 374 (600 : Int32).toNatClampNeg (600 : Int32).toNatClampNeg) a0 29 (some (sm_N M)))))) 380 (6 : Int32).toNatClampNeg (6 : Int32).toNatClampNeg)) sm_a150_243 rfl rfl (st_newa (by decide)) ?_
  obtain ⟨h_3, h⟩ := h
  refine ru_go (t := (248, [some (.inr (some a0)), some (.inl x1), z2], [], sm_putR (sm_new (sm_putR (sm_new (sm_putR (sm_new M 374 (600 : Int32).toNatClampNeg (600 : Int32).toNatClampNeg) a0 29 (some (sm_N M))) 377 (6 : Int32).toNatClampNeg (6 : Int32).toNatClampNeg) a0 30 (some (sm_N (sm_putR (sm_new M 374 (600 : Int32).toNatClampNeg (600 : Int32).toNatClampNeg) a0 29 (some (sm_N M)))))) 380 (6 : Int32).toNatClampNeg (6 : Int32).toNatClampNeg) a0 31 (some (sm_N (sm_putR (sm_new (sm_putR (sm_new M 374 (600 : Int32).toNatClampNeg (600 : Int32).toNatClampNeg) a0 29 (some (sm_N M))) 377 (6 : Int32).toNatClampNeg (6 : Int32).toNatClampNeg) a0 30 (some (sm_N (sm_putR (sm_new M 374 (600 : Int32).toNatClampNeg (600 : Int32).toNatClampNeg) a0 29 (some (sm_N M)))))))))) sm_a150_245 rfl rfl (st_putR h_3 rfl) ?_
  exact h
theorem bb_150_248 {d : Nat} {M : sm_M} {Q : Option sm_V → sm_M → Prop} {a0 : Nat} {x1 : Int32} {z2 : Option sm_V}
    (h : sm_K (sm_new M 383 (50 : Int32).toNatClampNeg (50 : Int32).toNatClampNeg) a0 = 39 ∧ sm_K (sm_new (sm_putR (sm_new M 383 (50 : Int32).toNatClampNeg (50 : Int32).toNatClampNeg) a0 34 (some (sm_N M))) 386 (50 : Int32).toNatClampNeg (50 : Int32).toNatClampNeg) a0 = 39 ∧ sm_K (sm_new (sm_putR (sm_new (sm_putR (sm_new M 383 (50 : Int32).toNatClampNeg (50 : Int32).toNatClampNeg) a0 34 (some (sm_N M))) 386 (50 : Int32).toNatClampNeg (50 : Int32).toNatClampNeg) a0 35 (some (sm_N (sm_putR (sm_new M 383 (50 : Int32).toNatClampNeg (50 : Int32).toNatClampNeg) a0 34 (some (sm_N M)))))) 389 (50 : Int32).toNatClampNeg (50 : Int32).toNatClampNeg) a0 = 39 ∧ sm_Run (d + 1) 150 272 [some (.inr (some a0)), some (.inl x1), z2] [] (sm_putR (sm_new (sm_putR (sm_new (sm_putR (sm_new M 383 (50 : Int32).toNatClampNeg (50 : Int32).toNatClampNeg) a0 34 (some (sm_N M))) 386 (50 : Int32).toNatClampNeg (50 : Int32).toNatClampNeg) a0 35 (some (sm_N (sm_putR (sm_new M 383 (50 : Int32).toNatClampNeg (50 : Int32).toNatClampNeg) a0 34 (some (sm_N M)))))) 389 (50 : Int32).toNatClampNeg (50 : Int32).toNatClampNeg) a0 36 (some (sm_N (sm_putR (sm_new (sm_putR (sm_new M 383 (50 : Int32).toNatClampNeg (50 : Int32).toNatClampNeg) a0 34 (some (sm_N M))) 386 (50 : Int32).toNatClampNeg (50 : Int32).toNatClampNeg) a0 35 (some (sm_N (sm_putR (sm_new M 383 (50 : Int32).toNatClampNeg (50 : Int32).toNatClampNeg) a0 34 (some (sm_N M))))))))) Q) :
    sm_Run (d + 1) 150 248 [some (.inr (some a0)), some (.inl x1), z2] [] M Q := by
  refine ru_go (t := (249, [some (.inr (some a0)), some (.inl x1), z2], [.inr (some a0)], M)) sm_a150_248 rfl rfl rfl ?_
  refine ru_go (t := (251, [some (.inr (some a0)), some (.inl x1), z2], [.inl 50, .inr (some a0)], M)) sm_a150_249 rfl rfl (st_bipush (by decide)) ?_
  refine ru_go (t := (253, [some (.inr (some a0)), some (.inl x1), z2], [.inr (some (sm_N M)), .inr (some a0)], sm_new M 383 (50 : Int32).toNatClampNeg (50 : Int32).toNatClampNeg)) sm_a150_251 rfl rfl (st_newa (by decide)) ?_
  obtain ⟨h_1, h⟩ := h
  refine ru_go (t := (256, [some (.inr (some a0)), some (.inl x1), z2], [], sm_putR (sm_new M 383 (50 : Int32).toNatClampNeg (50 : Int32).toNatClampNeg) a0 34 (some (sm_N M)))) sm_a150_253 rfl rfl (st_putR h_1 rfl) ?_
  refine ru_go (t := (257, [some (.inr (some a0)), some (.inl x1), z2], [.inr (some a0)], sm_putR (sm_new M 383 (50 : Int32).toNatClampNeg (50 : Int32).toNatClampNeg) a0 34 (some (sm_N M)))) sm_a150_256 rfl rfl rfl ?_
  refine ru_go (t := (259, [some (.inr (some a0)), some (.inl x1), z2], [.inl 50, .inr (some a0)], sm_putR (sm_new M 383 (50 : Int32).toNatClampNeg (50 : Int32).toNatClampNeg) a0 34 (some (sm_N M)))) sm_a150_257 rfl rfl (st_bipush (by decide)) ?_
  refine ru_go (t := (261, [some (.inr (some a0)), some (.inl x1), z2], [.inr (some (sm_N (sm_putR (sm_new M 383 (50 : Int32).toNatClampNeg (50 : Int32).toNatClampNeg) a0 34 (some (sm_N M))))), .inr (some a0)], sm_new (sm_putR (sm_new M 383 (50 : Int32).toNatClampNeg (50 : Int32).toNatClampNeg) a0 34 (some (sm_N M))) 386 (50 : Int32).toNatClampNeg (50 : Int32).toNatClampNeg)) sm_a150_259 rfl rfl (st_newa (by decide)) ?_
  obtain ⟨h_2, h⟩ := h
  refine ru_go (t := (264, [some (.inr (some a0)), some (.inl x1), z2], [], sm_putR (sm_new (sm_putR (sm_new M 383 (50 : Int32).toNatClampNeg (50 : Int32).toNatClampNeg) a0 34 (some (sm_N M))) 386 (50 : Int32).toNatClampNeg (50 : Int32).toNatClampNeg) a0 35 (some (sm_N (sm_putR (sm_new M 383 (50 : Int32).toNatClampNeg (50 : Int32).toNatClampNeg) a0 34 (some (sm_N M))))))) sm_a150_261 rfl rfl (st_putR h_2 rfl) ?_
  refine ru_go (t := (265, [some (.inr (some a0)), some (.inl x1), z2], [.inr (some a0)], sm_putR (sm_new (sm_putR (sm_new M 383 (50 : Int32).toNatClampNeg (50 : Int32).toNatClampNeg) a0 34 (some (sm_N M))) 386 (50 : Int32).toNatClampNeg (50 : Int32).toNatClampNeg) a0 35 (some (sm_N (sm_putR (sm_new M 383 (50 : Int32).toNatClampNeg (50 : Int32).toNatClampNeg) a0 34 (some (sm_N M))))))) sm_a150_264 rfl rfl rfl ?_
  refine ru_go (t := (267, [some (.inr (some a0)), some (.inl x1), z2], [.inl 50, .inr (some a0)], sm_putR (sm_new (sm_putR (sm_new M 383 (50 : Int32).toNatClampNeg (50 : Int32).toNatClampNeg) a0 34 (some (sm_N M))) 386 (50 : Int32).toNatClampNeg (50 : Int32).toNatClampNeg) a0 35 (some (sm_N (sm_putR (sm_new M 383 (50 : Int32).toNatClampNeg (50 : Int32).toNatClampNeg) a0 34 (some (sm_N M))))))) sm_a150_265 rfl rfl (st_bipush (by decide)) ?_
  refine ru_go (t := (269, [some (.inr (some a0)), some (.inl x1), z2], [.inr (some (sm_N (sm_putR (sm_new (sm_putR (sm_new M 383 (50 : Int32).toNatClampNeg (50 : Int32).toNatClampNeg) a0 34 (some (sm_N M))) 386 (50 : Int32).toNatClampNeg (50 : Int32).toNatClampNeg) a0 35 (some (sm_N (sm_putR (sm_new M 383 (50 : Int32).toNatClampNeg (50 : Int32).toNatClampNeg) a0 34 (some (sm_N M)))))))), .inr (some a0)], sm_new (sm_putR (sm_new (sm_putR (sm_new M 383 (50 : Int32).toNatClampNeg (50 : Int32).toNatClampNeg) a0 34 (some (sm_N M))) 386 (50 : Int32).toNatClampNeg (50 : Int32).toNatClampNeg) a0 35 (some (sm_N (sm_putR (sm_new M 383 (50 : Int32).toNatClampNeg (50 : Int32).toNatClampNeg) a0 34 (some (sm_N M)))))) 389 (50 : Int32).toNatClampNeg (50 : Int32).toNatClampNeg)) sm_a150_267 rfl rfl (st_newa (by decide)) ?_
  obtain ⟨h_3, h⟩ := h
  refine ru_go (t := (272, [some (.inr (some a0)), some (.inl x1), z2], [], sm_putR (sm_new (sm_putR (sm_new (sm_putR (sm_new M 383 (50 : Int32).toNatClampNeg (50 : Int32).toNatClampNeg) a0 34 (some (sm_N M))) 386 (50 : Int32).toNatClampNeg (50 : Int32).toNatClampNeg) a0 35 (some (sm_N (sm_putR (sm_new M 383 (50 : Int32).toNatClampNeg (50 : Int32).toNatClampNeg) a0 34 (some (sm_N M)))))) 389 (50 : Int32).toNatClampNeg (50 : Int32).toNatClampNeg) a0 36 (some (sm_N (sm_putR (sm_new (sm_putR (sm_new M 383 (50 : Int32).toNatClampNeg (50 : Int32).toNatClampNeg) a0 34 (some (sm_N M))) 386 (50 : Int32).toNatClampNeg (50 : Int32).toNatClampNeg) a0 35 (some (sm_N (sm_putR (sm_new M 383 (50 : Int32).toNatClampNeg (50 : Int32).toNatClampNeg) a0 34 (some (sm_N M)))))))))) sm_a150_269 rfl rfl (st_putR h_3 rfl) ?_
  exact h
theorem bb_150_272 {d : Nat} {M : sm_M} {Q : Option sm_V → sm_M → Prop} {a0 : Nat} {x1 : Int32} {z2 : Option sm_V}
    (h : sm_K (sm_new M 392 (60 : Int32).toNatClampNeg (60 : Int32).toNatClampNeg) a0 = 39 ∧ sm_K (sm_new (sm_putR (sm_new M 392 (60 : Int32).toNatClampNeg (60 : Int32).toNatClampNeg) a0 37 (some (sm_N M))) 395 (60 : Int32).toNatClampNeg (60 : Int32).toNatClampNeg) a0 = 39 ∧ sm_K (sm_new (sm_putR (sm_new (sm_putR (sm_new M 392 (60 : Int32).toNatClampNeg (60 : Int32).toNatClampNeg) a0 37 (some (sm_N M))) 395 (60 : Int32).toNatClampNeg (60 : Int32).toNatClampNeg) a0 38 (some (sm_N (sm_putR (sm_new M 392 (60 : Int32).toNatClampNeg (60 : Int32).toNatClampNeg) a0 37 (some (sm_N M)))))) 398 (60 : Int32).toNatClampNeg (60 : Int32).toNatClampNeg) a0 = 39 ∧ sm_Run (d + 1) 150 296 [some (.inr (some a0)), some (.inl x1), z2] [] (sm_putR (sm_new (sm_putR (sm_new (sm_putR (sm_new M 392 (60 : Int32).toNatClampNeg (60 : Int32).toNatClampNeg) a0 37 (some (sm_N M))) 395 (60 : Int32).toNatClampNeg (60 : Int32).toNatClampNeg) a0 38 (some (sm_N (sm_putR (sm_new M 392 (60 : Int32).toNatClampNeg (60 : Int32).toNatClampNeg) a0 37 (some (sm_N M)))))) 398 (60 : Int32).toNatClampNeg (60 : Int32).toNatClampNeg) a0 39 (some (sm_N (sm_putR (sm_new (sm_putR (sm_new M 392 (60 : Int32).toNatClampNeg (60 : Int32).toNatClampNeg) a0 37 (some (sm_N M))) 395 (60 : Int32).toNatClampNeg (60 : Int32).toNatClampNeg) a0 38 (some (sm_N (sm_putR (sm_new M 392 (60 : Int32).toNatClampNeg (60 : Int32).toNatClampNeg) a0 37 (some (sm_N M))))))))) Q) :
    sm_Run (d + 1) 150 272 [some (.inr (some a0)), some (.inl x1), z2] [] M Q := by
  refine ru_go (t := (273, [some (.inr (some a0)), some (.inl x1), z2], [.inr (some a0)], M)) sm_a150_272 rfl rfl rfl ?_
  refine ru_go (t := (275, [some (.inr (some a0)), some (.inl x1), z2], [.inl 60, .inr (some a0)], M)) sm_a150_273 rfl rfl (st_bipush (by decide)) ?_
  refine ru_go (t := (277, [some (.inr (some a0)), some (.inl x1), z2], [.inr (some (sm_N M)), .inr (some a0)], sm_new M 392 (60 : Int32).toNatClampNeg (60 : Int32).toNatClampNeg)) sm_a150_275 rfl rfl (st_newa (by decide)) ?_
  obtain ⟨h_1, h⟩ := h
  refine ru_go (t := (280, [some (.inr (some a0)), some (.inl x1), z2], [], sm_putR (sm_new M 392 (60 : Int32).toNatClampNeg (60 : Int32).toNatClampNeg) a0 37 (some (sm_N M)))) sm_a150_277 rfl rfl (st_putR h_1 rfl) ?_
  refine ru_go (t := (281, [some (.inr (some a0)), some (.inl x1), z2], [.inr (some a0)], sm_putR (sm_new M 392 (60 : Int32).toNatClampNeg (60 : Int32).toNatClampNeg) a0 37 (some (sm_N M)))) sm_a150_280 rfl rfl rfl ?_
  refine ru_go (t := (283, [some (.inr (some a0)), some (.inl x1), z2], [.inl 60, .inr (some a0)], sm_putR (sm_new M 392 (60 : Int32).toNatClampNeg (60 : Int32).toNatClampNeg) a0 37 (some (sm_N M)))) sm_a150_281 rfl rfl (st_bipush (by decide)) ?_
  refine ru_go (t := (285, [some (.inr (some a0)), some (.inl x1), z2], [.inr (some (sm_N (sm_putR (sm_new M 392 (60 : Int32).toNatClampNeg (60 : Int32).toNatClampNeg) a0 37 (some (sm_N M))))), .inr (some a0)], sm_new (sm_putR (sm_new M 392 (60 : Int32).toNatClampNeg (60 : Int32).toNatClampNeg) a0 37 (some (sm_N M))) 395 (60 : Int32).toNatClampNeg (60 : Int32).toNatClampNeg)) sm_a150_283 rfl rfl (st_newa (by decide)) ?_
  obtain ⟨h_2, h⟩ := h
  refine ru_go (t := (288, [some (.inr (some a0)), some (.inl x1), z2], [], sm_putR (sm_new (sm_putR (sm_new M 392 (60 : Int32).toNatClampNeg (60 : Int32).toNatClampNeg) a0 37 (some (sm_N M))) 395 (60 : Int32).toNatClampNeg (60 : Int32).toNatClampNeg) a0 38 (some (sm_N (sm_putR (sm_new M 392 (60 : Int32).toNatClampNeg (60 : Int32).toNatClampNeg) a0 37 (some (sm_N M))))))) sm_a150_285 rfl rfl (st_putR h_2 rfl) ?_
  refine ru_go (t := (289, [some (.inr (some a0)), some (.inl x1), z2], [.inr (some a0)], sm_putR (sm_new (sm_putR (sm_new M 392 (60 : Int32).toNatClampNeg (60 : Int32).toNatClampNeg) a0 37 (some (sm_N M))) 395 (60 : Int32).toNatClampNeg (60 : Int32).toNatClampNeg) a0 38 (some (sm_N (sm_putR (sm_new M 392 (60 : Int32).toNatClampNeg (60 : Int32).toNatClampNeg) a0 37 (some (sm_N M))))))) sm_a150_288 rfl rfl rfl ?_
  refine ru_go (t := (291, [some (.inr (some a0)), some (.inl x1), z2], [.inl 60, .inr (some a0)], sm_putR (sm_new (sm_putR (sm_new M 392 (60 : Int32).toNatClampNeg (60 : Int32).toNatClampNeg) a0 37 (some (sm_N M))) 395 (60 : Int32).toNatClampNeg (60 : Int32).toNatClampNeg) a0 38 (some (sm_N (sm_putR (sm_new M 392 (60 : Int32).toNatClampNeg (60 : Int32).toNatClampNeg) a0 37 (some (sm_N M))))))) sm_a150_289 rfl rfl (st_bipush (by decide)) ?_
  refine ru_go (t := (293, [some (.inr (some a0)), some (.inl x1), z2], [.inr (some (sm_N (sm_putR (sm_new (sm_putR (sm_new M 392 (60 : Int32).toNatClampNeg (60 : Int32).toNatClampNeg) a0 37 (some (sm_N M))) 395 (60 : Int32).toNatClampNeg (60 : Int32).toNatClampNeg) a0 38 (some (sm_N (sm_putR (sm_new M 392 (60 : Int32).toNatClampNeg (60 : Int32).toNatClampNeg) a0 37 (some (sm_N M)))))))), .inr (some a0)], sm_new (sm_putR (sm_new (sm_putR (sm_new M 392 (60 : Int32).toNatClampNeg (60 : Int32).toNatClampNeg) a0 37 (some (sm_N M))) 395 (60 : Int32).toNatClampNeg (60 : Int32).toNatClampNeg) a0 38 (some (sm_N (sm_putR (sm_new M 392 (60 : Int32).toNatClampNeg (60 : Int32).toNatClampNeg) a0 37 (some (sm_N M)))))) 398 (60 : Int32).toNatClampNeg (60 : Int32).toNatClampNeg)) sm_a150_291 rfl rfl (st_newa (by decide)) ?_
  obtain ⟨h_3, h⟩ := h
  refine ru_go (t := (296, [some (.inr (some a0)), some (.inl x1), z2], [], sm_putR (sm_new (sm_putR (sm_new (sm_putR (sm_new M 392 (60 : Int32).toNatClampNeg (60 : Int32).toNatClampNeg) a0 37 (some (sm_N M))) 395 (60 : Int32).toNatClampNeg (60 : Int32).toNatClampNeg) a0 38 (some (sm_N (sm_putR (sm_new M 392 (60 : Int32).toNatClampNeg (60 : Int32).toNatClampNeg) a0 37 (some (sm_N M)))))) 398 (60 : Int32).toNatClampNeg (60 : Int32).toNatClampNeg) a0 39 (some (sm_N (sm_putR (sm_new (sm_putR (sm_new M 392 (60 : Int32).toNatClampNeg (60 : Int32).toNatClampNeg) a0 37 (some (sm_N M))) 395 (60 : Int32).toNatClampNeg (60 : Int32).toNatClampNeg) a0 38 (some (sm_N (sm_putR (sm_new M 392 (60 : Int32).toNatClampNeg (60 : Int32).toNatClampNeg) a0 37 (some (sm_N M)))))))))) sm_a150_293 rfl rfl (st_putR h_3 rfl) ?_
  exact h
theorem bb_150_296 {d : Nat} {M : sm_M} {Q : Option sm_V → sm_M → Prop} {a0 : Nat} {x1 : Int32} {z2 : Option sm_V}
    (h : sm_K (sm_new M 401 (60 : Int32).toNatClampNeg (60 : Int32).toNatClampNeg) a0 = 39 ∧ sm_K (sm_new (sm_putR (sm_new M 401 (60 : Int32).toNatClampNeg (60 : Int32).toNatClampNeg) a0 40 (some (sm_N M))) 404 (60 : Int32).toNatClampNeg (60 : Int32).toNatClampNeg) a0 = 39 ∧ sm_K (sm_new (sm_putR (sm_new (sm_putR (sm_new M 401 (60 : Int32).toNatClampNeg (60 : Int32).toNatClampNeg) a0 40 (some (sm_N M))) 404 (60 : Int32).toNatClampNeg (60 : Int32).toNatClampNeg) a0 41 (some (sm_N (sm_putR (sm_new M 401 (60 : Int32).toNatClampNeg (60 : Int32).toNatClampNeg) a0 40 (some (sm_N M)))))) 407 (6000 : Int32).toNatClampNeg (6000 : Int32).toNatClampNeg) a0 = 39 ∧ sm_Run (d + 1) 150 321 [some (.inr (some a0)), some (.inl x1), z2] [] (sm_putR (sm_new (sm_putR (sm_new (sm_putR (sm_new M 401 (60 : Int32).toNatClampNeg (60 : Int32).toNatClampNeg) a0 40 (some (sm_N M))) 404 (60 : Int32).toNatClampNeg (60 : Int32).toNatClampNeg) a0 41 (some (sm_N (sm_putR (sm_new M 401 (60 : Int32).toNatClampNeg (60 : Int32).toNatClampNeg) a0 40 (some (sm_N M)))))) 407 (6000 : Int32).toNatClampNeg (6000 : Int32).toNatClampNeg) a0 42 (some (sm_N (sm_putR (sm_new (sm_putR (sm_new M 401 (60 : Int32).toNatClampNeg (60 : Int32).toNatClampNeg) a0 40 (some (sm_N M))) 404 (60 : Int32).toNatClampNeg (60 : Int32).toNatClampNeg) a0 41 (some (sm_N (sm_putR (sm_new M 401 (60 : Int32).toNatClampNeg (60 : Int32).toNatClampNeg) a0 40 (some (sm_N M))))))))) Q) :
    sm_Run (d + 1) 150 296 [some (.inr (some a0)), some (.inl x1), z2] [] M Q := by
  refine ru_go (t := (297, [some (.inr (some a0)), some (.inl x1), z2], [.inr (some a0)], M)) sm_a150_296 rfl rfl rfl ?_
  refine ru_go (t := (299, [some (.inr (some a0)), some (.inl x1), z2], [.inl 60, .inr (some a0)], M)) sm_a150_297 rfl rfl (st_bipush (by decide)) ?_
  refine ru_go (t := (301, [some (.inr (some a0)), some (.inl x1), z2], [.inr (some (sm_N M)), .inr (some a0)], sm_new M 401 (60 : Int32).toNatClampNeg (60 : Int32).toNatClampNeg)) sm_a150_299 rfl rfl (st_newa (by decide)) ?_
  obtain ⟨h_1, h⟩ := h
  refine ru_go (t := (304, [some (.inr (some a0)), some (.inl x1), z2], [], sm_putR (sm_new M 401 (60 : Int32).toNatClampNeg (60 : Int32).toNatClampNeg) a0 40 (some (sm_N M)))) sm_a150_301 rfl rfl (st_putR h_1 rfl) ?_
  refine ru_go (t := (305, [some (.inr (some a0)), some (.inl x1), z2], [.inr (some a0)], sm_putR (sm_new M 401 (60 : Int32).toNatClampNeg (60 : Int32).toNatClampNeg) a0 40 (some (sm_N M)))) sm_a150_304 rfl rfl rfl ?_
  refine ru_go (t := (307, [some (.inr (some a0)), some (.inl x1), z2], [.inl 60, .inr (some a0)], sm_putR (sm_new M 401 (60 : Int32).toNatClampNeg (60 : Int32).toNatClampNeg) a0 40 (some (sm_N M)))) sm_a150_305 rfl rfl (st_bipush (by decide)) ?_
  refine ru_go (t := (309, [some (.inr (some a0)), some (.inl x1), z2], [.inr (some (sm_N (sm_putR (sm_new M 401 (60 : Int32).toNatClampNeg (60 : Int32).toNatClampNeg) a0 40 (some (sm_N M))))), .inr (some a0)], sm_new (sm_putR (sm_new M 401 (60 : Int32).toNatClampNeg (60 : Int32).toNatClampNeg) a0 40 (some (sm_N M))) 404 (60 : Int32).toNatClampNeg (60 : Int32).toNatClampNeg)) sm_a150_307 rfl rfl (st_newa (by decide)) ?_
  obtain ⟨h_2, h⟩ := h
  refine ru_go (t := (312, [some (.inr (some a0)), some (.inl x1), z2], [], sm_putR (sm_new (sm_putR (sm_new M 401 (60 : Int32).toNatClampNeg (60 : Int32).toNatClampNeg) a0 40 (some (sm_N M))) 404 (60 : Int32).toNatClampNeg (60 : Int32).toNatClampNeg) a0 41 (some (sm_N (sm_putR (sm_new M 401 (60 : Int32).toNatClampNeg (60 : Int32).toNatClampNeg) a0 40 (some (sm_N M))))))) sm_a150_309 rfl rfl (st_putR h_2 rfl) ?_
  refine ru_go (t := (313, [some (.inr (some a0)), some (.inl x1), z2], [.inr (some a0)], sm_putR (sm_new (sm_putR (sm_new M 401 (60 : Int32).toNatClampNeg (60 : Int32).toNatClampNeg) a0 40 (some (sm_N M))) 404 (60 : Int32).toNatClampNeg (60 : Int32).toNatClampNeg) a0 41 (some (sm_N (sm_putR (sm_new M 401 (60 : Int32).toNatClampNeg (60 : Int32).toNatClampNeg) a0 40 (some (sm_N M))))))) sm_a150_312 rfl rfl rfl ?_
  refine ru_go (t := (316, [some (.inr (some a0)), some (.inl x1), z2], [.inl 6000, .inr (some a0)], sm_putR (sm_new (sm_putR (sm_new M 401 (60 : Int32).toNatClampNeg (60 : Int32).toNatClampNeg) a0 40 (some (sm_N M))) 404 (60 : Int32).toNatClampNeg (60 : Int32).toNatClampNeg) a0 41 (some (sm_N (sm_putR (sm_new M 401 (60 : Int32).toNatClampNeg (60 : Int32).toNatClampNeg) a0 40 (some (sm_N M))))))) sm_a150_313 rfl rfl (st_sipush (by decide)) ?_
  refine ru_go (t := (318, [some (.inr (some a0)), some (.inl x1), z2], [.inr (some (sm_N (sm_putR (sm_new (sm_putR (sm_new M 401 (60 : Int32).toNatClampNeg (60 : Int32).toNatClampNeg) a0 40 (some (sm_N M))) 404 (60 : Int32).toNatClampNeg (60 : Int32).toNatClampNeg) a0 41 (some (sm_N (sm_putR (sm_new M 401 (60 : Int32).toNatClampNeg (60 : Int32).toNatClampNeg) a0 40 (some (sm_N M)))))))), .inr (some a0)], sm_new (sm_putR (sm_new (sm_putR (sm_new M 401 (60 : Int32).toNatClampNeg (60 : Int32).toNatClampNeg) a0 40 (some (sm_N M))) 404 (60 : Int32).toNatClampNeg (60 : Int32).toNatClampNeg) a0 41 (some (sm_N (sm_putR (sm_new M 401 (60 : Int32).toNatClampNeg (60 : Int32).toNatClampNeg) a0 40 (some (sm_N M)))))) 407 (6000 : Int32).toNatClampNeg (6000 : Int32).toNatClampNeg)) sm_a150_316 rfl rfl (st_newa (by decide)) ?_
  obtain ⟨h_3, h⟩ := h
  refine ru_go (t := (321, [some (.inr (some a0)), some (.inl x1), z2], [], sm_putR (sm_new (sm_putR (sm_new (sm_putR (sm_new M 401 (60 : Int32).toNatClampNeg (60 : Int32).toNatClampNeg) a0 40 (some (sm_N M))) 404 (60 : Int32).toNatClampNeg (60 : Int32).toNatClampNeg) a0 41 (some (sm_N (sm_putR (sm_new M 401 (60 : Int32).toNatClampNeg (60 : Int32).toNatClampNeg) a0 40 (some (sm_N M)))))) 407 (6000 : Int32).toNatClampNeg (6000 : Int32).toNatClampNeg) a0 42 (some (sm_N (sm_putR (sm_new (sm_putR (sm_new M 401 (60 : Int32).toNatClampNeg (60 : Int32).toNatClampNeg) a0 40 (some (sm_N M))) 404 (60 : Int32).toNatClampNeg (60 : Int32).toNatClampNeg) a0 41 (some (sm_N (sm_putR (sm_new M 401 (60 : Int32).toNatClampNeg (60 : Int32).toNatClampNeg) a0 40 (some (sm_N M)))))))))) sm_a150_318 rfl rfl (st_putR h_3 rfl) ?_
  exact h
theorem bb_150_321 {d : Nat} {M : sm_M} {Q : Option sm_V → sm_M → Prop} {a0 : Nat} {x1 : Int32} {z2 : Option sm_V}
    (h : sm_K (sm_new M 410 (60 : Int32).toNatClampNeg (60 : Int32).toNatClampNeg) a0 = 39 ∧ sm_K (sm_new (sm_putR (sm_new M 410 (60 : Int32).toNatClampNeg (60 : Int32).toNatClampNeg) a0 43 (some (sm_N M))) 413 (60 : Int32).toNatClampNeg (60 : Int32).toNatClampNeg) a0 = 39 ∧ sm_K (sm_new (sm_putR (sm_new (sm_putR (sm_new M 410 (60 : Int32).toNatClampNeg (60 : Int32).toNatClampNeg) a0 43 (some (sm_N M))) 413 (60 : Int32).toNatClampNeg (60 : Int32).toNatClampNeg) a0 44 (some (sm_N (sm_putR (sm_new M 410 (60 : Int32).toNatClampNeg (60 : Int32).toNatClampNeg) a0 43 (some (sm_N M)))))) 416 (60 : Int32).toNatClampNeg (60 : Int32).toNatClampNeg) a0 = 39 ∧ sm_Run (d + 1) 150 345 [some (.inr (some a0)), some (.inl x1), z2] [] (sm_putR (sm_new (sm_putR (sm_new (sm_putR (sm_new M 410 (60 : Int32).toNatClampNeg (60 : Int32).toNatClampNeg) a0 43 (some (sm_N M))) 413 (60 : Int32).toNatClampNeg (60 : Int32).toNatClampNeg) a0 44 (some (sm_N (sm_putR (sm_new M 410 (60 : Int32).toNatClampNeg (60 : Int32).toNatClampNeg) a0 43 (some (sm_N M)))))) 416 (60 : Int32).toNatClampNeg (60 : Int32).toNatClampNeg) a0 45 (some (sm_N (sm_putR (sm_new (sm_putR (sm_new M 410 (60 : Int32).toNatClampNeg (60 : Int32).toNatClampNeg) a0 43 (some (sm_N M))) 413 (60 : Int32).toNatClampNeg (60 : Int32).toNatClampNeg) a0 44 (some (sm_N (sm_putR (sm_new M 410 (60 : Int32).toNatClampNeg (60 : Int32).toNatClampNeg) a0 43 (some (sm_N M))))))))) Q) :
    sm_Run (d + 1) 150 321 [some (.inr (some a0)), some (.inl x1), z2] [] M Q := by
  refine ru_go (t := (322, [some (.inr (some a0)), some (.inl x1), z2], [.inr (some a0)], M)) sm_a150_321 rfl rfl rfl ?_
  refine ru_go (t := (324, [some (.inr (some a0)), some (.inl x1), z2], [.inl 60, .inr (some a0)], M)) sm_a150_322 rfl rfl (st_bipush (by decide)) ?_
  refine ru_go (t := (326, [some (.inr (some a0)), some (.inl x1), z2], [.inr (some (sm_N M)), .inr (some a0)], sm_new M 410 (60 : Int32).toNatClampNeg (60 : Int32).toNatClampNeg)) sm_a150_324 rfl rfl (st_newa (by decide)) ?_
  obtain ⟨h_1, h⟩ := h
  refine ru_go (t := (329, [some (.inr (some a0)), some (.inl x1), z2], [], sm_putR (sm_new M 410 (60 : Int32).toNatClampNeg (60 : Int32).toNatClampNeg) a0 43 (some (sm_N M)))) sm_a150_326 rfl rfl (st_putR h_1 rfl) ?_
  refine ru_go (t := (330, [some (.inr (some a0)), some (.inl x1), z2], [.inr (some a0)], sm_putR (sm_new M 410 (60 : Int32).toNatClampNeg (60 : Int32).toNatClampNeg) a0 43 (some (sm_N M)))) sm_a150_329 rfl rfl rfl ?_
  refine ru_go (t := (332, [some (.inr (some a0)), some (.inl x1), z2], [.inl 60, .inr (some a0)], sm_putR (sm_new M 410 (60 : Int32).toNatClampNeg (60 : Int32).toNatClampNeg) a0 43 (some (sm_N M)))) sm_a150_330 rfl rfl (st_bipush (by decide)) ?_
  refine ru_go (t := (334, [some (.inr (some a0)), some (.inl x1), z2], [.inr (some (sm_N (sm_putR (sm_new M 410 (60 : Int32).toNatClampNeg (60 : Int32).toNatClampNeg) a0 43 (some (sm_N M))))), .inr (some a0)], sm_new (sm_putR (sm_new M 410 (60 : Int32).toNatClampNeg (60 : Int32).toNatClampNeg) a0 43 (some (sm_N M))) 413 (60 : Int32).toNatClampNeg (60 : Int32).toNatClampNeg)) sm_a150_332 rfl rfl (st_newa (by decide)) ?_
  obtain ⟨h_2, h⟩ := h
  refine ru_go (t := (337, [some (.inr (some a0)), some (.inl x1), z2], [], sm_putR (sm_new (sm_putR (sm_new M 410 (60 : Int32).toNatClampNeg (60 : Int32).toNatClampNeg) a0 43 (some (sm_N M))) 413 (60 : Int32).toNatClampNeg (60 : Int32).toNatClampNeg) a0 44 (some (sm_N (sm_putR (sm_new M 410 (60 : Int32).toNatClampNeg (60 : Int32).toNatClampNeg) a0 43 (some (sm_N M))))))) sm_a150_334 rfl rfl (st_putR h_2 rfl) ?_
  refine ru_go (t := (338, [some (.inr (some a0)), some (.inl x1), z2], [.inr (some a0)], sm_putR (sm_new (sm_putR (sm_new M 410 (60 : Int32).toNatClampNeg (60 : Int32).toNatClampNeg) a0 43 (some (sm_N M))) 413 (60 : Int32).toNatClampNeg (60 : Int32).toNatClampNeg) a0 44 (some (sm_N (sm_putR (sm_new M 410 (60 : Int32).toNatClampNeg (60 : Int32).toNatClampNeg) a0 43 (some (sm_N M))))))) sm_a150_337 rfl rfl rfl ?_
  refine ru_go (t := (340, [some (.inr (some a0)), some (.inl x1), z2], [.inl 60, .inr (some a0)], sm_putR (sm_new (sm_putR (sm_new M 410 (60 : Int32).toNatClampNeg (60 : Int32).toNatClampNeg) a0 43 (some (sm_N M))) 413 (60 : Int32).toNatClampNeg (60 : Int32).toNatClampNeg) a0 44 (some (sm_N (sm_putR (sm_new M 410 (60 : Int32).toNatClampNeg (60 : Int32).toNatClampNeg) a0 43 (some (sm_N M))))))) sm_a150_338 rfl rfl (st_bipush (by decide)) ?_
  refine ru_go (t := (342, [some (.inr (some a0)), some (.inl x1), z2], [.inr (some (sm_N (sm_putR (sm_new (sm_putR (sm_new M 410 (60 : Int32).toNatClampNeg (60 : Int32).toNatClampNeg) a0 43 (some (sm_N M))) 413 (60 : Int32).toNatClampNeg (60 : Int32).toNatClampNeg) a0 44 (some (sm_N (sm_putR (sm_new M 410 (60 : Int32).toNatClampNeg (60 : Int32).toNatClampNeg) a0 43 (some (sm_N M)))))))), .inr (some a0)], sm_new (sm_putR (sm_new (sm_putR (sm_new M 410 (60 : Int32).toNatClampNeg (60 : Int32).toNatClampNeg) a0 43 (some (sm_N M))) 413 (60 : Int32).toNatClampNeg (60 : Int32).toNatClampNeg) a0 44 (some (sm_N (sm_putR (sm_new M 410 (60 : Int32).toNatClampNeg (60 : Int32).toNatClampNeg) a0 43 (some (sm_N M)))))) 416 (60 : Int32).toNatClampNeg (60 : Int32).toNatClampNeg)) sm_a150_340 rfl rfl (st_newa (by decide)) ?_
  obtain ⟨h_3, h⟩ := h
  refine ru_go (t := (345, [some (.inr (some a0)), some (.inl x1), z2], [], sm_putR (sm_new (sm_putR (sm_new (sm_putR (sm_new M 410 (60 : Int32).toNatClampNeg (60 : Int32).toNatClampNeg) a0 43 (some (sm_N M))) 413 (60 : Int32).toNatClampNeg (60 : Int32).toNatClampNeg) a0 44 (some (sm_N (sm_putR (sm_new M 410 (60 : Int32).toNatClampNeg (60 : Int32).toNatClampNeg) a0 43 (some (sm_N M)))))) 416 (60 : Int32).toNatClampNeg (60 : Int32).toNatClampNeg) a0 45 (some (sm_N (sm_putR (sm_new (sm_putR (sm_new M 410 (60 : Int32).toNatClampNeg (60 : Int32).toNatClampNeg) a0 43 (some (sm_N M))) 413 (60 : Int32).toNatClampNeg (60 : Int32).toNatClampNeg) a0 44 (some (sm_N (sm_putR (sm_new M 410 (60 : Int32).toNatClampNeg (60 : Int32).toNatClampNeg) a0 43 (some (sm_N M)))))))))) sm_a150_342 rfl rfl (st_putR h_3 rfl) ?_
  exact h
theorem bb_150_345 {d : Nat} {M : sm_M} {Q : Option sm_V → sm_M → Prop} {a0 : Nat} {x1 : Int32} {z2 : Option sm_V}
    (h : sm_K (sm_new M 419 (800 : Int32).toNatClampNeg (800 : Int32).toNatClampNeg) a0 = 39 ∧ sm_K (sm_new (sm_putR (sm_new M 419 (800 : Int32).toNatClampNeg (800 : Int32).toNatClampNeg) a0 47 (some (sm_N M))) 422 (700 : Int32).toNatClampNeg (700 : Int32).toNatClampNeg) a0 = 39 ∧ sm_K (sm_new (sm_putR (sm_new (sm_putR (sm_new M 419 (800 : Int32).toNatClampNeg (800 : Int32).toNatClampNeg) a0 47 (some (sm_N M))) 422 (700 : Int32).toNatClampNeg (700 : Int32).toNatClampNeg) a0 49 (some (sm_N (sm_putR (sm_new M 419 (800 : Int32).toNatClampNeg (800 : Int32).toNatClampNeg) a0 47 (some (sm_N M)))))) 425 (100 : Int32).toNatClampNeg (100 : Int32).toNatClampNeg) a0 = 39 ∧ sm_Run (d + 1) 150 371 [some (.inr (some a0)), some (.inl x1), z2] [] (sm_putR (sm_new (sm_putR (sm_new (sm_putR (sm_new M 419 (800 : Int32).toNatClampNeg (800 : Int32).toNatClampNeg) a0 47 (some (sm_N M))) 422 (700 : Int32).toNatClampNeg (700 : Int32).toNatClampNeg) a0 49 (some (sm_N (sm_putR (sm_new M 419 (800 : Int32).toNatClampNeg (800 : Int32).toNatClampNeg) a0 47 (some (sm_N M)))))) 425 (100 : Int32).toNatClampNeg (100 : Int32).toNatClampNeg) a0 52 (some (sm_N (sm_putR (sm_new (sm_putR (sm_new M 419 (800 : Int32).toNatClampNeg (800 : Int32).toNatClampNeg) a0 47 (some (sm_N M))) 422 (700 : Int32).toNatClampNeg (700 : Int32).toNatClampNeg) a0 49 (some (sm_N (sm_putR (sm_new M 419 (800 : Int32).toNatClampNeg (800 : Int32).toNatClampNeg) a0 47 (some (sm_N M))))))))) Q) :
    sm_Run (d + 1) 150 345 [some (.inr (some a0)), some (.inl x1), z2] [] M Q := by
  refine ru_go (t := (346, [some (.inr (some a0)), some (.inl x1), z2], [.inr (some a0)], M)) sm_a150_345 rfl rfl rfl ?_
  refine ru_go (t := (349, [some (.inr (some a0)), some (.inl x1), z2], [.inl 800, .inr (some a0)], M)) sm_a150_346 rfl rfl (st_sipush (by decide)) ?_
  refine ru_go (t := (351, [some (.inr (some a0)), some (.inl x1), z2], [.inr (some (sm_N M)), .inr (some a0)], sm_new M 419 (800 : Int32).toNatClampNeg (800 : Int32).toNatClampNeg)) sm_a150_349 rfl rfl (st_newa (by decide)) ?_
  obtain ⟨h_1, h⟩ := h
  refine ru_go (t := (354, [some (.inr (some a0)), some (.inl x1), z2], [], sm_putR (sm_new M 419 (800 : Int32).toNatClampNeg (800 : Int32).toNatClampNeg) a0 47 (some (sm_N M)))) sm_a150_351 rfl rfl (st_putR h_1 rfl) ?_
  refine ru_go (t := (355, [some (.inr (some a0)), some (.inl x1), z2], [.inr (some a0)], sm_putR (sm_new M 419 (800 : Int32).toNatClampNeg (800 : Int32).toNatClampNeg) a0 47 (some (sm_N M)))) sm_a150_354 rfl rfl rfl ?_
  refine ru_go (t := (358, [some (.inr (some a0)), some (.inl x1), z2], [.inl 700, .inr (some a0)], sm_putR (sm_new M 419 (800 : Int32).toNatClampNeg (800 : Int32).toNatClampNeg) a0 47 (some (sm_N M)))) sm_a150_355 rfl rfl (st_sipush (by decide)) ?_
  refine ru_go (t := (360, [some (.inr (some a0)), some (.inl x1), z2], [.inr (some (sm_N (sm_putR (sm_new M 419 (800 : Int32).toNatClampNeg (800 : Int32).toNatClampNeg) a0 47 (some (sm_N M))))), .inr (some a0)], sm_new (sm_putR (sm_new M 419 (800 : Int32).toNatClampNeg (800 : Int32).toNatClampNeg) a0 47 (some (sm_N M))) 422 (700 : Int32).toNatClampNeg (700 : Int32).toNatClampNeg)) sm_a150_358 rfl rfl (st_newa (by decide)) ?_
  obtain ⟨h_2, h⟩ := h
  refine ru_go (t := (363, [some (.inr (some a0)), some (.inl x1), z2], [], sm_putR (sm_new (sm_putR (sm_new M 419 (800 : Int32).toNatClampNeg (800 : Int32).toNatClampNeg) a0 47 (some (sm_N M))) 422 (700 : Int32).toNatClampNeg (700 : Int32).toNatClampNeg) a0 49 (some (sm_N (sm_putR (sm_new M 419 (800 : Int32).toNatClampNeg (800 : Int32).toNatClampNeg) a0 47 (some (sm_N M))))))) sm_a150_360 rfl rfl (st_putR h_2 rfl) ?_
  refine ru_go (t := (364, [some (.inr (some a0)), some (.inl x1), z2], [.inr (some a0)], sm_putR (sm_new (sm_putR (sm_new M 419 (800 : Int32).toNatClampNeg (800 : Int32).toNatClampNeg) a0 47 (some (sm_N M))) 422 (700 : Int32).toNatClampNeg (700 : Int32).toNatClampNeg) a0 49 (some (sm_N (sm_putR (sm_new M 419 (800 : Int32).toNatClampNeg (800 : Int32).toNatClampNeg) a0 47 (some (sm_N M))))))) sm_a150_363 rfl rfl rfl ?_
  refine ru_go (t := (366, [some (.inr (some a0)), some (.inl x1), z2], [.inl 100, .inr (some a0)], sm_putR (sm_new (sm_putR (sm_new M 419 (800 : Int32).toNatClampNeg (800 : Int32).toNatClampNeg) a0 47 (some (sm_N M))) 422 (700 : Int32).toNatClampNeg (700 : Int32).toNatClampNeg) a0 49 (some (sm_N (sm_putR (sm_new M 419 (800 : Int32).toNatClampNeg (800 : Int32).toNatClampNeg) a0 47 (some (sm_N M))))))) sm_a150_364 rfl rfl (st_bipush (by decide)) ?_
  refine ru_go (t := (368, [some (.inr (some a0)), some (.inl x1), z2], [.inr (some (sm_N (sm_putR (sm_new (sm_putR (sm_new M 419 (800 : Int32).toNatClampNeg (800 : Int32).toNatClampNeg) a0 47 (some (sm_N M))) 422 (700 : Int32).toNatClampNeg (700 : Int32).toNatClampNeg) a0 49 (some (sm_N (sm_putR (sm_new M 419 (800 : Int32).toNatClampNeg (800 : Int32).toNatClampNeg) a0 47 (some (sm_N M)))))))), .inr (some a0)], sm_new (sm_putR (sm_new (sm_putR (sm_new M 419 (800 : Int32).toNatClampNeg (800 : Int32).toNatClampNeg) a0 47 (some (sm_N M))) 422 (700 : Int32).toNatClampNeg (700 : Int32).toNatClampNeg) a0 49 (some (sm_N (sm_putR (sm_new M 419 (800 : Int32).toNatClampNeg (800 : Int32).toNatClampNeg) a0 47 (some (sm_N M)))))) 425 (100 : Int32).toNatClampNeg (100 : Int32).toNatClampNeg)) sm_a150_366 rfl rfl (st_newa (by decide)) ?_
  obtain ⟨h_3, h⟩ := h
  refine ru_go (t := (371, [some (.inr (some a0)), some (.inl x1), z2], [], sm_putR (sm_new (sm_putR (sm_new (sm_putR (sm_new M 419 (800 : Int32).toNatClampNeg (800 : Int32).toNatClampNeg) a0 47 (some (sm_N M))) 422 (700 : Int32).toNatClampNeg (700 : Int32).toNatClampNeg) a0 49 (some (sm_N (sm_putR (sm_new M 419 (800 : Int32).toNatClampNeg (800 : Int32).toNatClampNeg) a0 47 (some (sm_N M)))))) 425 (100 : Int32).toNatClampNeg (100 : Int32).toNatClampNeg) a0 52 (some (sm_N (sm_putR (sm_new (sm_putR (sm_new M 419 (800 : Int32).toNatClampNeg (800 : Int32).toNatClampNeg) a0 47 (some (sm_N M))) 422 (700 : Int32).toNatClampNeg (700 : Int32).toNatClampNeg) a0 49 (some (sm_N (sm_putR (sm_new M 419 (800 : Int32).toNatClampNeg (800 : Int32).toNatClampNeg) a0 47 (some (sm_N M)))))))))) sm_a150_368 rfl rfl (st_putR h_3 rfl) ?_
  exact h
theorem bb_150_371 {d : Nat} {M : sm_M} {Q : Option sm_V → sm_M → Prop} {a0 : Nat} {x1 : Int32} {z2 : Option sm_V}
    (h : sm_wA 1 (sm_new M 428 (18 : Int32).toNatClampNeg (18 : Int32).toNatClampNeg) (sm_N M) ∧ sm_in_ (sm_new M 428 (18 : Int32).toNatClampNeg (18 : Int32).toNatClampNeg) (sm_N M) 0 ∧ sm_in_ (sm_new M 428 (18 : Int32).toNatClampNeg (18 : Int32).toNatClampNeg) (sm_N M) 1 ∧ sm_in_ (sm_new M 428 (18 : Int32).toNatClampNeg (18 : Int32).toNatClampNeg) (sm_N M) 2 ∧ sm_in_ (sm_new M 428 (18 : Int32).toNatClampNeg (18 : Int32).toNatClampNeg) (sm_N M) 3 ∧ sm_in_ (sm_new M 428 (18 : Int32).toNatClampNeg (18 : Int32).toNatClampNeg) (sm_N M) 4 ∧ sm_in_ (sm_new M 428 (18 : Int32).toNatClampNeg (18 : Int32).toNatClampNeg) (sm_N M) 5 ∧ sm_in_ (sm_new M 428 (18 : Int32).toNatClampNeg (18 : Int32).toNatClampNeg) (sm_N M) 6 ∧ sm_in_ (sm_new M 428 (18 : Int32).toNatClampNeg (18 : Int32).toNatClampNeg) (sm_N M) 7 ∧ sm_in_ (sm_new M 428 (18 : Int32).toNatClampNeg (18 : Int32).toNatClampNeg) (sm_N M) 8 ∧ sm_in_ (sm_new M 428 (18 : Int32).toNatClampNeg (18 : Int32).toNatClampNeg) (sm_N M) 9 ∧ sm_in_ (sm_new M 428 (18 : Int32).toNatClampNeg (18 : Int32).toNatClampNeg) (sm_N M) 10 ∧ sm_in_ (sm_new M 428 (18 : Int32).toNatClampNeg (18 : Int32).toNatClampNeg) (sm_N M) 11 ∧ sm_in_ (sm_new M 428 (18 : Int32).toNatClampNeg (18 : Int32).toNatClampNeg) (sm_N M) 12 ∧ sm_in_ (sm_new M 428 (18 : Int32).toNatClampNeg (18 : Int32).toNatClampNeg) (sm_N M) 13 ∧ sm_in_ (sm_new M 428 (18 : Int32).toNatClampNeg (18 : Int32).toNatClampNeg) (sm_N M) 14 ∧ sm_in_ (sm_new M 428 (18 : Int32).toNatClampNeg (18 : Int32).toNatClampNeg) (sm_N M) 15 ∧ sm_in_ (sm_new M 428 (18 : Int32).toNatClampNeg (18 : Int32).toNatClampNeg) (sm_N M) 16 ∧ sm_in_ (sm_new M 428 (18 : Int32).toNatClampNeg (18 : Int32).toNatClampNeg) (sm_N M) 17 ∧ sm_K (sm_new M 428 (18 : Int32).toNatClampNeg (18 : Int32).toNatClampNeg) a0 = 39 ∧ sm_Run (d + 1) 150 470 [some (.inr (some a0)), some (.inl x1), z2] [] (sm_putR (sm_putI (sm_putI (sm_putI (sm_putI (sm_putI (sm_putI (sm_putI (sm_putI (sm_putI (sm_putI (sm_putI (sm_putI (sm_putI (sm_putI (sm_putI (sm_putI (sm_putI (sm_putI (sm_new M 428 (18 : Int32).toNatClampNeg (18 : Int32).toNatClampNeg) (sm_N M) (0 : Int32).toNatClampNeg 9) (sm_N M) (1 : Int32).toNatClampNeg 2) (sm_N M) (2 : Int32).toNatClampNeg 0) (sm_N M) (3 : Int32).toNatClampNeg 0) (sm_N M) (4 : Int32).toNatClampNeg 1) (sm_N M) (5 : Int32).toNatClampNeg 1) (sm_N M) (6 : Int32).toNatClampNeg 0) (sm_N M) (7 : Int32).toNatClampNeg 128) (sm_N M) (8 : Int32).toNatClampNeg 50) (sm_N M) (9 : Int32).toNatClampNeg 9) (sm_N M) (10 : Int32).toNatClampNeg 4) (sm_N M) (11 : Int32).toNatClampNeg 0) (sm_N M) (12 : Int32).toNatClampNeg 0) (sm_N M) (13 : Int32).toNatClampNeg 0) (sm_N M) (14 : Int32).toNatClampNeg 255) (sm_N M) (15 : Int32).toNatClampNeg 0) (sm_N M) (16 : Int32).toNatClampNeg 0) (sm_N M) (17 : Int32).toNatClampNeg 0) a0 55 (some (sm_N M))) Q) :
    sm_Run (d + 1) 150 371 [some (.inr (some a0)), some (.inl x1), z2] [] M Q := by
  refine ru_go (t := (372, [some (.inr (some a0)), some (.inl x1), z2], [.inr (some a0)], M)) sm_a150_371 rfl rfl rfl ?_
  refine ru_go (t := (374, [some (.inr (some a0)), some (.inl x1), z2], [.inl 18, .inr (some a0)], M)) sm_a150_372 rfl rfl (st_bipush (by decide)) ?_
  refine ru_go (t := (376, [some (.inr (some a0)), some (.inl x1), z2], [.inr (some (sm_N M)), .inr (some a0)], sm_new M 428 (18 : Int32).toNatClampNeg (18 : Int32).toNatClampNeg)) sm_a150_374 rfl rfl (st_newa (by decide)) ?_
  refine ru_go (t := (377, [some (.inr (some a0)), some (.inl x1), z2], [.inr (some (sm_N M)), .inr (some (sm_N M)), .inr (some a0)], sm_new M 428 (18 : Int32).toNatClampNeg (18 : Int32).toNatClampNeg)) sm_a150_376 rfl rfl rfl ?_
  refine ru_go (t := (378, [some (.inr (some a0)), some (.inl x1), z2], [.inl 0, .inr (some (sm_N M)), .inr (some (sm_N M)), .inr (some a0)], sm_new M 428 (18 : Int32).toNatClampNeg (18 : Int32).toNatClampNeg)) sm_a150_377 rfl rfl (st_iconst (by decide)) ?_
  refine ru_go (t := (380, [some (.inr (some a0)), some (.inl x1), z2], [.inl 9, .inl 0, .inr (some (sm_N M)), .inr (some (sm_N M)), .inr (some a0)], sm_new M 428 (18 : Int32).toNatClampNeg (18 : Int32).toNatClampNeg)) sm_a150_378 rfl rfl (st_bipush (by decide)) ?_
  obtain ⟨h_1, h⟩ := h
  obtain ⟨h_2, h⟩ := h
  refine ru_go (t := (381, [some (.inr (some a0)), some (.inl x1), z2], [.inr (some (sm_N M)), .inr (some a0)], sm_putI (sm_new M 428 (18 : Int32).toNatClampNeg (18 : Int32).toNatClampNeg) (sm_N M) (0 : Int32).toNatClampNeg 9)) sm_a150_380 rfl rfl (st_iast h_1 h_2) ?_
  refine ru_go (t := (382, [some (.inr (some a0)), some (.inl x1), z2], [.inr (some (sm_N M)), .inr (some (sm_N M)), .inr (some a0)], sm_putI (sm_new M 428 (18 : Int32).toNatClampNeg (18 : Int32).toNatClampNeg) (sm_N M) (0 : Int32).toNatClampNeg 9)) sm_a150_381 rfl rfl rfl ?_
  refine ru_go (t := (383, [some (.inr (some a0)), some (.inl x1), z2], [.inl 1, .inr (some (sm_N M)), .inr (some (sm_N M)), .inr (some a0)], sm_putI (sm_new M 428 (18 : Int32).toNatClampNeg (18 : Int32).toNatClampNeg) (sm_N M) (0 : Int32).toNatClampNeg 9)) sm_a150_382 rfl rfl (st_iconst (by decide)) ?_
  refine ru_go (t := (384, [some (.inr (some a0)), some (.inl x1), z2], [.inl 2, .inl 1, .inr (some (sm_N M)), .inr (some (sm_N M)), .inr (some a0)], sm_putI (sm_new M 428 (18 : Int32).toNatClampNeg (18 : Int32).toNatClampNeg) (sm_N M) (0 : Int32).toNatClampNeg 9)) sm_a150_383 rfl rfl (st_iconst (by decide)) ?_
  obtain ⟨h_3, h⟩ := h
  refine ru_go (t := (385, [some (.inr (some a0)), some (.inl x1), z2], [.inr (some (sm_N M)), .inr (some a0)], sm_putI (sm_putI (sm_new M 428 (18 : Int32).toNatClampNeg (18 : Int32).toNatClampNeg) (sm_N M) (0 : Int32).toNatClampNeg 9) (sm_N M) (1 : Int32).toNatClampNeg 2)) sm_a150_384 rfl rfl (st_iast h_1 h_3) ?_
  refine ru_go (t := (386, [some (.inr (some a0)), some (.inl x1), z2], [.inr (some (sm_N M)), .inr (some (sm_N M)), .inr (some a0)], sm_putI (sm_putI (sm_new M 428 (18 : Int32).toNatClampNeg (18 : Int32).toNatClampNeg) (sm_N M) (0 : Int32).toNatClampNeg 9) (sm_N M) (1 : Int32).toNatClampNeg 2)) sm_a150_385 rfl rfl rfl ?_
  refine ru_go (t := (387, [some (.inr (some a0)), some (.inl x1), z2], [.inl 2, .inr (some (sm_N M)), .inr (some (sm_N M)), .inr (some a0)], sm_putI (sm_putI (sm_new M 428 (18 : Int32).toNatClampNeg (18 : Int32).toNatClampNeg) (sm_N M) (0 : Int32).toNatClampNeg 9) (sm_N M) (1 : Int32).toNatClampNeg 2)) sm_a150_386 rfl rfl (st_iconst (by decide)) ?_
  refine ru_go (t := (388, [some (.inr (some a0)), some (.inl x1), z2], [.inl 0, .inl 2, .inr (some (sm_N M)), .inr (some (sm_N M)), .inr (some a0)], sm_putI (sm_putI (sm_new M 428 (18 : Int32).toNatClampNeg (18 : Int32).toNatClampNeg) (sm_N M) (0 : Int32).toNatClampNeg 9) (sm_N M) (1 : Int32).toNatClampNeg 2)) sm_a150_387 rfl rfl (st_iconst (by decide)) ?_
  obtain ⟨h_4, h⟩ := h
  refine ru_go (t := (389, [some (.inr (some a0)), some (.inl x1), z2], [.inr (some (sm_N M)), .inr (some a0)], sm_putI (sm_putI (sm_putI (sm_new M 428 (18 : Int32).toNatClampNeg (18 : Int32).toNatClampNeg) (sm_N M) (0 : Int32).toNatClampNeg 9) (sm_N M) (1 : Int32).toNatClampNeg 2) (sm_N M) (2 : Int32).toNatClampNeg 0)) sm_a150_388 rfl rfl (st_iast h_1 h_4) ?_
  refine ru_go (t := (390, [some (.inr (some a0)), some (.inl x1), z2], [.inr (some (sm_N M)), .inr (some (sm_N M)), .inr (some a0)], sm_putI (sm_putI (sm_putI (sm_new M 428 (18 : Int32).toNatClampNeg (18 : Int32).toNatClampNeg) (sm_N M) (0 : Int32).toNatClampNeg 9) (sm_N M) (1 : Int32).toNatClampNeg 2) (sm_N M) (2 : Int32).toNatClampNeg 0)) sm_a150_389 rfl rfl rfl ?_
  refine ru_go (t := (391, [some (.inr (some a0)), some (.inl x1), z2], [.inl 3, .inr (some (sm_N M)), .inr (some (sm_N M)), .inr (some a0)], sm_putI (sm_putI (sm_putI (sm_new M 428 (18 : Int32).toNatClampNeg (18 : Int32).toNatClampNeg) (sm_N M) (0 : Int32).toNatClampNeg 9) (sm_N M) (1 : Int32).toNatClampNeg 2) (sm_N M) (2 : Int32).toNatClampNeg 0)) sm_a150_390 rfl rfl (st_iconst (by decide)) ?_
  refine ru_go (t := (392, [some (.inr (some a0)), some (.inl x1), z2], [.inl 0, .inl 3, .inr (some (sm_N M)), .inr (some (sm_N M)), .inr (some a0)], sm_putI (sm_putI (sm_putI (sm_new M 428 (18 : Int32).toNatClampNeg (18 : Int32).toNatClampNeg) (sm_N M) (0 : Int32).toNatClampNeg 9) (sm_N M) (1 : Int32).toNatClampNeg 2) (sm_N M) (2 : Int32).toNatClampNeg 0)) sm_a150_391 rfl rfl (st_iconst (by decide)) ?_
  obtain ⟨h_5, h⟩ := h
  refine ru_go (t := (393, [some (.inr (some a0)), some (.inl x1), z2], [.inr (some (sm_N M)), .inr (some a0)], sm_putI (sm_putI (sm_putI (sm_putI (sm_new M 428 (18 : Int32).toNatClampNeg (18 : Int32).toNatClampNeg) (sm_N M) (0 : Int32).toNatClampNeg 9) (sm_N M) (1 : Int32).toNatClampNeg 2) (sm_N M) (2 : Int32).toNatClampNeg 0) (sm_N M) (3 : Int32).toNatClampNeg 0)) sm_a150_392 rfl rfl (st_iast h_1 h_5) ?_
  refine ru_go (t := (394, [some (.inr (some a0)), some (.inl x1), z2], [.inr (some (sm_N M)), .inr (some (sm_N M)), .inr (some a0)], sm_putI (sm_putI (sm_putI (sm_putI (sm_new M 428 (18 : Int32).toNatClampNeg (18 : Int32).toNatClampNeg) (sm_N M) (0 : Int32).toNatClampNeg 9) (sm_N M) (1 : Int32).toNatClampNeg 2) (sm_N M) (2 : Int32).toNatClampNeg 0) (sm_N M) (3 : Int32).toNatClampNeg 0)) sm_a150_393 rfl rfl rfl ?_
  refine ru_go (t := (395, [some (.inr (some a0)), some (.inl x1), z2], [.inl 4, .inr (some (sm_N M)), .inr (some (sm_N M)), .inr (some a0)], sm_putI (sm_putI (sm_putI (sm_putI (sm_new M 428 (18 : Int32).toNatClampNeg (18 : Int32).toNatClampNeg) (sm_N M) (0 : Int32).toNatClampNeg 9) (sm_N M) (1 : Int32).toNatClampNeg 2) (sm_N M) (2 : Int32).toNatClampNeg 0) (sm_N M) (3 : Int32).toNatClampNeg 0)) sm_a150_394 rfl rfl (st_iconst (by decide)) ?_
  refine ru_go (t := (396, [some (.inr (some a0)), some (.inl x1), z2], [.inl 1, .inl 4, .inr (some (sm_N M)), .inr (some (sm_N M)), .inr (some a0)], sm_putI (sm_putI (sm_putI (sm_putI (sm_new M 428 (18 : Int32).toNatClampNeg (18 : Int32).toNatClampNeg) (sm_N M) (0 : Int32).toNatClampNeg 9) (sm_N M) (1 : Int32).toNatClampNeg 2) (sm_N M) (2 : Int32).toNatClampNeg 0) (sm_N M) (3 : Int32).toNatClampNeg 0)) sm_a150_395 rfl rfl (st_iconst (by decide)) ?_
  obtain ⟨h_6, h⟩ := h
  refine ru_go (t := (397, [some (.inr (some a0)), some (.inl x1), z2], [.inr (some (sm_N M)), .inr (some a0)], sm_putI (sm_putI (sm_putI (sm_putI (sm_putI (sm_new M 428 (18 : Int32).toNatClampNeg (18 : Int32).toNatClampNeg) (sm_N M) (0 : Int32).toNatClampNeg 9) (sm_N M) (1 : Int32).toNatClampNeg 2) (sm_N M) (2 : Int32).toNatClampNeg 0) (sm_N M) (3 : Int32).toNatClampNeg 0) (sm_N M) (4 : Int32).toNatClampNeg 1)) sm_a150_396 rfl rfl (st_iast h_1 h_6) ?_
  refine ru_go (t := (398, [some (.inr (some a0)), some (.inl x1), z2], [.inr (some (sm_N M)), .inr (some (sm_N M)), .inr (some a0)], sm_putI (sm_putI (sm_putI (sm_putI (sm_putI (sm_new M 428 (18 : Int32).toNatClampNeg (18 : Int32).toNatClampNeg) (sm_N M) (0 : Int32).toNatClampNeg 9) (sm_N M) (1 : Int32).toNatClampNeg 2) (sm_N M) (2 : Int32).toNatClampNeg 0) (sm_N M) (3 : Int32).toNatClampNeg 0) (sm_N M) (4 : Int32).toNatClampNeg 1)) sm_a150_397 rfl rfl rfl ?_
  refine ru_go (t := (399, [some (.inr (some a0)), some (.inl x1), z2], [.inl 5, .inr (some (sm_N M)), .inr (some (sm_N M)), .inr (some a0)], sm_putI (sm_putI (sm_putI (sm_putI (sm_putI (sm_new M 428 (18 : Int32).toNatClampNeg (18 : Int32).toNatClampNeg) (sm_N M) (0 : Int32).toNatClampNeg 9) (sm_N M) (1 : Int32).toNatClampNeg 2) (sm_N M) (2 : Int32).toNatClampNeg 0) (sm_N M) (3 : Int32).toNatClampNeg 0) (sm_N M) (4 : Int32).toNatClampNeg 1)) sm_a150_398 rfl rfl (st_iconst (by decide)) ?_
  refine ru_go (t := (400, [some (.inr (some a0)), some (.inl x1), z2], [.inl 1, .inl 5, .inr (some (sm_N M)), .inr (some (sm_N M)), .inr (some a0)], sm_putI (sm_putI (sm_putI (sm_putI (sm_putI (sm_new M 428 (18 : Int32).toNatClampNeg (18 : Int32).toNatClampNeg) (sm_N M) (0 : Int32).toNatClampNeg 9) (sm_N M) (1 : Int32).toNatClampNeg 2) (sm_N M) (2 : Int32).toNatClampNeg 0) (sm_N M) (3 : Int32).toNatClampNeg 0) (sm_N M) (4 : Int32).toNatClampNeg 1)) sm_a150_399 rfl rfl (st_iconst (by decide)) ?_
  obtain ⟨h_7, h⟩ := h
  refine ru_go (t := (401, [some (.inr (some a0)), some (.inl x1), z2], [.inr (some (sm_N M)), .inr (some a0)], sm_putI (sm_putI (sm_putI (sm_putI (sm_putI (sm_putI (sm_new M 428 (18 : Int32).toNatClampNeg (18 : Int32).toNatClampNeg) (sm_N M) (0 : Int32).toNatClampNeg 9) (sm_N M) (1 : Int32).toNatClampNeg 2) (sm_N M) (2 : Int32).toNatClampNeg 0) (sm_N M) (3 : Int32).toNatClampNeg 0) (sm_N M) (4 : Int32).toNatClampNeg 1) (sm_N M) (5 : Int32).toNatClampNeg 1)) sm_a150_400 rfl rfl (st_iast h_1 h_7) ?_
  refine ru_go (t := (402, [some (.inr (some a0)), some (.inl x1), z2], [.inr (some (sm_N M)), .inr (some (sm_N M)), .inr (some a0)], sm_putI (sm_putI (sm_putI (sm_putI (sm_putI (sm_putI (sm_new M 428 (18 : Int32).toNatClampNeg (18 : Int32).toNatClampNeg) (sm_N M) (0 : Int32).toNatClampNeg 9) (sm_N M) (1 : Int32).toNatClampNeg 2) (sm_N M) (2 : Int32).toNatClampNeg 0) (sm_N M) (3 : Int32).toNatClampNeg 0) (sm_N M) (4 : Int32).toNatClampNeg 1) (sm_N M) (5 : Int32).toNatClampNeg 1)) sm_a150_401 rfl rfl rfl ?_
  refine ru_go (t := (404, [some (.inr (some a0)), some (.inl x1), z2], [.inl 6, .inr (some (sm_N M)), .inr (some (sm_N M)), .inr (some a0)], sm_putI (sm_putI (sm_putI (sm_putI (sm_putI (sm_putI (sm_new M 428 (18 : Int32).toNatClampNeg (18 : Int32).toNatClampNeg) (sm_N M) (0 : Int32).toNatClampNeg 9) (sm_N M) (1 : Int32).toNatClampNeg 2) (sm_N M) (2 : Int32).toNatClampNeg 0) (sm_N M) (3 : Int32).toNatClampNeg 0) (sm_N M) (4 : Int32).toNatClampNeg 1) (sm_N M) (5 : Int32).toNatClampNeg 1)) sm_a150_402 rfl rfl (st_bipush (by decide)) ?_
  refine ru_go (t := (405, [some (.inr (some a0)), some (.inl x1), z2], [.inl 0, .inl 6, .inr (some (sm_N M)), .inr (some (sm_N M)), .inr (some a0)], sm_putI (sm_putI (sm_putI (sm_putI (sm_putI (sm_putI (sm_new M 428 (18 : Int32).toNatClampNeg (18 : Int32).toNatClampNeg) (sm_N M) (0 : Int32).toNatClampNeg 9) (sm_N M) (1 : Int32).toNatClampNeg 2) (sm_N M) (2 : Int32).toNatClampNeg 0) (sm_N M) (3 : Int32).toNatClampNeg 0) (sm_N M) (4 : Int32).toNatClampNeg 1) (sm_N M) (5 : Int32).toNatClampNeg 1)) sm_a150_404 rfl rfl (st_iconst (by decide)) ?_
  obtain ⟨h_8, h⟩ := h
  refine ru_go (t := (406, [some (.inr (some a0)), some (.inl x1), z2], [.inr (some (sm_N M)), .inr (some a0)], sm_putI (sm_putI (sm_putI (sm_putI (sm_putI (sm_putI (sm_putI (sm_new M 428 (18 : Int32).toNatClampNeg (18 : Int32).toNatClampNeg) (sm_N M) (0 : Int32).toNatClampNeg 9) (sm_N M) (1 : Int32).toNatClampNeg 2) (sm_N M) (2 : Int32).toNatClampNeg 0) (sm_N M) (3 : Int32).toNatClampNeg 0) (sm_N M) (4 : Int32).toNatClampNeg 1) (sm_N M) (5 : Int32).toNatClampNeg 1) (sm_N M) (6 : Int32).toNatClampNeg 0)) sm_a150_405 rfl rfl (st_iast h_1 h_8) ?_
  refine ru_go (t := (407, [some (.inr (some a0)), some (.inl x1), z2], [.inr (some (sm_N M)), .inr (some (sm_N M)), .inr (some a0)], sm_putI (sm_putI (sm_putI (sm_putI (sm_putI (sm_putI (sm_putI (sm_new M 428 (18 : Int32).toNatClampNeg (18 : Int32).toNatClampNeg) (sm_N M) (0 : Int32).toNatClampNeg 9) (sm_N M) (1 : Int32).toNatClampNeg 2) (sm_N M) (2 : Int32).toNatClampNeg 0) (sm_N M) (3 : Int32).toNatClampNeg 0) (sm_N M) (4 : Int32).toNatClampNeg 1) (sm_N M) (5 : Int32).toNatClampNeg 1) (sm_N M) (6 : Int32).toNatClampNeg 0)) sm_a150_406 rfl rfl rfl ?_
  refine ru_go (t := (409, [some (.inr (some a0)), some (.inl x1), z2], [.inl 7, .inr (some (sm_N M)), .inr (some (sm_N M)), .inr (some a0)], sm_putI (sm_putI (sm_putI (sm_putI (sm_putI (sm_putI (sm_putI (sm_new M 428 (18 : Int32).toNatClampNeg (18 : Int32).toNatClampNeg) (sm_N M) (0 : Int32).toNatClampNeg 9) (sm_N M) (1 : Int32).toNatClampNeg 2) (sm_N M) (2 : Int32).toNatClampNeg 0) (sm_N M) (3 : Int32).toNatClampNeg 0) (sm_N M) (4 : Int32).toNatClampNeg 1) (sm_N M) (5 : Int32).toNatClampNeg 1) (sm_N M) (6 : Int32).toNatClampNeg 0)) sm_a150_407 rfl rfl (st_bipush (by decide)) ?_
  refine ru_go (t := (412, [some (.inr (some a0)), some (.inl x1), z2], [.inl 128, .inl 7, .inr (some (sm_N M)), .inr (some (sm_N M)), .inr (some a0)], sm_putI (sm_putI (sm_putI (sm_putI (sm_putI (sm_putI (sm_putI (sm_new M 428 (18 : Int32).toNatClampNeg (18 : Int32).toNatClampNeg) (sm_N M) (0 : Int32).toNatClampNeg 9) (sm_N M) (1 : Int32).toNatClampNeg 2) (sm_N M) (2 : Int32).toNatClampNeg 0) (sm_N M) (3 : Int32).toNatClampNeg 0) (sm_N M) (4 : Int32).toNatClampNeg 1) (sm_N M) (5 : Int32).toNatClampNeg 1) (sm_N M) (6 : Int32).toNatClampNeg 0)) sm_a150_409 rfl rfl (st_sipush (by decide)) ?_
  obtain ⟨h_9, h⟩ := h
  refine ru_go (t := (413, [some (.inr (some a0)), some (.inl x1), z2], [.inr (some (sm_N M)), .inr (some a0)], sm_putI (sm_putI (sm_putI (sm_putI (sm_putI (sm_putI (sm_putI (sm_putI (sm_new M 428 (18 : Int32).toNatClampNeg (18 : Int32).toNatClampNeg) (sm_N M) (0 : Int32).toNatClampNeg 9) (sm_N M) (1 : Int32).toNatClampNeg 2) (sm_N M) (2 : Int32).toNatClampNeg 0) (sm_N M) (3 : Int32).toNatClampNeg 0) (sm_N M) (4 : Int32).toNatClampNeg 1) (sm_N M) (5 : Int32).toNatClampNeg 1) (sm_N M) (6 : Int32).toNatClampNeg 0) (sm_N M) (7 : Int32).toNatClampNeg 128)) sm_a150_412 rfl rfl (st_iast h_1 h_9) ?_
  refine ru_go (t := (414, [some (.inr (some a0)), some (.inl x1), z2], [.inr (some (sm_N M)), .inr (some (sm_N M)), .inr (some a0)], sm_putI (sm_putI (sm_putI (sm_putI (sm_putI (sm_putI (sm_putI (sm_putI (sm_new M 428 (18 : Int32).toNatClampNeg (18 : Int32).toNatClampNeg) (sm_N M) (0 : Int32).toNatClampNeg 9) (sm_N M) (1 : Int32).toNatClampNeg 2) (sm_N M) (2 : Int32).toNatClampNeg 0) (sm_N M) (3 : Int32).toNatClampNeg 0) (sm_N M) (4 : Int32).toNatClampNeg 1) (sm_N M) (5 : Int32).toNatClampNeg 1) (sm_N M) (6 : Int32).toNatClampNeg 0) (sm_N M) (7 : Int32).toNatClampNeg 128)) sm_a150_413 rfl rfl rfl ?_
  refine ru_go (t := (416, [some (.inr (some a0)), some (.inl x1), z2], [.inl 8, .inr (some (sm_N M)), .inr (some (sm_N M)), .inr (some a0)], sm_putI (sm_putI (sm_putI (sm_putI (sm_putI (sm_putI (sm_putI (sm_putI (sm_new M 428 (18 : Int32).toNatClampNeg (18 : Int32).toNatClampNeg) (sm_N M) (0 : Int32).toNatClampNeg 9) (sm_N M) (1 : Int32).toNatClampNeg 2) (sm_N M) (2 : Int32).toNatClampNeg 0) (sm_N M) (3 : Int32).toNatClampNeg 0) (sm_N M) (4 : Int32).toNatClampNeg 1) (sm_N M) (5 : Int32).toNatClampNeg 1) (sm_N M) (6 : Int32).toNatClampNeg 0) (sm_N M) (7 : Int32).toNatClampNeg 128)) sm_a150_414 rfl rfl (st_bipush (by decide)) ?_
  refine ru_go (t := (418, [some (.inr (some a0)), some (.inl x1), z2], [.inl 50, .inl 8, .inr (some (sm_N M)), .inr (some (sm_N M)), .inr (some a0)], sm_putI (sm_putI (sm_putI (sm_putI (sm_putI (sm_putI (sm_putI (sm_putI (sm_new M 428 (18 : Int32).toNatClampNeg (18 : Int32).toNatClampNeg) (sm_N M) (0 : Int32).toNatClampNeg 9) (sm_N M) (1 : Int32).toNatClampNeg 2) (sm_N M) (2 : Int32).toNatClampNeg 0) (sm_N M) (3 : Int32).toNatClampNeg 0) (sm_N M) (4 : Int32).toNatClampNeg 1) (sm_N M) (5 : Int32).toNatClampNeg 1) (sm_N M) (6 : Int32).toNatClampNeg 0) (sm_N M) (7 : Int32).toNatClampNeg 128)) sm_a150_416 rfl rfl (st_bipush (by decide)) ?_
  obtain ⟨h_10, h⟩ := h
  refine ru_go (t := (419, [some (.inr (some a0)), some (.inl x1), z2], [.inr (some (sm_N M)), .inr (some a0)], sm_putI (sm_putI (sm_putI (sm_putI (sm_putI (sm_putI (sm_putI (sm_putI (sm_putI (sm_new M 428 (18 : Int32).toNatClampNeg (18 : Int32).toNatClampNeg) (sm_N M) (0 : Int32).toNatClampNeg 9) (sm_N M) (1 : Int32).toNatClampNeg 2) (sm_N M) (2 : Int32).toNatClampNeg 0) (sm_N M) (3 : Int32).toNatClampNeg 0) (sm_N M) (4 : Int32).toNatClampNeg 1) (sm_N M) (5 : Int32).toNatClampNeg 1) (sm_N M) (6 : Int32).toNatClampNeg 0) (sm_N M) (7 : Int32).toNatClampNeg 128) (sm_N M) (8 : Int32).toNatClampNeg 50)) sm_a150_418 rfl rfl (st_iast h_1 h_10) ?_
  refine ru_go (t := (420, [some (.inr (some a0)), some (.inl x1), z2], [.inr (some (sm_N M)), .inr (some (sm_N M)), .inr (some a0)], sm_putI (sm_putI (sm_putI (sm_putI (sm_putI (sm_putI (sm_putI (sm_putI (sm_putI (sm_new M 428 (18 : Int32).toNatClampNeg (18 : Int32).toNatClampNeg) (sm_N M) (0 : Int32).toNatClampNeg 9) (sm_N M) (1 : Int32).toNatClampNeg 2) (sm_N M) (2 : Int32).toNatClampNeg 0) (sm_N M) (3 : Int32).toNatClampNeg 0) (sm_N M) (4 : Int32).toNatClampNeg 1) (sm_N M) (5 : Int32).toNatClampNeg 1) (sm_N M) (6 : Int32).toNatClampNeg 0) (sm_N M) (7 : Int32).toNatClampNeg 128) (sm_N M) (8 : Int32).toNatClampNeg 50)) sm_a150_419 rfl rfl rfl ?_
  refine ru_go (t := (422, [some (.inr (some a0)), some (.inl x1), z2], [.inl 9, .inr (some (sm_N M)), .inr (some (sm_N M)), .inr (some a0)], sm_putI (sm_putI (sm_putI (sm_putI (sm_putI (sm_putI (sm_putI (sm_putI (sm_putI (sm_new M 428 (18 : Int32).toNatClampNeg (18 : Int32).toNatClampNeg) (sm_N M) (0 : Int32).toNatClampNeg 9) (sm_N M) (1 : Int32).toNatClampNeg 2) (sm_N M) (2 : Int32).toNatClampNeg 0) (sm_N M) (3 : Int32).toNatClampNeg 0) (sm_N M) (4 : Int32).toNatClampNeg 1) (sm_N M) (5 : Int32).toNatClampNeg 1) (sm_N M) (6 : Int32).toNatClampNeg 0) (sm_N M) (7 : Int32).toNatClampNeg 128) (sm_N M) (8 : Int32).toNatClampNeg 50)) sm_a150_420 rfl rfl (st_bipush (by decide)) ?_
  refine ru_go (t := (424, [some (.inr (some a0)), some (.inl x1), z2], [.inl 9, .inl 9, .inr (some (sm_N M)), .inr (some (sm_N M)), .inr (some a0)], sm_putI (sm_putI (sm_putI (sm_putI (sm_putI (sm_putI (sm_putI (sm_putI (sm_putI (sm_new M 428 (18 : Int32).toNatClampNeg (18 : Int32).toNatClampNeg) (sm_N M) (0 : Int32).toNatClampNeg 9) (sm_N M) (1 : Int32).toNatClampNeg 2) (sm_N M) (2 : Int32).toNatClampNeg 0) (sm_N M) (3 : Int32).toNatClampNeg 0) (sm_N M) (4 : Int32).toNatClampNeg 1) (sm_N M) (5 : Int32).toNatClampNeg 1) (sm_N M) (6 : Int32).toNatClampNeg 0) (sm_N M) (7 : Int32).toNatClampNeg 128) (sm_N M) (8 : Int32).toNatClampNeg 50)) sm_a150_422 rfl rfl (st_bipush (by decide)) ?_
  obtain ⟨h_11, h⟩ := h
  refine ru_go (t := (425, [some (.inr (some a0)), some (.inl x1), z2], [.inr (some (sm_N M)), .inr (some a0)], sm_putI (sm_putI (sm_putI (sm_putI (sm_putI (sm_putI (sm_putI (sm_putI (sm_putI (sm_putI (sm_new M 428 (18 : Int32).toNatClampNeg (18 : Int32).toNatClampNeg) (sm_N M) (0 : Int32).toNatClampNeg 9) (sm_N M) (1 : Int32).toNatClampNeg 2) (sm_N M) (2 : Int32).toNatClampNeg 0) (sm_N M) (3 : Int32).toNatClampNeg 0) (sm_N M) (4 : Int32).toNatClampNeg 1) (sm_N M) (5 : Int32).toNatClampNeg 1) (sm_N M) (6 : Int32).toNatClampNeg 0) (sm_N M) (7 : Int32).toNatClampNeg 128) (sm_N M) (8 : Int32).toNatClampNeg 50) (sm_N M) (9 : Int32).toNatClampNeg 9)) sm_a150_424 rfl rfl (st_iast h_1 h_11) ?_
  refine ru_go (t := (426, [some (.inr (some a0)), some (.inl x1), z2], [.inr (some (sm_N M)), .inr (some (sm_N M)), .inr (some a0)], sm_putI (sm_putI (sm_putI (sm_putI (sm_putI (sm_putI (sm_putI (sm_putI (sm_putI (sm_putI (sm_new M 428 (18 : Int32).toNatClampNeg (18 : Int32).toNatClampNeg) (sm_N M) (0 : Int32).toNatClampNeg 9) (sm_N M) (1 : Int32).toNatClampNeg 2) (sm_N M) (2 : Int32).toNatClampNeg 0) (sm_N M) (3 : Int32).toNatClampNeg 0) (sm_N M) (4 : Int32).toNatClampNeg 1) (sm_N M) (5 : Int32).toNatClampNeg 1) (sm_N M) (6 : Int32).toNatClampNeg 0) (sm_N M) (7 : Int32).toNatClampNeg 128) (sm_N M) (8 : Int32).toNatClampNeg 50) (sm_N M) (9 : Int32).toNatClampNeg 9)) sm_a150_425 rfl rfl rfl ?_
  refine ru_go (t := (428, [some (.inr (some a0)), some (.inl x1), z2], [.inl 10, .inr (some (sm_N M)), .inr (some (sm_N M)), .inr (some a0)], sm_putI (sm_putI (sm_putI (sm_putI (sm_putI (sm_putI (sm_putI (sm_putI (sm_putI (sm_putI (sm_new M 428 (18 : Int32).toNatClampNeg (18 : Int32).toNatClampNeg) (sm_N M) (0 : Int32).toNatClampNeg 9) (sm_N M) (1 : Int32).toNatClampNeg 2) (sm_N M) (2 : Int32).toNatClampNeg 0) (sm_N M) (3 : Int32).toNatClampNeg 0) (sm_N M) (4 : Int32).toNatClampNeg 1) (sm_N M) (5 : Int32).toNatClampNeg 1) (sm_N M) (6 : Int32).toNatClampNeg 0) (sm_N M) (7 : Int32).toNatClampNeg 128) (sm_N M) (8 : Int32).toNatClampNeg 50) (sm_N M) (9 : Int32).toNatClampNeg 9)) sm_a150_426 rfl rfl (st_bipush (by decide)) ?_
  refine ru_go (t := (429, [some (.inr (some a0)), some (.inl x1), z2], [.inl 4, .inl 10, .inr (some (sm_N M)), .inr (some (sm_N M)), .inr (some a0)], sm_putI (sm_putI (sm_putI (sm_putI (sm_putI (sm_putI (sm_putI (sm_putI (sm_putI (sm_putI (sm_new M 428 (18 : Int32).toNatClampNeg (18 : Int32).toNatClampNeg) (sm_N M) (0 : Int32).toNatClampNeg 9) (sm_N M) (1 : Int32).toNatClampNeg 2) (sm_N M) (2 : Int32).toNatClampNeg 0) (sm_N M) (3 : Int32).toNatClampNeg 0) (sm_N M) (4 : Int32).toNatClampNeg 1) (sm_N M) (5 : Int32).toNatClampNeg 1) (sm_N M) (6 : Int32).toNatClampNeg 0) (sm_N M) (7 : Int32).toNatClampNeg 128) (sm_N M) (8 : Int32).toNatClampNeg 50) (sm_N M) (9 : Int32).toNatClampNeg 9)) sm_a150_428 rfl rfl (st_iconst (by decide)) ?_
  obtain ⟨h_12, h⟩ := h
  refine ru_go (t := (430, [some (.inr (some a0)), some (.inl x1), z2], [.inr (some (sm_N M)), .inr (some a0)], sm_putI (sm_putI (sm_putI (sm_putI (sm_putI (sm_putI (sm_putI (sm_putI (sm_putI (sm_putI (sm_putI (sm_new M 428 (18 : Int32).toNatClampNeg (18 : Int32).toNatClampNeg) (sm_N M) (0 : Int32).toNatClampNeg 9) (sm_N M) (1 : Int32).toNatClampNeg 2) (sm_N M) (2 : Int32).toNatClampNeg 0) (sm_N M) (3 : Int32).toNatClampNeg 0) (sm_N M) (4 : Int32).toNatClampNeg 1) (sm_N M) (5 : Int32).toNatClampNeg 1) (sm_N M) (6 : Int32).toNatClampNeg 0) (sm_N M) (7 : Int32).toNatClampNeg 128) (sm_N M) (8 : Int32).toNatClampNeg 50) (sm_N M) (9 : Int32).toNatClampNeg 9) (sm_N M) (10 : Int32).toNatClampNeg 4)) sm_a150_429 rfl rfl (st_iast h_1 h_12) ?_
  refine ru_go (t := (431, [some (.inr (some a0)), some (.inl x1), z2], [.inr (some (sm_N M)), .inr (some (sm_N M)), .inr (some a0)], sm_putI (sm_putI (sm_putI (sm_putI (sm_putI (sm_putI (sm_putI (sm_putI (sm_putI (sm_putI (sm_putI (sm_new M 428 (18 : Int32).toNatClampNeg (18 : Int32).toNatClampNeg) (sm_N M) (0 : Int32).toNatClampNeg 9) (sm_N M) (1 : Int32).toNatClampNeg 2) (sm_N M) (2 : Int32).toNatClampNeg 0) (sm_N M) (3 : Int32).toNatClampNeg 0) (sm_N M) (4 : Int32).toNatClampNeg 1) (sm_N M) (5 : Int32).toNatClampNeg 1) (sm_N M) (6 : Int32).toNatClampNeg 0) (sm_N M) (7 : Int32).toNatClampNeg 128) (sm_N M) (8 : Int32).toNatClampNeg 50) (sm_N M) (9 : Int32).toNatClampNeg 9) (sm_N M) (10 : Int32).toNatClampNeg 4)) sm_a150_430 rfl rfl rfl ?_
  refine ru_go (t := (433, [some (.inr (some a0)), some (.inl x1), z2], [.inl 11, .inr (some (sm_N M)), .inr (some (sm_N M)), .inr (some a0)], sm_putI (sm_putI (sm_putI (sm_putI (sm_putI (sm_putI (sm_putI (sm_putI (sm_putI (sm_putI (sm_putI (sm_new M 428 (18 : Int32).toNatClampNeg (18 : Int32).toNatClampNeg) (sm_N M) (0 : Int32).toNatClampNeg 9) (sm_N M) (1 : Int32).toNatClampNeg 2) (sm_N M) (2 : Int32).toNatClampNeg 0) (sm_N M) (3 : Int32).toNatClampNeg 0) (sm_N M) (4 : Int32).toNatClampNeg 1) (sm_N M) (5 : Int32).toNatClampNeg 1) (sm_N M) (6 : Int32).toNatClampNeg 0) (sm_N M) (7 : Int32).toNatClampNeg 128) (sm_N M) (8 : Int32).toNatClampNeg 50) (sm_N M) (9 : Int32).toNatClampNeg 9) (sm_N M) (10 : Int32).toNatClampNeg 4)) sm_a150_431 rfl rfl (st_bipush (by decide)) ?_
  refine ru_go (t := (434, [some (.inr (some a0)), some (.inl x1), z2], [.inl 0, .inl 11, .inr (some (sm_N M)), .inr (some (sm_N M)), .inr (some a0)], sm_putI (sm_putI (sm_putI (sm_putI (sm_putI (sm_putI (sm_putI (sm_putI (sm_putI (sm_putI (sm_putI (sm_new M 428 (18 : Int32).toNatClampNeg (18 : Int32).toNatClampNeg) (sm_N M) (0 : Int32).toNatClampNeg 9) (sm_N M) (1 : Int32).toNatClampNeg 2) (sm_N M) (2 : Int32).toNatClampNeg 0) (sm_N M) (3 : Int32).toNatClampNeg 0) (sm_N M) (4 : Int32).toNatClampNeg 1) (sm_N M) (5 : Int32).toNatClampNeg 1) (sm_N M) (6 : Int32).toNatClampNeg 0) (sm_N M) (7 : Int32).toNatClampNeg 128) (sm_N M) (8 : Int32).toNatClampNeg 50) (sm_N M) (9 : Int32).toNatClampNeg 9) (sm_N M) (10 : Int32).toNatClampNeg 4)) sm_a150_433 rfl rfl (st_iconst (by decide)) ?_
  obtain ⟨h_13, h⟩ := h
  refine ru_go (t := (435, [some (.inr (some a0)), some (.inl x1), z2], [.inr (some (sm_N M)), .inr (some a0)], sm_putI (sm_putI (sm_putI (sm_putI (sm_putI (sm_putI (sm_putI (sm_putI (sm_putI (sm_putI (sm_putI (sm_putI (sm_new M 428 (18 : Int32).toNatClampNeg (18 : Int32).toNatClampNeg) (sm_N M) (0 : Int32).toNatClampNeg 9) (sm_N M) (1 : Int32).toNatClampNeg 2) (sm_N M) (2 : Int32).toNatClampNeg 0) (sm_N M) (3 : Int32).toNatClampNeg 0) (sm_N M) (4 : Int32).toNatClampNeg 1) (sm_N M) (5 : Int32).toNatClampNeg 1) (sm_N M) (6 : Int32).toNatClampNeg 0) (sm_N M) (7 : Int32).toNatClampNeg 128) (sm_N M) (8 : Int32).toNatClampNeg 50) (sm_N M) (9 : Int32).toNatClampNeg 9) (sm_N M) (10 : Int32).toNatClampNeg 4) (sm_N M) (11 : Int32).toNatClampNeg 0)) sm_a150_434 rfl rfl (st_iast h_1 h_13) ?_
  refine ru_go (t := (436, [some (.inr (some a0)), some (.inl x1), z2], [.inr (some (sm_N M)), .inr (some (sm_N M)), .inr (some a0)], sm_putI (sm_putI (sm_putI (sm_putI (sm_putI (sm_putI (sm_putI (sm_putI (sm_putI (sm_putI (sm_putI (sm_putI (sm_new M 428 (18 : Int32).toNatClampNeg (18 : Int32).toNatClampNeg) (sm_N M) (0 : Int32).toNatClampNeg 9) (sm_N M) (1 : Int32).toNatClampNeg 2) (sm_N M) (2 : Int32).toNatClampNeg 0) (sm_N M) (3 : Int32).toNatClampNeg 0) (sm_N M) (4 : Int32).toNatClampNeg 1) (sm_N M) (5 : Int32).toNatClampNeg 1) (sm_N M) (6 : Int32).toNatClampNeg 0) (sm_N M) (7 : Int32).toNatClampNeg 128) (sm_N M) (8 : Int32).toNatClampNeg 50) (sm_N M) (9 : Int32).toNatClampNeg 9) (sm_N M) (10 : Int32).toNatClampNeg 4) (sm_N M) (11 : Int32).toNatClampNeg 0)) sm_a150_435 rfl rfl rfl ?_
  refine ru_go (t := (438, [some (.inr (some a0)), some (.inl x1), z2], [.inl 12, .inr (some (sm_N M)), .inr (some (sm_N M)), .inr (some a0)], sm_putI (sm_putI (sm_putI (sm_putI (sm_putI (sm_putI (sm_putI (sm_putI (sm_putI (sm_putI (sm_putI (sm_putI (sm_new M 428 (18 : Int32).toNatClampNeg (18 : Int32).toNatClampNeg) (sm_N M) (0 : Int32).toNatClampNeg 9) (sm_N M) (1 : Int32).toNatClampNeg 2) (sm_N M) (2 : Int32).toNatClampNeg 0) (sm_N M) (3 : Int32).toNatClampNeg 0) (sm_N M) (4 : Int32).toNatClampNeg 1) (sm_N M) (5 : Int32).toNatClampNeg 1) (sm_N M) (6 : Int32).toNatClampNeg 0) (sm_N M) (7 : Int32).toNatClampNeg 128) (sm_N M) (8 : Int32).toNatClampNeg 50) (sm_N M) (9 : Int32).toNatClampNeg 9) (sm_N M) (10 : Int32).toNatClampNeg 4) (sm_N M) (11 : Int32).toNatClampNeg 0)) sm_a150_436 rfl rfl (st_bipush (by decide)) ?_
  refine ru_go (t := (439, [some (.inr (some a0)), some (.inl x1), z2], [.inl 0, .inl 12, .inr (some (sm_N M)), .inr (some (sm_N M)), .inr (some a0)], sm_putI (sm_putI (sm_putI (sm_putI (sm_putI (sm_putI (sm_putI (sm_putI (sm_putI (sm_putI (sm_putI (sm_putI (sm_new M 428 (18 : Int32).toNatClampNeg (18 : Int32).toNatClampNeg) (sm_N M) (0 : Int32).toNatClampNeg 9) (sm_N M) (1 : Int32).toNatClampNeg 2) (sm_N M) (2 : Int32).toNatClampNeg 0) (sm_N M) (3 : Int32).toNatClampNeg 0) (sm_N M) (4 : Int32).toNatClampNeg 1) (sm_N M) (5 : Int32).toNatClampNeg 1) (sm_N M) (6 : Int32).toNatClampNeg 0) (sm_N M) (7 : Int32).toNatClampNeg 128) (sm_N M) (8 : Int32).toNatClampNeg 50) (sm_N M) (9 : Int32).toNatClampNeg 9) (sm_N M) (10 : Int32).toNatClampNeg 4) (sm_N M) (11 : Int32).toNatClampNeg 0)) sm_a150_438 rfl rfl (st_iconst (by decide)) ?_
  obtain ⟨h_14, h⟩ := h
  refine ru_go (t := (440, [some (.inr (some a0)), some (.inl x1), z2], [.inr (some (sm_N M)), .inr (some a0)], sm_putI (sm_putI (sm_putI (sm_putI (sm_putI (sm_putI (sm_putI (sm_putI (sm_putI (sm_putI (sm_putI (sm_putI (sm_putI (sm_new M 428 (18 : Int32).toNatClampNeg (18 : Int32).toNatClampNeg) (sm_N M) (0 : Int32).toNatClampNeg 9) (sm_N M) (1 : Int32).toNatClampNeg 2) (sm_N M) (2 : Int32).toNatClampNeg 0) (sm_N M) (3 : Int32).toNatClampNeg 0) (sm_N M) (4 : Int32).toNatClampNeg 1) (sm_N M) (5 : Int32).toNatClampNeg 1) (sm_N M) (6 : Int32).toNatClampNeg 0) (sm_N M) (7 : Int32).toNatClampNeg 128) (sm_N M) (8 : Int32).toNatClampNeg 50) (sm_N M) (9 : Int32).toNatClampNeg 9) (sm_N M) (10 : Int32).toNatClampNeg 4) (sm_N M) (11 : Int32).toNatClampNeg 0) (sm_N M) (12 : Int32).toNatClampNeg 0)) sm_a150_439 rfl rfl (st_iast h_1 h_14) ?_
  refine ru_go (t := (441, [some (.inr (some a0)), some (.inl x1), z2], [.inr (some (sm_N M)), .inr (some (sm_N M)), .inr (some a0)], sm_putI (sm_putI (sm_putI (sm_putI (sm_putI (sm_putI (sm_putI (sm_putI (sm_putI (sm_putI (sm_putI (sm_putI (sm_putI (sm_new M 428 (18 : Int32).toNatClampNeg (18 : Int32).toNatClampNeg) (sm_N M) (0 : Int32).toNatClampNeg 9) (sm_N M) (1 : Int32).toNatClampNeg 2) (sm_N M) (2 : Int32).toNatClampNeg 0) (sm_N M) (3 : Int32).toNatClampNeg 0) (sm_N M) (4 : Int32).toNatClampNeg 1) (sm_N M) (5 : Int32).toNatClampNeg 1) (sm_N M) (6 : Int32).toNatClampNeg 0) (sm_N M) (7 : Int32).toNatClampNeg 128) (sm_N M) (8 : Int32).toNatClampNeg 50) (sm_N M) (9 : Int32).toNatClampNeg 9) (sm_N M) (10 : Int32).toNatClampNeg 4) (sm_N M) (11 : Int32).toNatClampNeg 0) (sm_N M) (12 : Int32).toNatClampNeg 0)) sm_a150_440 rfl rfl rfl ?_
  refine ru_go (t := (443, [some (.inr (some a0)), some (.inl x1), z2], [.inl 13, .inr (some (sm_N M)), .inr (some (sm_N M)), .inr (some a0)], sm_putI (sm_putI (sm_putI (sm_putI (sm_putI (sm_putI (sm_putI (sm_putI (sm_putI (sm_putI (sm_putI (sm_putI (sm_putI (sm_new M 428 (18 : Int32).toNatClampNeg (18 : Int32).toNatClampNeg) (sm_N M) (0 : Int32).toNatClampNeg 9) (sm_N M) (1 : Int32).toNatClampNeg 2) (sm_N M) (2 : Int32).toNatClampNeg 0) (sm_N M) (3 : Int32).toNatClampNeg 0) (sm_N M) (4 : Int32).toNatClampNeg 1) (sm_N M) (5 : Int32).toNatClampNeg 1) (sm_N M) (6 : Int32).toNatClampNeg 0) (sm_N M) (7 : Int32).toNatClampNeg 128) (sm_N M) (8 : Int32).toNatClampNeg 50) (sm_N M) (9 : Int32).toNatClampNeg 9) (sm_N M) (10 : Int32).toNatClampNeg 4) (sm_N M) (11 : Int32).toNatClampNeg 0) (sm_N M) (12 : Int32).toNatClampNeg 0)) sm_a150_441 rfl rfl (st_bipush (by decide)) ?_
  refine ru_go (t := (444, [some (.inr (some a0)), some (.inl x1), z2], [.inl 0, .inl 13, .inr (some (sm_N M)), .inr (some (sm_N M)), .inr (some a0)], sm_putI (sm_putI (sm_putI (sm_putI (sm_putI (sm_putI (sm_putI (sm_putI (sm_putI (sm_putI (sm_putI (sm_putI (sm_putI (sm_new M 428 (18 : Int32).toNatClampNeg (18 : Int32).toNatClampNeg) (sm_N M) (0 : Int32).toNatClampNeg 9) (sm_N M) (1 : Int32).toNatClampNeg 2) (sm_N M) (2 : Int32).toNatClampNeg 0) (sm_N M) (3 : Int32).toNatClampNeg 0) (sm_N M) (4 : Int32).toNatClampNeg 1) (sm_N M) (5 : Int32).toNatClampNeg 1) (sm_N M) (6 : Int32).toNatClampNeg 0) (sm_N M) (7 : Int32).toNatClampNeg 128) (sm_N M) (8 : Int32).toNatClampNeg 50) (sm_N M) (9 : Int32).toNatClampNeg 9) (sm_N M) (10 : Int32).toNatClampNeg 4) (sm_N M) (11 : Int32).toNatClampNeg 0) (sm_N M) (12 : Int32).toNatClampNeg 0)) sm_a150_443 rfl rfl (st_iconst (by decide)) ?_
  obtain ⟨h_15, h⟩ := h
  refine ru_go (t := (445, [some (.inr (some a0)), some (.inl x1), z2], [.inr (some (sm_N M)), .inr (some a0)], sm_putI (sm_putI (sm_putI (sm_putI (sm_putI (sm_putI (sm_putI (sm_putI (sm_putI (sm_putI (sm_putI (sm_putI (sm_putI (sm_putI (sm_new M 428 (18 : Int32).toNatClampNeg (18 : Int32).toNatClampNeg) (sm_N M) (0 : Int32).toNatClampNeg 9) (sm_N M) (1 : Int32).toNatClampNeg 2) (sm_N M) (2 : Int32).toNatClampNeg 0) (sm_N M) (3 : Int32).toNatClampNeg 0) (sm_N M) (4 : Int32).toNatClampNeg 1) (sm_N M) (5 : Int32).toNatClampNeg 1) (sm_N M) (6 : Int32).toNatClampNeg 0) (sm_N M) (7 : Int32).toNatClampNeg 128) (sm_N M) (8 : Int32).toNatClampNeg 50) (sm_N M) (9 : Int32).toNatClampNeg 9) (sm_N M) (10 : Int32).toNatClampNeg 4) (sm_N M) (11 : Int32).toNatClampNeg 0) (sm_N M) (12 : Int32).toNatClampNeg 0) (sm_N M) (13 : Int32).toNatClampNeg 0)) sm_a150_444 rfl rfl (st_iast h_1 h_15) ?_
  refine ru_go (t := (446, [some (.inr (some a0)), some (.inl x1), z2], [.inr (some (sm_N M)), .inr (some (sm_N M)), .inr (some a0)], sm_putI (sm_putI (sm_putI (sm_putI (sm_putI (sm_putI (sm_putI (sm_putI (sm_putI (sm_putI (sm_putI (sm_putI (sm_putI (sm_putI (sm_new M 428 (18 : Int32).toNatClampNeg (18 : Int32).toNatClampNeg) (sm_N M) (0 : Int32).toNatClampNeg 9) (sm_N M) (1 : Int32).toNatClampNeg 2) (sm_N M) (2 : Int32).toNatClampNeg 0) (sm_N M) (3 : Int32).toNatClampNeg 0) (sm_N M) (4 : Int32).toNatClampNeg 1) (sm_N M) (5 : Int32).toNatClampNeg 1) (sm_N M) (6 : Int32).toNatClampNeg 0) (sm_N M) (7 : Int32).toNatClampNeg 128) (sm_N M) (8 : Int32).toNatClampNeg 50) (sm_N M) (9 : Int32).toNatClampNeg 9) (sm_N M) (10 : Int32).toNatClampNeg 4) (sm_N M) (11 : Int32).toNatClampNeg 0) (sm_N M) (12 : Int32).toNatClampNeg 0) (sm_N M) (13 : Int32).toNatClampNeg 0)) sm_a150_445 rfl rfl rfl ?_
  refine ru_go (t := (448, [some (.inr (some a0)), some (.inl x1), z2], [.inl 14, .inr (some (sm_N M)), .inr (some (sm_N M)), .inr (some a0)], sm_putI (sm_putI (sm_putI (sm_putI (sm_putI (sm_putI (sm_putI (sm_putI (sm_putI (sm_putI (sm_putI (sm_putI (sm_putI (sm_putI (sm_new M 428 (18 : Int32).toNatClampNeg (18 : Int32).toNatClampNeg) (sm_N M) (0 : Int32).toNatClampNeg 9) (sm_N M) (1 : Int32).toNatClampNeg 2) (sm_N M) (2 : Int32).toNatClampNeg 0) (sm_N M) (3 : Int32).toNatClampNeg 0) (sm_N M) (4 : Int32).toNatClampNeg 1) (sm_N M) (5 : Int32).toNatClampNeg 1) (sm_N M) (6 : Int32).toNatClampNeg 0) (sm_N M) (7 : Int32).toNatClampNeg 128) (sm_N M) (8 : Int32).toNatClampNeg 50) (sm_N M) (9 : Int32).toNatClampNeg 9) (sm_N M) (10 : Int32).toNatClampNeg 4) (sm_N M) (11 : Int32).toNatClampNeg 0) (sm_N M) (12 : Int32).toNatClampNeg 0) (sm_N M) (13 : Int32).toNatClampNeg 0)) sm_a150_446 rfl rfl (st_bipush (by decide)) ?_
  refine ru_go (t := (451, [some (.inr (some a0)), some (.inl x1), z2], [.inl 255, .inl 14, .inr (some (sm_N M)), .inr (some (sm_N M)), .inr (some a0)], sm_putI (sm_putI (sm_putI (sm_putI (sm_putI (sm_putI (sm_putI (sm_putI (sm_putI (sm_putI (sm_putI (sm_putI (sm_putI (sm_putI (sm_new M 428 (18 : Int32).toNatClampNeg (18 : Int32).toNatClampNeg) (sm_N M) (0 : Int32).toNatClampNeg 9) (sm_N M) (1 : Int32).toNatClampNeg 2) (sm_N M) (2 : Int32).toNatClampNeg 0) (sm_N M) (3 : Int32).toNatClampNeg 0) (sm_N M) (4 : Int32).toNatClampNeg 1) (sm_N M) (5 : Int32).toNatClampNeg 1) (sm_N M) (6 : Int32).toNatClampNeg 0) (sm_N M) (7 : Int32).toNatClampNeg 128) (sm_N M) (8 : Int32).toNatClampNeg 50) (sm_N M) (9 : Int32).toNatClampNeg 9) (sm_N M) (10 : Int32).toNatClampNeg 4) (sm_N M) (11 : Int32).toNatClampNeg 0) (sm_N M) (12 : Int32).toNatClampNeg 0) (sm_N M) (13 : Int32).toNatClampNeg 0)) sm_a150_448 rfl rfl (st_sipush (by decide)) ?_
  obtain ⟨h_16, h⟩ := h
  refine ru_go (t := (452, [some (.inr (some a0)), some (.inl x1), z2], [.inr (some (sm_N M)), .inr (some a0)], sm_putI (sm_putI (sm_putI (sm_putI (sm_putI (sm_putI (sm_putI (sm_putI (sm_putI (sm_putI (sm_putI (sm_putI (sm_putI (sm_putI (sm_putI (sm_new M 428 (18 : Int32).toNatClampNeg (18 : Int32).toNatClampNeg) (sm_N M) (0 : Int32).toNatClampNeg 9) (sm_N M) (1 : Int32).toNatClampNeg 2) (sm_N M) (2 : Int32).toNatClampNeg 0) (sm_N M) (3 : Int32).toNatClampNeg 0) (sm_N M) (4 : Int32).toNatClampNeg 1) (sm_N M) (5 : Int32).toNatClampNeg 1) (sm_N M) (6 : Int32).toNatClampNeg 0) (sm_N M) (7 : Int32).toNatClampNeg 128) (sm_N M) (8 : Int32).toNatClampNeg 50) (sm_N M) (9 : Int32).toNatClampNeg 9) (sm_N M) (10 : Int32).toNatClampNeg 4) (sm_N M) (11 : Int32).toNatClampNeg 0) (sm_N M) (12 : Int32).toNatClampNeg 0) (sm_N M) (13 : Int32).toNatClampNeg 0) (sm_N M) (14 : Int32).toNatClampNeg 255)) sm_a150_451 rfl rfl (st_iast h_1 h_16) ?_
  refine ru_go (t := (453, [some (.inr (some a0)), some (.inl x1), z2], [.inr (some (sm_N M)), .inr (some (sm_N M)), .inr (some a0)], sm_putI (sm_putI (sm_putI (sm_putI (sm_putI (sm_putI (sm_putI (sm_putI (sm_putI (sm_putI (sm_putI (sm_putI (sm_putI (sm_putI (sm_putI (sm_new M 428 (18 : Int32).toNatClampNeg (18 : Int32).toNatClampNeg) (sm_N M) (0 : Int32).toNatClampNeg 9) (sm_N M) (1 : Int32).toNatClampNeg 2) (sm_N M) (2 : Int32).toNatClampNeg 0) (sm_N M) (3 : Int32).toNatClampNeg 0) (sm_N M) (4 : Int32).toNatClampNeg 1) (sm_N M) (5 : Int32).toNatClampNeg 1) (sm_N M) (6 : Int32).toNatClampNeg 0) (sm_N M) (7 : Int32).toNatClampNeg 128) (sm_N M) (8 : Int32).toNatClampNeg 50) (sm_N M) (9 : Int32).toNatClampNeg 9) (sm_N M) (10 : Int32).toNatClampNeg 4) (sm_N M) (11 : Int32).toNatClampNeg 0) (sm_N M) (12 : Int32).toNatClampNeg 0) (sm_N M) (13 : Int32).toNatClampNeg 0) (sm_N M) (14 : Int32).toNatClampNeg 255)) sm_a150_452 rfl rfl rfl ?_
  refine ru_go (t := (455, [some (.inr (some a0)), some (.inl x1), z2], [.inl 15, .inr (some (sm_N M)), .inr (some (sm_N M)), .inr (some a0)], sm_putI (sm_putI (sm_putI (sm_putI (sm_putI (sm_putI (sm_putI (sm_putI (sm_putI (sm_putI (sm_putI (sm_putI (sm_putI (sm_putI (sm_putI (sm_new M 428 (18 : Int32).toNatClampNeg (18 : Int32).toNatClampNeg) (sm_N M) (0 : Int32).toNatClampNeg 9) (sm_N M) (1 : Int32).toNatClampNeg 2) (sm_N M) (2 : Int32).toNatClampNeg 0) (sm_N M) (3 : Int32).toNatClampNeg 0) (sm_N M) (4 : Int32).toNatClampNeg 1) (sm_N M) (5 : Int32).toNatClampNeg 1) (sm_N M) (6 : Int32).toNatClampNeg 0) (sm_N M) (7 : Int32).toNatClampNeg 128) (sm_N M) (8 : Int32).toNatClampNeg 50) (sm_N M) (9 : Int32).toNatClampNeg 9) (sm_N M) (10 : Int32).toNatClampNeg 4) (sm_N M) (11 : Int32).toNatClampNeg 0) (sm_N M) (12 : Int32).toNatClampNeg 0) (sm_N M) (13 : Int32).toNatClampNeg 0) (sm_N M) (14 : Int32).toNatClampNeg 255)) sm_a150_453 rfl rfl (st_bipush (by decide)) ?_
  refine ru_go (t := (456, [some (.inr (some a0)), some (.inl x1), z2], [.inl 0, .inl 15, .inr (some (sm_N M)), .inr (some (sm_N M)), .inr (some a0)], sm_putI (sm_putI (sm_putI (sm_putI (sm_putI (sm_putI (sm_putI (sm_putI (sm_putI (sm_putI (sm_putI (sm_putI (sm_putI (sm_putI (sm_putI (sm_new M 428 (18 : Int32).toNatClampNeg (18 : Int32).toNatClampNeg) (sm_N M) (0 : Int32).toNatClampNeg 9) (sm_N M) (1 : Int32).toNatClampNeg 2) (sm_N M) (2 : Int32).toNatClampNeg 0) (sm_N M) (3 : Int32).toNatClampNeg 0) (sm_N M) (4 : Int32).toNatClampNeg 1) (sm_N M) (5 : Int32).toNatClampNeg 1) (sm_N M) (6 : Int32).toNatClampNeg 0) (sm_N M) (7 : Int32).toNatClampNeg 128) (sm_N M) (8 : Int32).toNatClampNeg 50) (sm_N M) (9 : Int32).toNatClampNeg 9) (sm_N M) (10 : Int32).toNatClampNeg 4) (sm_N M) (11 : Int32).toNatClampNeg 0) (sm_N M) (12 : Int32).toNatClampNeg 0) (sm_N M) (13 : Int32).toNatClampNeg 0) (sm_N M) (14 : Int32).toNatClampNeg 255)) sm_a150_455 rfl rfl (st_iconst (by decide)) ?_
  obtain ⟨h_17, h⟩ := h
  refine ru_go (t := (457, [some (.inr (some a0)), some (.inl x1), z2], [.inr (some (sm_N M)), .inr (some a0)], sm_putI (sm_putI (sm_putI (sm_putI (sm_putI (sm_putI (sm_putI (sm_putI (sm_putI (sm_putI (sm_putI (sm_putI (sm_putI (sm_putI (sm_putI (sm_putI (sm_new M 428 (18 : Int32).toNatClampNeg (18 : Int32).toNatClampNeg) (sm_N M) (0 : Int32).toNatClampNeg 9) (sm_N M) (1 : Int32).toNatClampNeg 2) (sm_N M) (2 : Int32).toNatClampNeg 0) (sm_N M) (3 : Int32).toNatClampNeg 0) (sm_N M) (4 : Int32).toNatClampNeg 1) (sm_N M) (5 : Int32).toNatClampNeg 1) (sm_N M) (6 : Int32).toNatClampNeg 0) (sm_N M) (7 : Int32).toNatClampNeg 128) (sm_N M) (8 : Int32).toNatClampNeg 50) (sm_N M) (9 : Int32).toNatClampNeg 9) (sm_N M) (10 : Int32).toNatClampNeg 4) (sm_N M) (11 : Int32).toNatClampNeg 0) (sm_N M) (12 : Int32).toNatClampNeg 0) (sm_N M) (13 : Int32).toNatClampNeg 0) (sm_N M) (14 : Int32).toNatClampNeg 255) (sm_N M) (15 : Int32).toNatClampNeg 0)) sm_a150_456 rfl rfl (st_iast h_1 h_17) ?_
  refine ru_go (t := (458, [some (.inr (some a0)), some (.inl x1), z2], [.inr (some (sm_N M)), .inr (some (sm_N M)), .inr (some a0)], sm_putI (sm_putI (sm_putI (sm_putI (sm_putI (sm_putI (sm_putI (sm_putI (sm_putI (sm_putI (sm_putI (sm_putI (sm_putI (sm_putI (sm_putI (sm_putI (sm_new M 428 (18 : Int32).toNatClampNeg (18 : Int32).toNatClampNeg) (sm_N M) (0 : Int32).toNatClampNeg 9) (sm_N M) (1 : Int32).toNatClampNeg 2) (sm_N M) (2 : Int32).toNatClampNeg 0) (sm_N M) (3 : Int32).toNatClampNeg 0) (sm_N M) (4 : Int32).toNatClampNeg 1) (sm_N M) (5 : Int32).toNatClampNeg 1) (sm_N M) (6 : Int32).toNatClampNeg 0) (sm_N M) (7 : Int32).toNatClampNeg 128) (sm_N M) (8 : Int32).toNatClampNeg 50) (sm_N M) (9 : Int32).toNatClampNeg 9) (sm_N M) (10 : Int32).toNatClampNeg 4) (sm_N M) (11 : Int32).toNatClampNeg 0) (sm_N M) (12 : Int32).toNatClampNeg 0) (sm_N M) (13 : Int32).toNatClampNeg 0) (sm_N M) (14 : Int32).toNatClampNeg 255) (sm_N M) (15 : Int32).toNatClampNeg 0)) sm_a150_457 rfl rfl rfl ?_
  refine ru_go (t := (460, [some (.inr (some a0)), some (.inl x1), z2], [.inl 16, .inr (some (sm_N M)), .inr (some (sm_N M)), .inr (some a0)], sm_putI (sm_putI (sm_putI (sm_putI (sm_putI (sm_putI (sm_putI (sm_putI (sm_putI (sm_putI (sm_putI (sm_putI (sm_putI (sm_putI (sm_putI (sm_putI (sm_new M 428 (18 : Int32).toNatClampNeg (18 : Int32).toNatClampNeg) (sm_N M) (0 : Int32).toNatClampNeg 9) (sm_N M) (1 : Int32).toNatClampNeg 2) (sm_N M) (2 : Int32).toNatClampNeg 0) (sm_N M) (3 : Int32).toNatClampNeg 0) (sm_N M) (4 : Int32).toNatClampNeg 1) (sm_N M) (5 : Int32).toNatClampNeg 1) (sm_N M) (6 : Int32).toNatClampNeg 0) (sm_N M) (7 : Int32).toNatClampNeg 128) (sm_N M) (8 : Int32).toNatClampNeg 50) (sm_N M) (9 : Int32).toNatClampNeg 9) (sm_N M) (10 : Int32).toNatClampNeg 4) (sm_N M) (11 : Int32).toNatClampNeg 0) (sm_N M) (12 : Int32).toNatClampNeg 0) (sm_N M) (13 : Int32).toNatClampNeg 0) (sm_N M) (14 : Int32).toNatClampNeg 255) (sm_N M) (15 : Int32).toNatClampNeg 0)) sm_a150_458 rfl rfl (st_bipush (by decide)) ?_
  refine ru_go (t := (461, [some (.inr (some a0)), some (.inl x1), z2], [.inl 0, .inl 16, .inr (some (sm_N M)), .inr (some (sm_N M)), .inr (some a0)], sm_putI (sm_putI (sm_putI (sm_putI (sm_putI (sm_putI (sm_putI (sm_putI (sm_putI (sm_putI (sm_putI (sm_putI (sm_putI (sm_putI (sm_putI (sm_putI (sm_new M 428 (18 : Int32).toNatClampNeg (18 : Int32).toNatClampNeg) (sm_N M) (0 : Int32).toNatClampNeg 9) (sm_N M) (1 : Int32).toNatClampNeg 2) (sm_N M) (2 : Int32).toNatClampNeg 0) (sm_N M) (3 : Int32).toNatClampNeg 0) (sm_N M) (4 : Int32).toNatClampNeg 1) (sm_N M) (5 : Int32).toNatClampNeg 1) (sm_N M) (6 : Int32).toNatClampNeg 0) (sm_N M) (7 : Int32).toNatClampNeg 128) (sm_N M) (8 : Int32).toNatClampNeg 50) (sm_N M) (9 : Int32).toNatClampNeg 9) (sm_N M) (10 : Int32).toNatClampNeg 4) (sm_N M) (11 : Int32).toNatClampNeg 0) (sm_N M) (12 : Int32).toNatClampNeg 0) (sm_N M) (13 : Int32).toNatClampNeg 0) (sm_N M) (14 : Int32).toNatClampNeg 255) (sm_N M) (15 : Int32).toNatClampNeg 0)) sm_a150_460 rfl rfl (st_iconst (by decide)) ?_
  obtain ⟨h_18, h⟩ := h
  refine ru_go (t := (462, [some (.inr (some a0)), some (.inl x1), z2], [.inr (some (sm_N M)), .inr (some a0)], sm_putI (sm_putI (sm_putI (sm_putI (sm_putI (sm_putI (sm_putI (sm_putI (sm_putI (sm_putI (sm_putI (sm_putI (sm_putI (sm_putI (sm_putI (sm_putI (sm_putI (sm_new M 428 (18 : Int32).toNatClampNeg (18 : Int32).toNatClampNeg) (sm_N M) (0 : Int32).toNatClampNeg 9) (sm_N M) (1 : Int32).toNatClampNeg 2) (sm_N M) (2 : Int32).toNatClampNeg 0) (sm_N M) (3 : Int32).toNatClampNeg 0) (sm_N M) (4 : Int32).toNatClampNeg 1) (sm_N M) (5 : Int32).toNatClampNeg 1) (sm_N M) (6 : Int32).toNatClampNeg 0) (sm_N M) (7 : Int32).toNatClampNeg 128) (sm_N M) (8 : Int32).toNatClampNeg 50) (sm_N M) (9 : Int32).toNatClampNeg 9) (sm_N M) (10 : Int32).toNatClampNeg 4) (sm_N M) (11 : Int32).toNatClampNeg 0) (sm_N M) (12 : Int32).toNatClampNeg 0) (sm_N M) (13 : Int32).toNatClampNeg 0) (sm_N M) (14 : Int32).toNatClampNeg 255) (sm_N M) (15 : Int32).toNatClampNeg 0) (sm_N M) (16 : Int32).toNatClampNeg 0)) sm_a150_461 rfl rfl (st_iast h_1 h_18) ?_
  refine ru_go (t := (463, [some (.inr (some a0)), some (.inl x1), z2], [.inr (some (sm_N M)), .inr (some (sm_N M)), .inr (some a0)], sm_putI (sm_putI (sm_putI (sm_putI (sm_putI (sm_putI (sm_putI (sm_putI (sm_putI (sm_putI (sm_putI (sm_putI (sm_putI (sm_putI (sm_putI (sm_putI (sm_putI (sm_new M 428 (18 : Int32).toNatClampNeg (18 : Int32).toNatClampNeg) (sm_N M) (0 : Int32).toNatClampNeg 9) (sm_N M) (1 : Int32).toNatClampNeg 2) (sm_N M) (2 : Int32).toNatClampNeg 0) (sm_N M) (3 : Int32).toNatClampNeg 0) (sm_N M) (4 : Int32).toNatClampNeg 1) (sm_N M) (5 : Int32).toNatClampNeg 1) (sm_N M) (6 : Int32).toNatClampNeg 0) (sm_N M) (7 : Int32).toNatClampNeg 128) (sm_N M) (8 : Int32).toNatClampNeg 50) (sm_N M) (9 : Int32).toNatClampNeg 9) (sm_N M) (10 : Int32).toNatClampNeg 4) (sm_N M) (11 : Int32).toNatClampNeg 0) (sm_N M) (12 : Int32).toNatClampNeg 0) (sm_N M) (13 : Int32).toNatClampNeg 0) (sm_N M) (14 : Int32).toNatClampNeg 255) (sm_N M) (15 : Int32).toNatClampNeg 0) (sm_N M) (16 : Int32).toNatClampNeg 0)) sm_a150_462 rfl rfl rfl ?_
  refine ru_go (t := (465, [some (.inr (some a0)), some (.inl x1), z2], [.inl 17, .inr (some (sm_N M)), .inr (some (sm_N M)), .inr (some a0)], sm_putI (sm_putI (sm_putI (sm_putI (sm_putI (sm_putI (sm_putI (sm_putI (sm_putI (sm_putI (sm_putI (sm_putI (sm_putI (sm_putI (sm_putI (sm_putI (sm_putI (sm_new M 428 (18 : Int32).toNatClampNeg (18 : Int32).toNatClampNeg) (sm_N M) (0 : Int32).toNatClampNeg 9) (sm_N M) (1 : Int32).toNatClampNeg 2) (sm_N M) (2 : Int32).toNatClampNeg 0) (sm_N M) (3 : Int32).toNatClampNeg 0) (sm_N M) (4 : Int32).toNatClampNeg 1) (sm_N M) (5 : Int32).toNatClampNeg 1) (sm_N M) (6 : Int32).toNatClampNeg 0) (sm_N M) (7 : Int32).toNatClampNeg 128) (sm_N M) (8 : Int32).toNatClampNeg 50) (sm_N M) (9 : Int32).toNatClampNeg 9) (sm_N M) (10 : Int32).toNatClampNeg 4) (sm_N M) (11 : Int32).toNatClampNeg 0) (sm_N M) (12 : Int32).toNatClampNeg 0) (sm_N M) (13 : Int32).toNatClampNeg 0) (sm_N M) (14 : Int32).toNatClampNeg 255) (sm_N M) (15 : Int32).toNatClampNeg 0) (sm_N M) (16 : Int32).toNatClampNeg 0)) sm_a150_463 rfl rfl (st_bipush (by decide)) ?_
  refine ru_go (t := (466, [some (.inr (some a0)), some (.inl x1), z2], [.inl 0, .inl 17, .inr (some (sm_N M)), .inr (some (sm_N M)), .inr (some a0)], sm_putI (sm_putI (sm_putI (sm_putI (sm_putI (sm_putI (sm_putI (sm_putI (sm_putI (sm_putI (sm_putI (sm_putI (sm_putI (sm_putI (sm_putI (sm_putI (sm_putI (sm_new M 428 (18 : Int32).toNatClampNeg (18 : Int32).toNatClampNeg) (sm_N M) (0 : Int32).toNatClampNeg 9) (sm_N M) (1 : Int32).toNatClampNeg 2) (sm_N M) (2 : Int32).toNatClampNeg 0) (sm_N M) (3 : Int32).toNatClampNeg 0) (sm_N M) (4 : Int32).toNatClampNeg 1) (sm_N M) (5 : Int32).toNatClampNeg 1) (sm_N M) (6 : Int32).toNatClampNeg 0) (sm_N M) (7 : Int32).toNatClampNeg 128) (sm_N M) (8 : Int32).toNatClampNeg 50) (sm_N M) (9 : Int32).toNatClampNeg 9) (sm_N M) (10 : Int32).toNatClampNeg 4) (sm_N M) (11 : Int32).toNatClampNeg 0) (sm_N M) (12 : Int32).toNatClampNeg 0) (sm_N M) (13 : Int32).toNatClampNeg 0) (sm_N M) (14 : Int32).toNatClampNeg 255) (sm_N M) (15 : Int32).toNatClampNeg 0) (sm_N M) (16 : Int32).toNatClampNeg 0)) sm_a150_465 rfl rfl (st_iconst (by decide)) ?_
  obtain ⟨h_19, h⟩ := h
  refine ru_go (t := (467, [some (.inr (some a0)), some (.inl x1), z2], [.inr (some (sm_N M)), .inr (some a0)], sm_putI (sm_putI (sm_putI (sm_putI (sm_putI (sm_putI (sm_putI (sm_putI (sm_putI (sm_putI (sm_putI (sm_putI (sm_putI (sm_putI (sm_putI (sm_putI (sm_putI (sm_putI (sm_new M 428 (18 : Int32).toNatClampNeg (18 : Int32).toNatClampNeg) (sm_N M) (0 : Int32).toNatClampNeg 9) (sm_N M) (1 : Int32).toNatClampNeg 2) (sm_N M) (2 : Int32).toNatClampNeg 0) (sm_N M) (3 : Int32).toNatClampNeg 0) (sm_N M) (4 : Int32).toNatClampNeg 1) (sm_N M) (5 : Int32).toNatClampNeg 1) (sm_N M) (6 : Int32).toNatClampNeg 0) (sm_N M) (7 : Int32).toNatClampNeg 128) (sm_N M) (8 : Int32).toNatClampNeg 50) (sm_N M) (9 : Int32).toNatClampNeg 9) (sm_N M) (10 : Int32).toNatClampNeg 4) (sm_N M) (11 : Int32).toNatClampNeg 0) (sm_N M) (12 : Int32).toNatClampNeg 0) (sm_N M) (13 : Int32).toNatClampNeg 0) (sm_N M) (14 : Int32).toNatClampNeg 255) (sm_N M) (15 : Int32).toNatClampNeg 0) (sm_N M) (16 : Int32).toNatClampNeg 0) (sm_N M) (17 : Int32).toNatClampNeg 0)) sm_a150_466 rfl rfl (st_iast h_1 h_19) ?_
  obtain ⟨h_20, h⟩ := h
  refine ru_go (t := (470, [some (.inr (some a0)), some (.inl x1), z2], [], sm_putR (sm_putI (sm_putI (sm_putI (sm_putI (sm_putI (sm_putI (sm_putI (sm_putI (sm_putI (sm_putI (sm_putI (sm_putI (sm_putI (sm_putI (sm_putI (sm_putI (sm_putI (sm_putI (sm_new M 428 (18 : Int32).toNatClampNeg (18 : Int32).toNatClampNeg) (sm_N M) (0 : Int32).toNatClampNeg 9) (sm_N M) (1 : Int32).toNatClampNeg 2) (sm_N M) (2 : Int32).toNatClampNeg 0) (sm_N M) (3 : Int32).toNatClampNeg 0) (sm_N M) (4 : Int32).toNatClampNeg 1) (sm_N M) (5 : Int32).toNatClampNeg 1) (sm_N M) (6 : Int32).toNatClampNeg 0) (sm_N M) (7 : Int32).toNatClampNeg 128) (sm_N M) (8 : Int32).toNatClampNeg 50) (sm_N M) (9 : Int32).toNatClampNeg 9) (sm_N M) (10 : Int32).toNatClampNeg 4) (sm_N M) (11 : Int32).toNatClampNeg 0) (sm_N M) (12 : Int32).toNatClampNeg 0) (sm_N M) (13 : Int32).toNatClampNeg 0) (sm_N M) (14 : Int32).toNatClampNeg 255) (sm_N M) (15 : Int32).toNatClampNeg 0) (sm_N M) (16 : Int32).toNatClampNeg 0) (sm_N M) (17 : Int32).toNatClampNeg 0) a0 55 (some (sm_N M)))) sm_a150_467 rfl rfl (st_putR h_20 rfl) ?_
  exact h
theorem bb_150_470 {d : Nat} {M : sm_M} {Q : Option sm_V → sm_M → Prop} {a0 : Nat} {x1 : Int32} {z2 : Option sm_V}
    (h : sm_K (sm_new M 431 (6 : Int32).toNatClampNeg (6 : Int32).toNatClampNeg) a0 = 39 ∧ sm_K (sm_new (sm_putR (sm_new M 431 (6 : Int32).toNatClampNeg (6 : Int32).toNatClampNeg) a0 57 (some (sm_N M))) 434 (6 : Int32).toNatClampNeg (6 : Int32).toNatClampNeg) a0 = 39 ∧ sm_K (sm_new (sm_putR (sm_new (sm_putR (sm_new M 431 (6 : Int32).toNatClampNeg (6 : Int32).toNatClampNeg) a0 57 (some (sm_N M))) 434 (6 : Int32).toNatClampNeg (6 : Int32).toNatClampNeg) a0 58 (some (sm_N (sm_putR (sm_new M 431 (6 : Int32).toNatClampNeg (6 : Int32).toNatClampNeg) a0 57 (some (sm_N M)))))) 437 (6 : Int32).toNatClampNeg (6 : Int32).toNatClampNeg) a0 = 39 ∧ sm_Run (d + 1) 150 494 [some (.inr (some a0)), some (.inl x1), z2] [] (sm_putR (sm_new (sm_putR (sm_new (sm_putR (sm_new M 431 (6 : Int32).toNatClampNeg (6 : Int32).toNatClampNeg) a0 57 (some (sm_N M))) 434 (6 : Int32).toNatClampNeg (6 : Int32).toNatClampNeg) a0 58 (some (sm_N (sm_putR (sm_new M 431 (6 : Int32).toNatClampNeg (6 : Int32).toNatClampNeg) a0 57 (some (sm_N M)))))) 437 (6 : Int32).toNatClampNeg (6 : Int32).toNatClampNeg) a0 59 (some (sm_N (sm_putR (sm_new (sm_putR (sm_new M 431 (6 : Int32).toNatClampNeg (6 : Int32).toNatClampNeg) a0 57 (some (sm_N M))) 434 (6 : Int32).toNatClampNeg (6 : Int32).toNatClampNeg) a0 58 (some (sm_N (sm_putR (sm_new M 431 (6 : Int32).toNatClampNeg (6 : Int32).toNatClampNeg) a0 57 (some (sm_N M))))))))) Q) :
    sm_Run (d + 1) 150 470 [some (.inr (some a0)), some (.inl x1), z2] [] M Q := by
  refine ru_go (t := (471, [some (.inr (some a0)), some (.inl x1), z2], [.inr (some a0)], M)) sm_a150_470 rfl rfl rfl ?_
  refine ru_go (t := (473, [some (.inr (some a0)), some (.inl x1), z2], [.inl 6, .inr (some a0)], M)) sm_a150_471 rfl rfl (st_bipush (by decide)) ?_
  refine ru_go (t := (475, [some (.inr (some a0)), some (.inl x1), z2], [.inr (some (sm_N M)), .inr (some a0)], sm_new M 431 (6 : Int32).toNatClampNeg (6 : Int32).toNatClampNeg)) sm_a150_473 rfl rfl (st_newa (by decide)) ?_
  obtain ⟨h_1, h⟩ := h
  refine ru_go (t := (478, [some (.inr (some a0)), some (.inl x1), z2], [], sm_putR (sm_new M 431 (6 : Int32).toNatClampNeg (6 : Int32).toNatClampNeg) a0 57 (some (sm_N M)))) sm_a150_475 rfl rfl (st_putR h_1 rfl) ?_
  refine ru_go (t := (479, [some (.inr (some a0)), some (.inl x1), z2], [.inr (some a0)], sm_putR (sm_new M 431 (6 : Int32).toNatClampNeg (6 : Int32).toNatClampNeg) a0 57 (some (sm_N M)))) sm_a150_478 rfl rfl rfl ?_
  refine ru_go (t := (481, [some (.inr (some a0)), some (.inl x1), z2], [.inl 6, .inr (some a0)], sm_putR (sm_new M 431 (6 : Int32).toNatClampNeg (6 : Int32).toNatClampNeg) a0 57 (some (sm_N M)))) sm_a150_479 rfl rfl (st_bipush (by decide)) ?_
  refine ru_go (t := (483, [some (.inr (some a0)), some (.inl x1), z2], [.inr (some (sm_N (sm_putR (sm_new M 431 (6 : Int32).toNatClampNeg (6 : Int32).toNatClampNeg) a0 57 (some (sm_N M))))), .inr (some a0)], sm_new (sm_putR (sm_new M 431 (6 : Int32).toNatClampNeg (6 : Int32).toNatClampNeg) a0 57 (some (sm_N M))) 434 (6 : Int32).toNatClampNeg (6 : Int32).toNatClampNeg)) sm_a150_481 rfl rfl (st_newa (by decide)) ?_
  obtain ⟨h_2, h⟩ := h
  refine ru_go (t := (486, [some (.inr (some a0)), some (.inl x1), z2], [], sm_putR (sm_new (sm_putR (sm_new M 431 (6 : Int32).toNatClampNeg (6 : Int32).toNatClampNeg) a0 57 (some (sm_N M))) 434 (6 : Int32).toNatClampNeg (6 : Int32).toNatClampNeg) a0 58 (some (sm_N (sm_putR (sm_new M 431 (6 : Int32).toNatClampNeg (6 : Int32).toNatClampNeg) a0 57 (some (sm_N M))))))) sm_a150_483 rfl rfl (st_putR h_2 rfl) ?_
  refine ru_go (t := (487, [some (.inr (some a0)), some (.inl x1), z2], [.inr (some a0)], sm_putR (sm_new (sm_putR (sm_new M 431 (6 : Int32).toNatClampNeg (6 : Int32).toNatClampNeg) a0 57 (some (sm_N M))) 434 (6 : Int32).toNatClampNeg (6 : Int32).toNatClampNeg) a0 58 (some (sm_N (sm_putR (sm_new M 431 (6 : Int32).toNatClampNeg (6 : Int32).toNatClampNeg) a0 57 (some (sm_N M))))))) sm_a150_486 rfl rfl rfl ?_
  refine ru_go (t := (489, [some (.inr (some a0)), some (.inl x1), z2], [.inl 6, .inr (some a0)], sm_putR (sm_new (sm_putR (sm_new M 431 (6 : Int32).toNatClampNeg (6 : Int32).toNatClampNeg) a0 57 (some (sm_N M))) 434 (6 : Int32).toNatClampNeg (6 : Int32).toNatClampNeg) a0 58 (some (sm_N (sm_putR (sm_new M 431 (6 : Int32).toNatClampNeg (6 : Int32).toNatClampNeg) a0 57 (some (sm_N M))))))) sm_a150_487 rfl rfl (st_bipush (by decide)) ?_
  refine ru_go (t := (491, [some (.inr (some a0)), some (.inl x1), z2], [.inr (some (sm_N (sm_putR (sm_new (sm_putR (sm_new M 431 (6 : Int32).toNatClampNeg (6 : Int32).toNatClampNeg) a0 57 (some (sm_N M))) 434 (6 : Int32).toNatClampNeg (6 : Int32).toNatClampNeg) a0 58 (some (sm_N (sm_putR (sm_new M 431 (6 : Int32).toNatClampNeg (6 : Int32).toNatClampNeg) a0 57 (some (sm_N M)))))))), .inr (some a0)], sm_new (sm_putR (sm_new (sm_putR (sm_new M 431 (6 : Int32).toNatClampNeg (6 : Int32).toNatClampNeg) a0 57 (some (sm_N M))) 434 (6 : Int32).toNatClampNeg (6 : Int32).toNatClampNeg) a0 58 (some (sm_N (sm_putR (sm_new M 431 (6 : Int32).toNatClampNeg (6 : Int32).toNatClampNeg) a0 57 (some (sm_N M)))))) 437 (6 : Int32).toNatClampNeg (6 : Int32).toNatClampNeg)) sm_a150_489 rfl rfl (st_newa (by decide)) ?_
  obtain ⟨h_3, h⟩ := h
  refine ru_go (t := (494, [some (.inr (some a0)), some (.inl x1), z2], [], sm_putR (sm_new (sm_putR (sm_new (sm_putR (sm_new M 431 (6 : Int32).toNatClampNeg (6 : Int32).toNatClampNeg) a0 57 (some (sm_N M))) 434 (6 : Int32).toNatClampNeg (6 : Int32).toNatClampNeg) a0 58 (some (sm_N (sm_putR (sm_new M 431 (6 : Int32).toNatClampNeg (6 : Int32).toNatClampNeg) a0 57 (some (sm_N M)))))) 437 (6 : Int32).toNatClampNeg (6 : Int32).toNatClampNeg) a0 59 (some (sm_N (sm_putR (sm_new (sm_putR (sm_new M 431 (6 : Int32).toNatClampNeg (6 : Int32).toNatClampNeg) a0 57 (some (sm_N M))) 434 (6 : Int32).toNatClampNeg (6 : Int32).toNatClampNeg) a0 58 (some (sm_N (sm_putR (sm_new M 431 (6 : Int32).toNatClampNeg (6 : Int32).toNatClampNeg) a0 57 (some (sm_N M)))))))))) sm_a150_491 rfl rfl (st_putR h_3 rfl) ?_
  exact h
theorem bb_150_494 {d : Nat} {M : sm_M} {Q : Option sm_V → sm_M → Prop} {a0 : Nat} {x1 : Int32} {z2 : Option sm_V}
    (h : sm_K (sm_new M 440 (6 : Int32).toNatClampNeg (6 : Int32).toNatClampNeg) a0 = 39 ∧ sm_K (sm_new (sm_putR (sm_new M 440 (6 : Int32).toNatClampNeg (6 : Int32).toNatClampNeg) a0 60 (some (sm_N M))) 443 (6 : Int32).toNatClampNeg (6 : Int32).toNatClampNeg) a0 = 39 ∧ sm_K (sm_new (sm_putR (sm_new (sm_putR (sm_new M 440 (6 : Int32).toNatClampNeg (6 : Int32).toNatClampNeg) a0 60 (some (sm_N M))) 443 (6 : Int32).toNatClampNeg (6 : Int32).toNatClampNeg) a0 61 (some (sm_N (sm_putR (sm_new M 440 (6 : Int32).toNatClampNeg (6 : Int32).toNatClampNeg) a0 60 (some (sm_N M)))))) 446 (60 : Int32).toNatClampNeg (60 : Int32).toNatClampNeg) a0 = 39 ∧ sm_Run (d + 1) 150 518 [some (.inr (some a0)), some (.inl x1), z2] [] (sm_putR (sm_new (sm_putR (sm_new (sm_putR (sm_new M 440 (6 : Int32).toNatClampNeg (6 : Int32).toNatClampNeg) a0 60 (some (sm_N M))) 443 (6 : Int32).toNatClampNeg (6 : Int32).toNatClampNeg) a0 61 (some (sm_N (sm_putR (sm_new M 440 (6 : Int32).toNatClampNeg (6 : Int32).toNatClampNeg) a0 60 (some (sm_N M)))))) 446 (60 : Int32).toNatClampNeg (60 : Int32).toNatClampNeg) a0 62 (some (sm_N (sm_putR (sm_new (sm_putR (sm_new M 440 (6 : Int32).toNatClampNeg (6 : Int32).toNatClampNeg) a0 60 (some (sm_N M))) 443 (6 : Int32).toNatClampNeg (6 : Int32).toNatClampNeg) a0 61 (some (sm_N (sm_putR (sm_new M 440 (6 : Int32).toNatClampNeg (6 : Int32).toNatClampNeg) a0 60 (some (sm_N M))))))))) Q) :
    sm_Run (d + 1) 150 494 [some (.inr (some a0)), some (.inl x1), z2] [] M Q := by
  refine ru_go (t := (495, [some (.inr (some a0)), some (.inl x1), z2], [.inr (some a0)], M)) sm_a150_494 rfl rfl rfl ?_
  refine ru_go (t := (497, [some (.inr (some a0)), some (.inl x1), z2], [.inl 6, .inr (some a0)], M)) sm_a150_495 rfl rfl (st_bipush (by decide)) ?_
  refine ru_go (t := (499, [some (.inr (some a0)), some (.inl x1), z2], [.inr (some (sm_N M)), .inr (some a0)], sm_new M 440 (6 : Int32).toNatClampNeg (6 : Int32).toNatClampNeg)) sm_a150_497 rfl rfl (st_newa (by decide)) ?_
  obtain ⟨h_1, h⟩ := h
  refine ru_go (t := (502, [some (.inr (some a0)), some (.inl x1), z2], [], sm_putR (sm_new M 440 (6 : Int32).toNatClampNeg (6 : Int32).toNatClampNeg) a0 60 (some (sm_N M)))) sm_a150_499 rfl rfl (st_putR h_1 rfl) ?_
  refine ru_go (t := (503, [some (.inr (some a0)), some (.inl x1), z2], [.inr (some a0)], sm_putR (sm_new M 440 (6 : Int32).toNatClampNeg (6 : Int32).toNatClampNeg) a0 60 (some (sm_N M)))) sm_a150_502 rfl rfl rfl ?_
  refine ru_go (t := (505, [some (.inr (some a0)), some (.inl x1), z2], [.inl 6, .inr (some a0)], sm_putR (sm_new M 440 (6 : Int32).toNatClampNeg (6 : Int32).toNatClampNeg) a0 60 (some (sm_N M)))) sm_a150_503 rfl rfl (st_bipush (by decide)) ?_
  refine ru_go (t := (507, [some (.inr (some a0)), some (.inl x1), z2], [.inr (some (sm_N (sm_putR (sm_new M 440 (6 : Int32).toNatClampNeg (6 : Int32).toNatClampNeg) a0 60 (some (sm_N M))))), .inr (some a0)], sm_new (sm_putR (sm_new M 440 (6 : Int32).toNatClampNeg (6 : Int32).toNatClampNeg) a0 60 (some (sm_N M))) 443 (6 : Int32).toNatClampNeg (6 : Int32).toNatClampNeg)) sm_a150_505 rfl rfl (st_newa (by decide)) ?_
  obtain ⟨h_2, h⟩ := h
  refine ru_go (t := (510, [some (.inr (some a0)), some (.inl x1), z2], [], sm_putR (sm_new (sm_putR (sm_new M 440 (6 : Int32).toNatClampNeg (6 : Int32).toNatClampNeg) a0 60 (some (sm_N M))) 443 (6 : Int32).toNatClampNeg (6 : Int32).toNatClampNeg) a0 61 (some (sm_N (sm_putR (sm_new M 440 (6 : Int32).toNatClampNeg (6 : Int32).toNatClampNeg) a0 60 (some (sm_N M))))))) sm_a150_507 rfl rfl (st_putR h_2 rfl) ?_
  refine ru_go (t := (511, [some (.inr (some a0)), some (.inl x1), z2], [.inr (some a0)], sm_putR (sm_new (sm_putR (sm_new M 440 (6 : Int32).toNatClampNeg (6 : Int32).toNatClampNeg) a0 60 (some (sm_N M))) 443 (6 : Int32).toNatClampNeg (6 : Int32).toNatClampNeg) a0 61 (some (sm_N (sm_putR (sm_new M 440 (6 : Int32).toNatClampNeg (6 : Int32).toNatClampNeg) a0 60 (some (sm_N M))))))) sm_a150_510 rfl rfl rfl ?_
  refine ru_go (t := (513, [some (.inr (some a0)), some (.inl x1), z2], [.inl 60, .inr (some a0)], sm_putR (sm_new (sm_putR (sm_new M 440 (6 : Int32).toNatClampNeg (6 : Int32).toNatClampNeg) a0 60 (some (sm_N M))) 443 (6 : Int32).toNatClampNeg (6 : Int32).toNatClampNeg) a0 61 (some (sm_N (sm_putR (sm_new M 440 (6 : Int32).toNatClampNeg (6 : Int32).toNatClampNeg) a0 60 (some (sm_N M))))))) sm_a150_511 rfl rfl (st_bipush (by decide)) ?_
  refine ru_go (t := (515, [some (.inr (some a0)), some (.inl x1), z2], [.inr (some (sm_N (sm_putR (sm_new (sm_putR (sm_new M 440 (6 : Int32).toNatClampNeg (6 : Int32).toNatClampNeg) a0 60 (some (sm_N M))) 443 (6 : Int32).toNatClampNeg (6 : Int32).toNatClampNeg) a0 61 (some (sm_N (sm_putR (sm_new M 440 (6 : Int32).toNatClampNeg (6 : Int32).toNatClampNeg) a0 60 (some (sm_N M)))))))), .inr (some a0)], sm_new (sm_putR (sm_new (sm_putR (sm_new M 440 (6 : Int32).toNatClampNeg (6 : Int32).toNatClampNeg) a0 60 (some (sm_N M))) 443 (6 : Int32).toNatClampNeg (6 : Int32).toNatClampNeg) a0 61 (some (sm_N (sm_putR (sm_new M 440 (6 : Int32).toNatClampNeg (6 : Int32).toNatClampNeg) a0 60 (some (sm_N M)))))) 446 (60 : Int32).toNatClampNeg (60 : Int32).toNatClampNeg)) sm_a150_513 rfl rfl (st_newa (by decide)) ?_
  obtain ⟨h_3, h⟩ := h
  refine ru_go (t := (518, [some (.inr (some a0)), some (.inl x1), z2], [], sm_putR (sm_new (sm_putR (sm_new (sm_putR (sm_new M 440 (6 : Int32).toNatClampNeg (6 : Int32).toNatClampNeg) a0 60 (some (sm_N M))) 443 (6 : Int32).toNatClampNeg (6 : Int32).toNatClampNeg) a0 61 (some (sm_N (sm_putR (sm_new M 440 (6 : Int32).toNatClampNeg (6 : Int32).toNatClampNeg) a0 60 (some (sm_N M)))))) 446 (60 : Int32).toNatClampNeg (60 : Int32).toNatClampNeg) a0 62 (some (sm_N (sm_putR (sm_new (sm_putR (sm_new M 440 (6 : Int32).toNatClampNeg (6 : Int32).toNatClampNeg) a0 60 (some (sm_N M))) 443 (6 : Int32).toNatClampNeg (6 : Int32).toNatClampNeg) a0 61 (some (sm_N (sm_putR (sm_new M 440 (6 : Int32).toNatClampNeg (6 : Int32).toNatClampNeg) a0 60 (some (sm_N M)))))))))) sm_a150_515 rfl rfl (st_putR h_3 rfl) ?_
  exact h
theorem bb_150_518 {d : Nat} {M : sm_M} {Q : Option sm_V → sm_M → Prop} {a0 : Nat} {x1 : Int32} {z2 : Option sm_V}
    (h : sm_K (sm_new M 449 (60 : Int32).toNatClampNeg (60 : Int32).toNatClampNeg) a0 = 39 ∧ sm_K (sm_new (sm_putR (sm_new M 449 (60 : Int32).toNatClampNeg (60 : Int32).toNatClampNeg) a0 63 (some (sm_N M))) 452 (60 : Int32).toNatClampNeg (60 : Int32).toNatClampNeg) a0 = 39 ∧ sm_K (sm_new (sm_putR (sm_new (sm_putR (sm_new M 449 (60 : Int32).toNatClampNeg (60 : Int32).toNatClampNeg) a0 63 (some (sm_N M))) 452 (60 : Int32).toNatClampNeg (60 : Int32).toNatClampNeg) a0 64 (some (sm_N (sm_putR (sm_new M 449 (60 : Int32).toNatClampNeg (60 : Int32).toNatClampNeg) a0 63 (some (sm_N M)))))) 455 (60 : Int32).toNatClampNeg (60 : Int32).toNatClampNeg) a0 = 39 ∧ sm_Run (d + 1) 150 542 [some (.inr (some a0)), some (.inl x1), z2] [] (sm_putR (sm_new (sm_putR (sm_new (sm_putR (sm_new M 449 (60 : Int32).toNatClampNeg (60 : Int32).toNatClampNeg) a0 63 (some (sm_N M))) 452 (60 : Int32).toNatClampNeg (60 : Int32).toNatClampNeg) a0 64 (some (sm_N (sm_putR (sm_new M 449 (60 : Int32).toNatClampNeg (60 : Int32).toNatClampNeg) a0 63 (some (sm_N M)))))) 455 (60 : Int32).toNatClampNeg (60 : Int32).toNatClampNeg) a0 65 (some (sm_N (sm_putR (sm_new (sm_putR (sm_new M 449 (60 : Int32).toNatClampNeg (60 : Int32).toNatClampNeg) a0 63 (some (sm_N M))) 452 (60 : Int32).toNatClampNeg (60 : Int32).toNatClampNeg) a0 64 (some (sm_N (sm_putR (sm_new M 449 (60 : Int32).toNatClampNeg (60 : Int32).toNatClampNeg) a0 63 (some (sm_N M))))))))) Q) :
    sm_Run (d + 1) 150 518 [some (.inr (some a0)), some (.inl x1), z2] [] M Q := by
  refine ru_go (t := (519, [some (.inr (some a0)), some (.inl x1), z2], [.inr (some a0)], M)) sm_a150_518 rfl rfl rfl ?_
  refine ru_go (t := (521, [some (.inr (some a0)), some (.inl x1), z2], [.inl 60, .inr (some a0)], M)) sm_a150_519 rfl rfl (st_bipush (by decide)) ?_
  refine ru_go (t := (523, [some (.inr (some a0)), some (.inl x1), z2], [.inr (some (sm_N M)), .inr (some a0)], sm_new M 449 (60 : Int32).toNatClampNeg (60 : Int32).toNatClampNeg)) sm_a150_521 rfl rfl (st_newa (by decide)) ?_
  obtain ⟨h_1, h⟩ := h
  refine ru_go (t := (526, [some (.inr (some a0)), some (.inl x1), z2], [], sm_putR (sm_new M 449 (60 : Int32).toNatClampNeg (60 : Int32).toNatClampNeg) a0 63 (some (sm_N M)))) sm_a150_523 rfl rfl (st_putR h_1 rfl) ?_
  refine ru_go (t := (527, [some (.inr (some a0)), some (.inl x1), z2], [.inr (some a0)], sm_putR (sm_new M 449 (60 : Int32).toNatClampNeg (60 : Int32).toNatClampNeg) a0 63 (some (sm_N M)))) sm_a150_526 rfl rfl rfl ?_
  refine ru_go (t := (529, [some (.inr (some a0)), some (.inl x1), z2], [.inl 60, .inr (some a0)], sm_putR (sm_new M 449 (60 : Int32).toNatClampNeg (60 : Int32).toNatClampNeg) a0 63 (some (sm_N M)))) sm_a150_527 rfl rfl (st_bipush (by decide)) ?_
  refine ru_go (t := (531, [some (.inr (some a0)), some (.inl x1), z2], [.inr (some (sm_N (sm_putR (sm_new M 449 (60 : Int32).toNatClampNeg (60 : Int32).toNatClampNeg) a0 63 (some (sm_N M))))), .inr (some a0)], sm_new (sm_putR (sm_new M 449 (60 : Int32).toNatClampNeg (60 : Int32).toNatClampNeg) a0 63 (some (sm_N M))) 452 (60 : Int32).toNatClampNeg (60 : Int32).toNatClampNeg)) sm_a150_529 rfl rfl (st_newa (by decide)) ?_
  obtain ⟨h_2, h⟩ := h
  refine ru_go (t := (534, [some (.inr (some a0)), some (.inl x1), z2], [], sm_putR (sm_new (sm_putR (sm_new M 449 (60 : Int32).toNatClampNeg (60 : Int32).toNatClampNeg) a0 63 (some (sm_N M))) 452 (60 : Int32).toNatClampNeg (60 : Int32).toNatClampNeg) a0 64 (some (sm_N (sm_putR (sm_new M 449 (60 : Int32).toNatClampNeg (60 : Int32).toNatClampNeg) a0 63 (some (sm_N M))))))) sm_a150_531 rfl rfl (st_putR h_2 rfl) ?_
  refine ru_go (t := (535, [some (.inr (some a0)), some (.inl x1), z2], [.inr (some a0)], sm_putR (sm_new (sm_putR (sm_new M 449 (60 : Int32).toNatClampNeg (60 : Int32).toNatClampNeg) a0 63 (some (sm_N M))) 452 (60 : Int32).toNatClampNeg (60 : Int32).toNatClampNeg) a0 64 (some (sm_N (sm_putR (sm_new M 449 (60 : Int32).toNatClampNeg (60 : Int32).toNatClampNeg) a0 63 (some (sm_N M))))))) sm_a150_534 rfl rfl rfl ?_
  refine ru_go (t := (537, [some (.inr (some a0)), some (.inl x1), z2], [.inl 60, .inr (some a0)], sm_putR (sm_new (sm_putR (sm_new M 449 (60 : Int32).toNatClampNeg (60 : Int32).toNatClampNeg) a0 63 (some (sm_N M))) 452 (60 : Int32).toNatClampNeg (60 : Int32).toNatClampNeg) a0 64 (some (sm_N (sm_putR (sm_new M 449 (60 : Int32).toNatClampNeg (60 : Int32).toNatClampNeg) a0 63 (some (sm_N M))))))) sm_a150_535 rfl rfl (st_bipush (by decide)) ?_
  refine ru_go (t := (539, [some (.inr (some a0)), some (.inl x1), z2], [.inr (some (sm_N (sm_putR (sm_new (sm_putR (sm_new M 449 (60 : Int32).toNatClampNeg (60 : Int32).toNatClampNeg) a0 63 (some (sm_N M))) 452 (60 : Int32).toNatClampNeg (60 : Int32).toNatClampNeg) a0 64 (some (sm_N (sm_putR (sm_new M 449 (60 : Int32).toNatClampNeg (60 : Int32).toNatClampNeg) a0 63 (some (sm_N M)))))))), .inr (some a0)], sm_new (sm_putR (sm_new (sm_putR (sm_new M 449 (60 : Int32).toNatClampNeg (60 : Int32).toNatClampNeg) a0 63 (some (sm_N M))) 452 (60 : Int32).toNatClampNeg (60 : Int32).toNatClampNeg) a0 64 (some (sm_N (sm_putR (sm_new M 449 (60 : Int32).toNatClampNeg (60 : Int32).toNatClampNeg) a0 63 (some (sm_N M)))))) 455 (60 : Int32).toNatClampNeg (60 : Int32).toNatClampNeg)) sm_a150_537 rfl rfl (st_newa (by decide)) ?_
  obtain ⟨h_3, h⟩ := h
  refine ru_go (t := (542, [some (.inr (some a0)), some (.inl x1), z2], [], sm_putR (sm_new (sm_putR (sm_new (sm_putR (sm_new M 449 (60 : Int32).toNatClampNeg (60 : Int32).toNatClampNeg) a0 63 (some (sm_N M))) 452 (60 : Int32).toNatClampNeg (60 : Int32).toNatClampNeg) a0 64 (some (sm_N (sm_putR (sm_new M 449 (60 : Int32).toNatClampNeg (60 : Int32).toNatClampNeg) a0 63 (some (sm_N M)))))) 455 (60 : Int32).toNatClampNeg (60 : Int32).toNatClampNeg) a0 65 (some (sm_N (sm_putR (sm_new (sm_putR (sm_new M 449 (60 : Int32).toNatClampNeg (60 : Int32).toNatClampNeg) a0 63 (some (sm_N M))) 452 (60 : Int32).toNatClampNeg (60 : Int32).toNatClampNeg) a0 64 (some (sm_N (sm_putR (sm_new M 449 (60 : Int32).toNatClampNeg (60 : Int32).toNatClampNeg) a0 63 (some (sm_N M)))))))))) sm_a150_539 rfl rfl (st_putR h_3 rfl) ?_
  exact h
theorem bb_150_542 {d : Nat} {M : sm_M} {Q : Option sm_V → sm_M → Prop} {a0 : Nat} {x1 : Int32} {z2 : Option sm_V}
    (h : sm_K (sm_new M 458 (60 : Int32).toNatClampNeg (60 : Int32).toNatClampNeg) a0 = 39 ∧ sm_K (sm_new (sm_putR (sm_new M 458 (60 : Int32).toNatClampNeg (60 : Int32).toNatClampNeg) a0 66 (some (sm_N M))) 611 (60 : Int32).toNatClampNeg (60 : Int32).toNatClampNeg) a0 = 39 ∧ sm_K (sm_new (sm_putR (sm_new (sm_putR (sm_new M 458 (60 : Int32).toNatClampNeg (60 : Int32).toNatClampNeg) a0 66 (some (sm_N M))) 611 (60 : Int32).toNatClampNeg (60 : Int32).toNatClampNeg) a0 67 (some (sm_N (sm_putR (sm_new M 458 (60 : Int32).toNatClampNeg (60 : Int32).toNatClampNeg) a0 66 (some (sm_N M)))))) 614 (60 : Int32).toNatClampNeg (60 : Int32).toNatClampNeg) a0 = 39 ∧ sm_Run (d + 1) 150 566 [some (.inr (some a0)), some (.inl x1), z2] [] (sm_putR (sm_new (sm_putR (sm_new (sm_putR (sm_new M 458 (60 : Int32).toNatClampNeg (60 : Int32).toNatClampNeg) a0 66 (some (sm_N M))) 611 (60 : Int32).toNatClampNeg (60 : Int32).toNatClampNeg) a0 67 (some (sm_N (sm_putR (sm_new M 458 (60 : Int32).toNatClampNeg (60 : Int32).toNatClampNeg) a0 66 (some (sm_N M)))))) 614 (60 : Int32).toNatClampNeg (60 : Int32).toNatClampNeg) a0 68 (some (sm_N (sm_putR (sm_new (sm_putR (sm_new M 458 (60 : Int32).toNatClampNeg (60 : Int32).toNatClampNeg) a0 66 (some (sm_N M))) 611 (60 : Int32).toNatClampNeg (60 : Int32).toNatClampNeg) a0 67 (some (sm_N (sm_putR (sm_new M 458 (60 : Int32).toNatClampNeg (60 : Int32).toNatClampNeg) a0 66 (some (sm_N M))))))))) Q) :
    sm_Run (d + 1) 150 542 [some (.inr (some a0)), some (.inl x1), z2] [] M Q := by
  refine ru_go (t := (543, [some (.inr (some a0)), some (.inl x1), z2], [.inr (some a0)], M)) sm_a150_542 rfl rfl rfl ?_
  refine ru_go (t := (545, [some (.inr (some a0)), some (.inl x1), z2], [.inl 60, .inr (some a0)], M)) sm_a150_543 rfl rfl (st_bipush (by decide)) ?_
  refine ru_go (t := (547, [some (.inr (some a0)), some (.inl x1), z2], [.inr (some (sm_N M)), .inr (some a0)], sm_new M 458 (60 : Int32).toNatClampNeg (60 : Int32).toNatClampNeg)) sm_a150_545 rfl rfl (st_newa (by decide)) ?_
  obtain ⟨h_1, h⟩ := h
  refine ru_go (t := (550, [some (.inr (some a0)), some (.inl x1), z2], [], sm_putR (sm_new M 458 (60 : Int32).toNatClampNeg (60 : Int32).toNatClampNeg) a0 66 (some (sm_N M)))) sm_a150_547 rfl rfl (st_putR h_1 rfl) ?_
  refine ru_go (t := (551, [some (.inr (some a0)), some (.inl x1), z2], [.inr (some a0)], sm_putR (sm_new M 458 (60 : Int32).toNatClampNeg (60 : Int32).toNatClampNeg) a0 66 (some (sm_N M)))) sm_a150_550 rfl rfl rfl ?_
  refine ru_go (t := (553, [some (.inr (some a0)), some (.inl x1), z2], [.inl 60, .inr (some a0)], sm_putR (sm_new M 458 (60 : Int32).toNatClampNeg (60 : Int32).toNatClampNeg) a0 66 (some (sm_N M)))) sm_a150_551 rfl rfl (st_bipush (by decide)) ?_
  refine ru_go (t := (555, [some (.inr (some a0)), some (.inl x1), z2], [.inr (some (sm_N (sm_putR (sm_new M 458 (60 : Int32).toNatClampNeg (60 : Int32).toNatClampNeg) a0 66 (some (sm_N M))))), .inr (some a0)], sm_new (sm_putR (sm_new M 458 (60 : Int32).toNatClampNeg (60 : Int32).toNatClampNeg) a0 66 (some (sm_N M))) 611 (60 : Int32).toNatClampNeg (60 : Int32).toNatClampNeg)) sm_a150_553 rfl rfl (st_newa (by decide)) ?_
  obtain ⟨h_2, h⟩ := h
  refine ru_go (t := (558, [some (.inr (some a0)), some (.inl x1), z2], [], sm_putR (sm_new (sm_putR (sm_new M 458 (60 : Int32).toNatClampNeg (60 : Int32).toNatClampNeg) a0 66 (some (sm_N M))) 611 (60 : Int32).toNatClampNeg (60 : Int32).toNatClampNeg) a0 67 (some (sm_N (sm_putR (sm_new M 458 (60 : Int32).toNatClampNeg (60 : Int32).toNatClampNeg) a0 66 (some (sm_N M))))))) sm_a150_555 rfl rfl (st_putR h_2 rfl) ?_
  refine ru_go (t := (559, [some (.inr (some a0)), some (.inl x1), z2], [.inr (some a0)], sm_putR (sm_new (sm_putR (sm_new M 458 (60 : Int32).toNatClampNeg (60 : Int32).toNatClampNeg) a0 66 (some (sm_N M))) 611 (60 : Int32).toNatClampNeg (60 : Int32).toNatClampNeg) a0 67 (some (sm_N (sm_putR (sm_new M 458 (60 : Int32).toNatClampNeg (60 : Int32).toNatClampNeg) a0 66 (some (sm_N M))))))) sm_a150_558 rfl rfl rfl ?_
  refine ru_go (t := (561, [some (.inr (some a0)), some (.inl x1), z2], [.inl 60, .inr (some a0)], sm_putR (sm_new (sm_putR (sm_new M 458 (60 : Int32).toNatClampNeg (60 : Int32).toNatClampNeg) a0 66 (some (sm_N M))) 611 (60 : Int32).toNatClampNeg (60 : Int32).toNatClampNeg) a0 67 (some (sm_N (sm_putR (sm_new M 458 (60 : Int32).toNatClampNeg (60 : Int32).toNatClampNeg) a0 66 (some (sm_N M))))))) sm_a150_559 rfl rfl (st_bipush (by decide)) ?_
  refine ru_go (t := (563, [some (.inr (some a0)), some (.inl x1), z2], [.inr (some (sm_N (sm_putR (sm_new (sm_putR (sm_new M 458 (60 : Int32).toNatClampNeg (60 : Int32).toNatClampNeg) a0 66 (some (sm_N M))) 611 (60 : Int32).toNatClampNeg (60 : Int32).toNatClampNeg) a0 67 (some (sm_N (sm_putR (sm_new M 458 (60 : Int32).toNatClampNeg (60 : Int32).toNatClampNeg) a0 66 (some (sm_N M)))))))), .inr (some a0)], sm_new (sm_putR (sm_new (sm_putR (sm_new M 458 (60 : Int32).toNatClampNeg (60 : Int32).toNatClampNeg) a0 66 (some (sm_N M))) 611 (60 : Int32).toNatClampNeg (60 : Int32).toNatClampNeg) a0 67 (some (sm_N (sm_putR (sm_new M 458 (60 : Int32).toNatClampNeg (60 : Int32).toNatClampNeg) a0 66 (some (sm_N M)))))) 614 (60 : Int32).toNatClampNeg (60 : Int32).toNatClampNeg)) sm_a150_561 rfl rfl (st_newa (by decide)) ?_
  obtain ⟨h_3, h⟩ := h
  refine ru_go (t := (566, [some (.inr (some a0)), some (.inl x1), z2], [], sm_putR (sm_new (sm_putR (sm_new (sm_putR (sm_new M 458 (60 : Int32).toNatClampNeg (60 : Int32).toNatClampNeg) a0 66 (some (sm_N M))) 611 (60 : Int32).toNatClampNeg (60 : Int32).toNatClampNeg) a0 67 (some (sm_N (sm_putR (sm_new M 458 (60 : Int32).toNatClampNeg (60 : Int32).toNatClampNeg) a0 66 (some (sm_N M)))))) 614 (60 : Int32).toNatClampNeg (60 : Int32).toNatClampNeg) a0 68 (some (sm_N (sm_putR (sm_new (sm_putR (sm_new M 458 (60 : Int32).toNatClampNeg (60 : Int32).toNatClampNeg) a0 66 (some (sm_N M))) 611 (60 : Int32).toNatClampNeg (60 : Int32).toNatClampNeg) a0 67 (some (sm_N (sm_putR (sm_new M 458 (60 : Int32).toNatClampNeg (60 : Int32).toNatClampNeg) a0 66 (some (sm_N M)))))))))) sm_a150_563 rfl rfl (st_putR h_3 rfl) ?_
  exact h
theorem bb_150_566 {d : Nat} {M : sm_M} {Q : Option sm_V → sm_M → Prop} {a0 : Nat} {x1 : Int32} {z2 : Option sm_V}
    (h : sm_K (sm_new M 461 (400 : Int32).toNatClampNeg (400 : Int32).toNatClampNeg) a0 = 39 ∧ sm_K (sm_new (sm_putR (sm_new M 461 (400 : Int32).toNatClampNeg (400 : Int32).toNatClampNeg) a0 71 (some (sm_N M))) 464 (400 : Int32).toNatClampNeg (400 : Int32).toNatClampNeg) a0 = 39 ∧ sm_K (sm_new (sm_putR (sm_new (sm_putR (sm_new M 461 (400 : Int32).toNatClampNeg (400 : Int32).toNatClampNeg) a0 71 (some (sm_N M))) 464 (400 : Int32).toNatClampNeg (400 : Int32).toNatClampNeg) a0 72 (some (sm_N (sm_putR (sm_new M 461 (400 : Int32).toNatClampNeg (400 : Int32).toNatClampNeg) a0 71 (some (sm_N M)))))) 467 (400 : Int32).toNatClampNeg (400 : Int32).toNatClampNeg) a0 = 39 ∧ sm_Run (d + 1) 150 593 [some (.inr (some a0)), some (.inl x1), z2] [] (sm_putR (sm_new (sm_putR (sm_new (sm_putR (sm_new M 461 (400 : Int32).toNatClampNeg (400 : Int32).toNatClampNeg) a0 71 (some (sm_N M))) 464 (400 : Int32).toNatClampNeg (400 : Int32).toNatClampNeg) a0 72 (some (sm_N (sm_putR (sm_new M 461 (400 : Int32).toNatClampNeg (400 : Int32).toNatClampNeg) a0 71 (some (sm_N M)))))) 467 (400 : Int32).toNatClampNeg (400 : Int32).toNatClampNeg) a0 73 (some (sm_N (sm_putR (sm_new (sm_putR (sm_new M 461 (400 : Int32).toNatClampNeg (400 : Int32).toNatClampNeg) a0 71 (some (sm_N M))) 464 (400 : Int32).toNatClampNeg (400 : Int32).toNatClampNeg) a0 72 (some (sm_N (sm_putR (sm_new M 461 (400 : Int32).toNatClampNeg (400 : Int32).toNatClampNeg) a0 71 (some (sm_N M))))))))) Q) :
    sm_Run (d + 1) 150 566 [some (.inr (some a0)), some (.inl x1), z2] [] M Q := by
  refine ru_go (t := (567, [some (.inr (some a0)), some (.inl x1), z2], [.inr (some a0)], M)) sm_a150_566 rfl rfl rfl ?_
  refine ru_go (t := (570, [some (.inr (some a0)), some (.inl x1), z2], [.inl 400, .inr (some a0)], M)) sm_a150_567 rfl rfl (st_sipush (by decide)) ?_
  refine ru_go (t := (572, [some (.inr (some a0)), some (.inl x1), z2], [.inr (some (sm_N M)), .inr (some a0)], sm_new M 461 (400 : Int32).toNatClampNeg (400 : Int32).toNatClampNeg)) sm_a150_570 rfl rfl (st_newa (by decide)) ?_
  obtain ⟨h_1, h⟩ := h
  refine ru_go (t := (575, [some (.inr (some a0)), some (.inl x1), z2], [], sm_putR (sm_new M 461 (400 : Int32).toNatClampNeg (400 : Int32).toNatClampNeg) a0 71 (some (sm_N M)))) sm_a150_572 rfl rfl (st_putR h_1 rfl) ?_
  refine ru_go (t := (576, [some (.inr (some a0)), some (.inl x1), z2], [.inr (some a0)], sm_putR (sm_new M 461 (400 : Int32).toNatClampNeg (400 : Int32).toNatClampNeg) a0 71 (some (sm_N M)))) sm_a150_575 rfl rfl rfl ?_
  refine ru_go (t := (579, [some (.inr (some a0)), some (.inl x1), z2], [.inl 400, .inr (some a0)], sm_putR (sm_new M 461 (400 : Int32).toNatClampNeg (400 : Int32).toNatClampNeg) a0 71 (some (sm_N M)))) sm_a150_576 rfl rfl (st_sipush (by decide)) ?_
  refine ru_go (t := (581, [some (.inr (some a0)), some (.inl x1), z2], [.inr (some (sm_N (sm_putR (sm_new M 461 (400 : Int32).toNatClampNeg (400 : Int32).toNatClampNeg) a0 71 (some (sm_N M))))), .inr (some a0)], sm_new (sm_putR (sm_new M 461 (400 : Int32).toNatClampNeg (400 : Int32).toNatClampNeg) a0 71 (some (sm_N M))) 464 (400 : Int32).toNatClampNeg (400 : Int32).toNatClampNeg)) sm_a150_579 rfl rfl (st_newa (by decide)) ?_
  obtain ⟨h_2, h⟩ := h
  refine ru_go (t := (584, [some (.inr (some a0)), some (.inl x1), z2], [], sm_putR (sm_new (sm_putR (sm_new M 461 (400 : Int32).toNatClampNeg (400 : Int32).toNatClampNeg) a0 71 (some (sm_N M))) 464 (400 : Int32).toNatClampNeg (400 : Int32).toNatClampNeg) a0 72 (some (sm_N (sm_putR (sm_new M 461 (400 : Int32).toNatClampNeg (400 : Int32).toNatClampNeg) a0 71 (some (sm_N M))))))) sm_a150_581 rfl rfl (st_putR h_2 rfl) ?_
  refine ru_go (t := (585, [some (.inr (some a0)), some (.inl x1), z2], [.inr (some a0)], sm_putR (sm_new (sm_putR (sm_new M 461 (400 : Int32).toNatClampNeg (400 : Int32).toNatClampNeg) a0 71 (some (sm_N M))) 464 (400 : Int32).toNatClampNeg (400 : Int32).toNatClampNeg) a0 72 (some (sm_N (sm_putR (sm_new M 461 (400 : Int32).toNatClampNeg (400 : Int32).toNatClampNeg) a0 71 (some (sm_N M))))))) sm_a150_584 rfl rfl rfl ?_
  refine ru_go (t := (588, [some (.inr (some a0)), some (.inl x1), z2], [.inl 400, .inr (some a0)], sm_putR (sm_new (sm_putR (sm_new M 461 (400 : Int32).toNatClampNeg (400 : Int32).toNatClampNeg) a0 71 (some (sm_N M))) 464 (400 : Int32).toNatClampNeg (400 : Int32).toNatClampNeg) a0 72 (some (sm_N (sm_putR (sm_new M 461 (400 : Int32).toNatClampNeg (400 : Int32).toNatClampNeg) a0 71 (some (sm_N M))))))) sm_a150_585 rfl rfl (st_sipush (by decide)) ?_
  refine ru_go (t := (590, [some (.inr (some a0)), some (.inl x1), z2], [.inr (some (sm_N (sm_putR (sm_new (sm_putR (sm_new M 461 (400 : Int32).toNatClampNeg (400 : Int32).toNatClampNeg) a0 71 (some (sm_N M))) 464 (400 : Int32).toNatClampNeg (400 : Int32).toNatClampNeg) a0 72 (some (sm_N (sm_putR (sm_new M 461 (400 : Int32).toNatClampNeg (400 : Int32).toNatClampNeg) a0 71 (some (sm_N M)))))))), .inr (some a0)], sm_new (sm_putR (sm_new (sm_putR (sm_new M 461 (400 : Int32).toNatClampNeg (400 : Int32).toNatClampNeg) a0 71 (some (sm_N M))) 464 (400 : Int32).toNatClampNeg (400 : Int32).toNatClampNeg) a0 72 (some (sm_N (sm_putR (sm_new M 461 (400 : Int32).toNatClampNeg (400 : Int32).toNatClampNeg) a0 71 (some (sm_N M)))))) 467 (400 : Int32).toNatClampNeg (400 : Int32).toNatClampNeg)) sm_a150_588 rfl rfl (st_newa (by decide)) ?_
  obtain ⟨h_3, h⟩ := h
  refine ru_go (t := (593, [some (.inr (some a0)), some (.inl x1), z2], [], sm_putR (sm_new (sm_putR (sm_new (sm_putR (sm_new M 461 (400 : Int32).toNatClampNeg (400 : Int32).toNatClampNeg) a0 71 (some (sm_N M))) 464 (400 : Int32).toNatClampNeg (400 : Int32).toNatClampNeg) a0 72 (some (sm_N (sm_putR (sm_new M 461 (400 : Int32).toNatClampNeg (400 : Int32).toNatClampNeg) a0 71 (some (sm_N M)))))) 467 (400 : Int32).toNatClampNeg (400 : Int32).toNatClampNeg) a0 73 (some (sm_N (sm_putR (sm_new (sm_putR (sm_new M 461 (400 : Int32).toNatClampNeg (400 : Int32).toNatClampNeg) a0 71 (some (sm_N M))) 464 (400 : Int32).toNatClampNeg (400 : Int32).toNatClampNeg) a0 72 (some (sm_N (sm_putR (sm_new M 461 (400 : Int32).toNatClampNeg (400 : Int32).toNatClampNeg) a0 71 (some (sm_N M)))))))))) sm_a150_590 rfl rfl (st_putR h_3 rfl) ?_
  exact h
theorem bb_150_593 {d : Nat} {M : sm_M} {Q : Option sm_V → sm_M → Prop} {a0 : Nat} {x1 : Int32} {z2 : Option sm_V}
    (h : sm_K (sm_new M 470 (400 : Int32).toNatClampNeg (400 : Int32).toNatClampNeg) a0 = 39 ∧ sm_K (sm_new (sm_putR (sm_new M 470 (400 : Int32).toNatClampNeg (400 : Int32).toNatClampNeg) a0 74 (some (sm_N M))) 473 (400 : Int32).toNatClampNeg (400 : Int32).toNatClampNeg) a0 = 39 ∧ sm_K (sm_new (sm_putR (sm_new (sm_putR (sm_new M 470 (400 : Int32).toNatClampNeg (400 : Int32).toNatClampNeg) a0 74 (some (sm_N M))) 473 (400 : Int32).toNatClampNeg (400 : Int32).toNatClampNeg) a0 75 (some (sm_N (sm_putR (sm_new M 470 (400 : Int32).toNatClampNeg (400 : Int32).toNatClampNeg) a0 74 (some (sm_N M)))))) 476 (400 : Int32).toNatClampNeg (400 : Int32).toNatClampNeg) a0 = 39 ∧ sm_Run (d + 1) 150 620 [some (.inr (some a0)), some (.inl x1), z2] [] (sm_putR (sm_new (sm_putR (sm_new (sm_putR (sm_new M 470 (400 : Int32).toNatClampNeg (400 : Int32).toNatClampNeg) a0 74 (some (sm_N M))) 473 (400 : Int32).toNatClampNeg (400 : Int32).toNatClampNeg) a0 75 (some (sm_N (sm_putR (sm_new M 470 (400 : Int32).toNatClampNeg (400 : Int32).toNatClampNeg) a0 74 (some (sm_N M)))))) 476 (400 : Int32).toNatClampNeg (400 : Int32).toNatClampNeg) a0 76 (some (sm_N (sm_putR (sm_new (sm_putR (sm_new M 470 (400 : Int32).toNatClampNeg (400 : Int32).toNatClampNeg) a0 74 (some (sm_N M))) 473 (400 : Int32).toNatClampNeg (400 : Int32).toNatClampNeg) a0 75 (some (sm_N (sm_putR (sm_new M 470 (400 : Int32).toNatClampNeg (400 : Int32).toNatClampNeg) a0 74 (some (sm_N M))))))))) Q) :
    sm_Run (d + 1) 150 593 [some (.inr (some a0)), some (.inl x1), z2] [] M Q := by
  refine ru_go (t := (594, [some (.inr (some a0)), some (.inl x1), z2], [.inr (some a0)], M)) sm_a150_593 rfl rfl rfl ?_
  refine ru_go (t := (597, [some (.inr (some a0)), some (.inl x1), z2], [.inl 400, .inr (some a0)], M)) sm_a150_594 rfl rfl (st_sipush (by decide)) ?_
  refine ru_go (t := (599, [some (.inr (some a0)), some (.inl x1), z2], [.inr (some (sm_N M)), .inr (some a0)], sm_new M 470 (400 : Int32).toNatClampNeg (400 : Int32).toNatClampNeg)) sm_a150_597 rfl rfl (st_newa (by decide)) ?_
  obtain ⟨h_1, h⟩ := h
  refine ru_go (t := (602, [some (.inr (some a0)), some (.inl x1), z2], [], sm_putR (sm_new M 470 (400 : Int32).toNatClampNeg (400 : Int32).toNatClampNeg) a0 74 (some (sm_N M)))) sm_a150_599 rfl rfl (st_putR h_1 rfl) ?_
  refine ru_go (t := (603, [some (.inr (some a0)), some (.inl x1), z2], [.inr (some a0)], sm_putR (sm_new M 470 (400 : Int32).toNatClampNeg (400 : Int32).toNatClampNeg) a0 74 (some (sm_N M)))) sm_a150_602 rfl rfl rfl ?_
  refine ru_go (t := (606, [some (.inr (some a0)), some (.inl x1), z2], [.inl 400, .inr (some a0)], sm_putR (sm_new M 470 (400 : Int32).toNatClampNeg (400 : Int32).toNatClampNeg) a0 74 (some (sm_N M)))) sm_a150_603 rfl rfl (st_sipush (by decide)) ?_
  refine ru_go (t := (608, [some (.inr (some a0)), some (.inl x1), z2], [.inr (some (sm_N (sm_putR (sm_new M 470 (400 : Int32).toNatClampNeg (400 : Int32).toNatClampNeg) a0 74 (some (sm_N M))))), .inr (some a0)], sm_new (sm_putR (sm_new M 470 (400 : Int32).toNatClampNeg (400 : Int32).toNatClampNeg) a0 74 (some (sm_N M))) 473 (400 : Int32).toNatClampNeg (400 : Int32).toNatClampNeg)) sm_a150_606 rfl rfl (st_newa (by decide)) ?_
  obtain ⟨h_2, h⟩ := h
  refine ru_go (t := (611, [some (.inr (some a0)), some (.inl x1), z2], [], sm_putR (sm_new (sm_putR (sm_new M 470 (400 : Int32).toNatClampNeg (400 : Int32).toNatClampNeg) a0 74 (some (sm_N M))) 473 (400 : Int32).toNatClampNeg (400 : Int32).toNatClampNeg) a0 75 (some (sm_N (sm_putR (sm_new M 470 (400 : Int32).toNatClampNeg (400 : Int32).toNatClampNeg) a0 74 (some (sm_N M))))))) sm_a150_608 rfl rfl (st_putR h_2 rfl) ?_
  refine ru_go (t := (612, [some (.inr (some a0)), some (.inl x1), z2], [.inr (some a0)], sm_putR (sm_new (sm_putR (sm_new M 470 (400 : Int32).toNatClampNeg (400 : Int32).toNatClampNeg) a0 74 (some (sm_N M))) 473 (400 : Int32).toNatClampNeg (400 : Int32).toNatClampNeg) a0 75 (some (sm_N (sm_putR (sm_new M 470 (400 : Int32).toNatClampNeg (400 : Int32).toNatClampNeg) a0 74 (some (sm_N M))))))) sm_a150_611 rfl rfl rfl ?_
  refine ru_go (t := (615, [some (.inr (some a0)), some (.inl x1), z2], [.inl 400, .inr (some a0)], sm_putR (sm_new (sm_putR (sm_new M 470 (400 : Int32).toNatClampNeg (400 : Int32).toNatClampNeg) a0 74 (some (sm_N M))) 473 (400 : Int32).toNatClampNeg (400 : Int32).toNatClampNeg) a0 75 (some (sm_N (sm_putR (sm_new M 470 (400 : Int32).toNatClampNeg (400 : Int32).toNatClampNeg) a0 74 (some (sm_N M))))))) sm_a150_612 rfl rfl (st_sipush (by decide)) ?_
  refine ru_go (t := (617, [some (.inr (some a0)), some (.inl x1), z2], [.inr (some (sm_N (sm_putR (sm_new (sm_putR (sm_new M 470 (400 : Int32).toNatClampNeg (400 : Int32).toNatClampNeg) a0 74 (some (sm_N M))) 473 (400 : Int32).toNatClampNeg (400 : Int32).toNatClampNeg) a0 75 (some (sm_N (sm_putR (sm_new M 470 (400 : Int32).toNatClampNeg (400 : Int32).toNatClampNeg) a0 74 (some (sm_N M)))))))), .inr (some a0)], sm_new (sm_putR (sm_new (sm_putR (sm_new M 470 (400 : Int32).toNatClampNeg (400 : Int32).toNatClampNeg) a0 74 (some (sm_N M))) 473 (400 : Int32).toNatClampNeg (400 : Int32).toNatClampNeg) a0 75 (some (sm_N (sm_putR (sm_new M 470 (400 : Int32).toNatClampNeg (400 : Int32).toNatClampNeg) a0 74 (some (sm_N M)))))) 476 (400 : Int32).toNatClampNeg (400 : Int32).toNatClampNeg)) sm_a150_615 rfl rfl (st_newa (by decide)) ?_
  obtain ⟨h_3, h⟩ := h
  refine ru_go (t := (620, [some (.inr (some a0)), some (.inl x1), z2], [], sm_putR (sm_new (sm_putR (sm_new (sm_putR (sm_new M 470 (400 : Int32).toNatClampNeg (400 : Int32).toNatClampNeg) a0 74 (some (sm_N M))) 473 (400 : Int32).toNatClampNeg (400 : Int32).toNatClampNeg) a0 75 (some (sm_N (sm_putR (sm_new M 470 (400 : Int32).toNatClampNeg (400 : Int32).toNatClampNeg) a0 74 (some (sm_N M)))))) 476 (400 : Int32).toNatClampNeg (400 : Int32).toNatClampNeg) a0 76 (some (sm_N (sm_putR (sm_new (sm_putR (sm_new M 470 (400 : Int32).toNatClampNeg (400 : Int32).toNatClampNeg) a0 74 (some (sm_N M))) 473 (400 : Int32).toNatClampNeg (400 : Int32).toNatClampNeg) a0 75 (some (sm_N (sm_putR (sm_new M 470 (400 : Int32).toNatClampNeg (400 : Int32).toNatClampNeg) a0 74 (some (sm_N M)))))))))) sm_a150_617 rfl rfl (st_putR h_3 rfl) ?_
  exact h
theorem bb_150_620 {d : Nat} {M : sm_M} {Q : Option sm_V → sm_M → Prop} {a0 : Nat} {x1 : Int32} {z2 : Option sm_V}
    (h : sm_K (sm_new M 479 (400 : Int32).toNatClampNeg (400 : Int32).toNatClampNeg) a0 = 39 ∧ sm_K (sm_new (sm_putR (sm_new M 479 (400 : Int32).toNatClampNeg (400 : Int32).toNatClampNeg) a0 77 (some (sm_N M))) 482 (400 : Int32).toNatClampNeg (400 : Int32).toNatClampNeg) a0 = 39 ∧ sm_K (sm_new (sm_putR (sm_new (sm_putR (sm_new M 479 (400 : Int32).toNatClampNeg (400 : Int32).toNatClampNeg) a0 77 (some (sm_N M))) 482 (400 : Int32).toNatClampNeg (400 : Int32).toNatClampNeg) a0 78 (some (sm_N (sm_putR (sm_new M 479 (400 : Int32).toNatClampNeg (400 : Int32).toNatClampNeg) a0 77 (some (sm_N M)))))) 617 (400 : Int32).toNatClampNeg (400 : Int32).toNatClampNeg) a0 = 39 ∧ sm_Run (d + 1) 150 647 [some (.inr (some a0)), some (.inl x1), z2] [] (sm_putR (sm_new (sm_putR (sm_new (sm_putR (sm_new M 479 (400 : Int32).toNatClampNeg (400 : Int32).toNatClampNeg) a0 77 (some (sm_N M))) 482 (400 : Int32).toNatClampNeg (400 : Int32).toNatClampNeg) a0 78 (some (sm_N (sm_putR (sm_new M 479 (400 : Int32).toNatClampNeg (400 : Int32).toNatClampNeg) a0 77 (some (sm_N M)))))) 617 (400 : Int32).toNatClampNeg (400 : Int32).toNatClampNeg) a0 79 (some (sm_N (sm_putR (sm_new (sm_putR (sm_new M 479 (400 : Int32).toNatClampNeg (400 : Int32).toNatClampNeg) a0 77 (some (sm_N M))) 482 (400 : Int32).toNatClampNeg (400 : Int32).toNatClampNeg) a0 78 (some (sm_N (sm_putR (sm_new M 479 (400 : Int32).toNatClampNeg (400 : Int32).toNatClampNeg) a0 77 (some (sm_N M))))))))) Q) :
    sm_Run (d + 1) 150 620 [some (.inr (some a0)), some (.inl x1), z2] [] M Q := by
  refine ru_go (t := (621, [some (.inr (some a0)), some (.inl x1), z2], [.inr (some a0)], M)) sm_a150_620 rfl rfl rfl ?_
  refine ru_go (t := (624, [some (.inr (some a0)), some (.inl x1), z2], [.inl 400, .inr (some a0)], M)) sm_a150_621 rfl rfl (st_sipush (by decide)) ?_
  refine ru_go (t := (626, [some (.inr (some a0)), some (.inl x1), z2], [.inr (some (sm_N M)), .inr (some a0)], sm_new M 479 (400 : Int32).toNatClampNeg (400 : Int32).toNatClampNeg)) sm_a150_624 rfl rfl (st_newa (by decide)) ?_
  obtain ⟨h_1, h⟩ := h
  refine ru_go (t := (629, [some (.inr (some a0)), some (.inl x1), z2], [], sm_putR (sm_new M 479 (400 : Int32).toNatClampNeg (400 : Int32).toNatClampNeg) a0 77 (some (sm_N M)))) sm_a150_626 rfl rfl (st_putR h_1 rfl) ?_
  refine ru_go (t := (630, [some (.inr (some a0)), some (.inl x1), z2], [.inr (some a0)], sm_putR (sm_new M 479 (400 : Int32).toNatClampNeg (400 : Int32).toNatClampNeg) a0 77 (some (sm_N M)))) sm_a150_629 rfl rfl rfl ?_
  refine ru_go (t := (633, [some (.inr (some a0)), some (.inl x1), z2], [.inl 400, .inr (some a0)], sm_putR (sm_new M 479 (400 : Int32).toNatClampNeg (400 : Int32).toNatClampNeg) a0 77 (some (sm_N M)))) sm_a150_630 rfl rfl (st_sipush (by decide)) ?_
  refine ru_go (t := (635, [some (.inr (some a0)), some (.inl x1), z2], [.inr (some (sm_N (sm_putR (sm_new M 479 (400 : Int32).toNatClampNeg (400 : Int32).toNatClampNeg) a0 77 (some (sm_N M))))), .inr (some a0)], sm_new (sm_putR (sm_new M 479 (400 : Int32).toNatClampNeg (400 : Int32).toNatClampNeg) a0 77 (some (sm_N M))) 482 (400 : Int32).toNatClampNeg (400 : Int32).toNatClampNeg)) sm_a150_633 rfl rfl (st_newa (by decide)) ?_
  obtain ⟨h_2, h⟩ := h
  refine ru_go (t := (638, [some (.inr (some a0)), some (.inl x1), z2], [], sm_putR (sm_new (sm_putR (sm_new M 479 (400 : Int32).toNatClampNeg (400 : Int32).toNatClampNeg) a0 77 (some (sm_N M))) 482 (400 : Int32).toNatClampNeg (400 : Int32).toNatClampNeg) a0 78 (some (sm_N (sm_putR (sm_new M 479 (400 : Int32).toNatClampNeg (400 : Int32).toNatClampNeg) a0 77 (some (sm_N M))))))) sm_a150_635 rfl rfl (st_putR h_2 rfl) ?_
  refine ru_go (t := (639, [some (.inr (some a0)), some (.inl x1), z2], [.inr (some a0)], sm_putR (sm_new (sm_putR (sm_new M 479 (400 : Int32).toNatClampNeg (400 : Int32).toNatClampNeg) a0 77 (some (sm_N M))) 482 (400 : Int32).toNatClampNeg (400 : Int32).toNatClampNeg) a0 78 (some (sm_N (sm_putR (sm_new M 479 (400 : Int32).toNatClampNeg (400 : Int32).toNatClampNeg) a0 77 (some (sm_N M))))))) sm_a150_638 rfl rfl rfl ?_
  refine ru_go (t := (642, [some (.inr (some a0)), some (.inl x1), z2], [.inl 400, .inr (some a0)], sm_putR (sm_new (sm_putR (sm_new M 479 (400 : Int32).toNatClampNeg (400 : Int32).toNatClampNeg) a0 77 (some (sm_N M))) 482 (400 : Int32).toNatClampNeg (400 : Int32).toNatClampNeg) a0 78 (some (sm_N (sm_putR (sm_new M 479 (400 : Int32).toNatClampNeg (400 : Int32).toNatClampNeg) a0 77 (some (sm_N M))))))) sm_a150_639 rfl rfl (st_sipush (by decide)) ?_
  refine ru_go (t := (644, [some (.inr (some a0)), some (.inl x1), z2], [.inr (some (sm_N (sm_putR (sm_new (sm_putR (sm_new M 479 (400 : Int32).toNatClampNeg (400 : Int32).toNatClampNeg) a0 77 (some (sm_N M))) 482 (400 : Int32).toNatClampNeg (400 : Int32).toNatClampNeg) a0 78 (some (sm_N (sm_putR (sm_new M 479 (400 : Int32).toNatClampNeg (400 : Int32).toNatClampNeg) a0 77 (some (sm_N M)))))))), .inr (some a0)], sm_new (sm_putR (sm_new (sm_putR (sm_new M 479 (400 : Int32).toNatClampNeg (400 : Int32).toNatClampNeg) a0 77 (some (sm_N M))) 482 (400 : Int32).toNatClampNeg (400 : Int32).toNatClampNeg) a0 78 (some (sm_N (sm_putR (sm_new M 479 (400 : Int32).toNatClampNeg (400 : Int32).toNatClampNeg) a0 77 (some (sm_N M)))))) 617 (400 : Int32).toNatClampNeg (400 : Int32).toNatClampNeg)) sm_a150_642 rfl rfl (st_newa (by decide)) ?_
  obtain ⟨h_3, h⟩ := h
  refine ru_go (t := (647, [some (.inr (some a0)), some (.inl x1), z2], [], sm_putR (sm_new (sm_putR (sm_new (sm_putR (sm_new M 479 (400 : Int32).toNatClampNeg (400 : Int32).toNatClampNeg) a0 77 (some (sm_N M))) 482 (400 : Int32).toNatClampNeg (400 : Int32).toNatClampNeg) a0 78 (some (sm_N (sm_putR (sm_new M 479 (400 : Int32).toNatClampNeg (400 : Int32).toNatClampNeg) a0 77 (some (sm_N M)))))) 617 (400 : Int32).toNatClampNeg (400 : Int32).toNatClampNeg) a0 79 (some (sm_N (sm_putR (sm_new (sm_putR (sm_new M 479 (400 : Int32).toNatClampNeg (400 : Int32).toNatClampNeg) a0 77 (some (sm_N M))) 482 (400 : Int32).toNatClampNeg (400 : Int32).toNatClampNeg) a0 78 (some (sm_N (sm_putR (sm_new M 479 (400 : Int32).toNatClampNeg (400 : Int32).toNatClampNeg) a0 77 (some (sm_N M)))))))))) sm_a150_644 rfl rfl (st_putR h_3 rfl) ?_
  exact h
theorem bb_150_647 {d : Nat} {M : sm_M} {Q : Option sm_V → sm_M → Prop} {a0 : Nat} {x1 : Int32} {z2 : Option sm_V}
    (h : sm_K (sm_new M 485 (3200 : Int32).toNatClampNeg (3200 : Int32).toNatClampNeg) a0 = 39 ∧ sm_K (sm_new (sm_putR (sm_new M 485 (3200 : Int32).toNatClampNeg (3200 : Int32).toNatClampNeg) a0 80 (some (sm_N M))) 488 (40000 : Int32).toNatClampNeg (40000 : Int32).toNatClampNeg) a0 = 39 ∧ sm_K (sm_new (sm_putR (sm_new (sm_putR (sm_new M 485 (3200 : Int32).toNatClampNeg (3200 : Int32).toNatClampNeg) a0 80 (some (sm_N M))) 488 (40000 : Int32).toNatClampNeg (40000 : Int32).toNatClampNeg) a0 81 (some (sm_N (sm_putR (sm_new M 485 (3200 : Int32).toNatClampNeg (3200 : Int32).toNatClampNeg) a0 80 (some (sm_N M)))))) 491 (100 : Int32).toNatClampNeg (100 : Int32).toNatClampNeg) a0 = 39 ∧ sm_Run (d + 1) 150 672 [some (.inr (some a0)), some (.inl x1), z2] [] (sm_putR (sm_new (sm_putR (sm_new (sm_putR (sm_new M 485 (3200 : Int32).toNatClampNeg (3200 : Int32).toNatClampNeg) a0 80 (some (sm_N M))) 488 (40000 : Int32).toNatClampNeg (40000 : Int32).toNatClampNeg) a0 81 (some (sm_N (sm_putR (sm_new M 485 (3200 : Int32).toNatClampNeg (3200 : Int32).toNatClampNeg) a0 80 (some (sm_N M)))))) 491 (100 : Int32).toNatClampNeg (100 : Int32).toNatClampNeg) a0 83 (some (sm_N (sm_putR (sm_new (sm_putR (sm_new M 485 (3200 : Int32).toNatClampNeg (3200 : Int32).toNatClampNeg) a0 80 (some (sm_N M))) 488 (40000 : Int32).toNatClampNeg (40000 : Int32).toNatClampNeg) a0 81 (some (sm_N (sm_putR (sm_new M 485 (3200 : Int32).toNatClampNeg (3200 : Int32).toNatClampNeg) a0 80 (some (sm_N M))))))))) Q) :
    sm_Run (d + 1) 150 647 [some (.inr (some a0)), some (.inl x1), z2] [] M Q := by
  refine ru_go (t := (648, [some (.inr (some a0)), some (.inl x1), z2], [.inr (some a0)], M)) sm_a150_647 rfl rfl rfl ?_
  refine ru_go (t := (651, [some (.inr (some a0)), some (.inl x1), z2], [.inl 3200, .inr (some a0)], M)) sm_a150_648 rfl rfl (st_sipush (by decide)) ?_
  refine ru_go (t := (653, [some (.inr (some a0)), some (.inl x1), z2], [.inr (some (sm_N M)), .inr (some a0)], sm_new M 485 (3200 : Int32).toNatClampNeg (3200 : Int32).toNatClampNeg)) sm_a150_651 rfl rfl (st_newa (by decide)) ?_
  obtain ⟨h_1, h⟩ := h
  refine ru_go (t := (656, [some (.inr (some a0)), some (.inl x1), z2], [], sm_putR (sm_new M 485 (3200 : Int32).toNatClampNeg (3200 : Int32).toNatClampNeg) a0 80 (some (sm_N M)))) sm_a150_653 rfl rfl (st_putR h_1 rfl) ?_
  refine ru_go (t := (657, [some (.inr (some a0)), some (.inl x1), z2], [.inr (some a0)], sm_putR (sm_new M 485 (3200 : Int32).toNatClampNeg (3200 : Int32).toNatClampNeg) a0 80 (some (sm_N M)))) sm_a150_656 rfl rfl rfl ?_
  refine ru_go (t := (659, [some (.inr (some a0)), some (.inl x1), z2], [.inl 40000, .inr (some a0)], sm_putR (sm_new M 485 (3200 : Int32).toNatClampNeg (3200 : Int32).toNatClampNeg) a0 80 (some (sm_N M)))) sm_a150_657 rfl rfl (st_ldc (by decide)) ?_
  refine ru_go (t := (661, [some (.inr (some a0)), some (.inl x1), z2], [.inr (some (sm_N (sm_putR (sm_new M 485 (3200 : Int32).toNatClampNeg (3200 : Int32).toNatClampNeg) a0 80 (some (sm_N M))))), .inr (some a0)], sm_new (sm_putR (sm_new M 485 (3200 : Int32).toNatClampNeg (3200 : Int32).toNatClampNeg) a0 80 (some (sm_N M))) 488 (40000 : Int32).toNatClampNeg (40000 : Int32).toNatClampNeg)) sm_a150_659 rfl rfl (st_newa (by decide)) ?_
  obtain ⟨h_2, h⟩ := h
  refine ru_go (t := (664, [some (.inr (some a0)), some (.inl x1), z2], [], sm_putR (sm_new (sm_putR (sm_new M 485 (3200 : Int32).toNatClampNeg (3200 : Int32).toNatClampNeg) a0 80 (some (sm_N M))) 488 (40000 : Int32).toNatClampNeg (40000 : Int32).toNatClampNeg) a0 81 (some (sm_N (sm_putR (sm_new M 485 (3200 : Int32).toNatClampNeg (3200 : Int32).toNatClampNeg) a0 80 (some (sm_N M))))))) sm_a150_661 rfl rfl (st_putR h_2 rfl) ?_
  refine ru_go (t := (665, [some (.inr (some a0)), some (.inl x1), z2], [.inr (some a0)], sm_putR (sm_new (sm_putR (sm_new M 485 (3200 : Int32).toNatClampNeg (3200 : Int32).toNatClampNeg) a0 80 (some (sm_N M))) 488 (40000 : Int32).toNatClampNeg (40000 : Int32).toNatClampNeg) a0 81 (some (sm_N (sm_putR (sm_new M 485 (3200 : Int32).toNatClampNeg (3200 : Int32).toNatClampNeg) a0 80 (some (sm_N M))))))) sm_a150_664 rfl rfl rfl ?_
  refine ru_go (t := (667, [some (.inr (some a0)), some (.inl x1), z2], [.inl 100, .inr (some a0)], sm_putR (sm_new (sm_putR (sm_new M 485 (3200 : Int32).toNatClampNeg (3200 : Int32).toNatClampNeg) a0 80 (some (sm_N M))) 488 (40000 : Int32).toNatClampNeg (40000 : Int32).toNatClampNeg) a0 81 (some (sm_N (sm_putR (sm_new M 485 (3200 : Int32).toNatClampNeg (3200 : Int32).toNatClampNeg) a0 80 (some (sm_N M))))))) sm_a150_665 rfl rfl (st_bipush (by decide)) ?_
  refine ru_go (t := (669, [some (.inr (some a0)), some (.inl x1), z2], [.inr (some (sm_N (sm_putR (sm_new (sm_putR (sm_new M 485 (3200 : Int32).toNatClampNeg (3200 : Int32).toNatClampNeg) a0 80 (some (sm_N M))) 488 (40000 : Int32).toNatClampNeg (40000 : Int32).toNatClampNeg) a0 81 (some (sm_N (sm_putR (sm_new M 485 (3200 : Int32).toNatClampNeg (3200 : Int32).toNatClampNeg) a0 80 (some (sm_N M)))))))), .inr (some a0)], sm_new (sm_putR (sm_new (sm_putR (sm_new M 485 (3200 : Int32).toNatClampNeg (3200 : Int32).toNatClampNeg) a0 80 (some (sm_N M))) 488 (40000 : Int32).toNatClampNeg (40000 : Int32).toNatClampNeg) a0 81 (some (sm_N (sm_putR (sm_new M 485 (3200 : Int32).toNatClampNeg (3200 : Int32).toNatClampNeg) a0 80 (some (sm_N M)))))) 491 (100 : Int32).toNatClampNeg (100 : Int32).toNatClampNeg)) sm_a150_667 rfl rfl (st_newa (by decide)) ?_
  obtain ⟨h_3, h⟩ := h
  refine ru_go (t := (672, [some (.inr (some a0)), some (.inl x1), z2], [], sm_putR (sm_new (sm_putR (sm_new (sm_putR (sm_new M 485 (3200 : Int32).toNatClampNeg (3200 : Int32).toNatClampNeg) a0 80 (some (sm_N M))) 488 (40000 : Int32).toNatClampNeg (40000 : Int32).toNatClampNeg) a0 81 (some (sm_N (sm_putR (sm_new M 485 (3200 : Int32).toNatClampNeg (3200 : Int32).toNatClampNeg) a0 80 (some (sm_N M)))))) 491 (100 : Int32).toNatClampNeg (100 : Int32).toNatClampNeg) a0 83 (some (sm_N (sm_putR (sm_new (sm_putR (sm_new M 485 (3200 : Int32).toNatClampNeg (3200 : Int32).toNatClampNeg) a0 80 (some (sm_N M))) 488 (40000 : Int32).toNatClampNeg (40000 : Int32).toNatClampNeg) a0 81 (some (sm_N (sm_putR (sm_new M 485 (3200 : Int32).toNatClampNeg (3200 : Int32).toNatClampNeg) a0 80 (some (sm_N M)))))))))) sm_a150_669 rfl rfl (st_putR h_3 rfl) ?_
  exact h
theorem bb_150_672 {d : Nat} {M : sm_M} {Q : Option sm_V → sm_M → Prop} {a0 : Nat} {x1 : Int32} {z2 : Option sm_V}
    (h : sm_K (sm_new M 494 (6 : Int32).toNatClampNeg (6 : Int32).toNatClampNeg) a0 = 39 ∧ sm_K (sm_new (sm_putR (sm_new M 494 (6 : Int32).toNatClampNeg (6 : Int32).toNatClampNeg) a0 85 (some (sm_N M))) 497 (360 : Int32).toNatClampNeg (360 : Int32).toNatClampNeg) a0 = 39 ∧ ((1 ≤ x1 → ((x1 ≤ 40 → sm_Run (d + 1) 150 722 [some (.inr (some a0)), some (.inl x1), some (.inl 0)] [] (sm_putI (sm_putI (sm_putR (sm_new (sm_putR (sm_new M 494 (6 : Int32).toNatClampNeg (6 : Int32).toNatClampNeg) a0 85 (some (sm_N M))) 497 (360 : Int32).toNatClampNeg (360 : Int32).toNatClampNeg) a0 86 (some (sm_N (sm_putR (sm_new M 494 (6 : Int32).toNatClampNeg (6 : Int32).toNatClampNeg) a0 85 (some (sm_N M)))))) a0 0 x1) a0 69 59) Q) ∧ (¬ (x1 ≤ 40) → sm_Run (d + 1) 150 722 [some (.inr (some a0)), some (.inl x1), some (.inl 0)] [] (sm_putI (sm_putI (sm_putR (sm_new (sm_putR (sm_new M 494 (6 : Int32).toNatClampNeg (6 : Int32).toNatClampNeg) a0 85 (some (sm_N M))) 497 (360 : Int32).toNatClampNeg (360 : Int32).toNatClampNeg) a0 86 (some (sm_N (sm_putR (sm_new M 494 (6 : Int32).toNatClampNeg (6 : Int32).toNatClampNeg) a0 85 (some (sm_N M)))))) a0 0 40) a0 69 59) Q))) ∧ (¬ (1 ≤ x1) → sm_Run (d + 1) 150 722 [some (.inr (some a0)), some (.inl x1), some (.inl 0)] [] (sm_putI (sm_putI (sm_putR (sm_new (sm_putR (sm_new M 494 (6 : Int32).toNatClampNeg (6 : Int32).toNatClampNeg) a0 85 (some (sm_N M))) 497 (360 : Int32).toNatClampNeg (360 : Int32).toNatClampNeg) a0 86 (some (sm_N (sm_putR (sm_new M 494 (6 : Int32).toNatClampNeg (6 : Int32).toNatClampNeg) a0 85 (some (sm_N M)))))) a0 0 1) a0 69 59) Q))) :
    sm_Run (d + 1) 150 672 [some (.inr (some a0)), some (.inl x1), z2] [] M Q := by
  refine ru_go (t := (673, [some (.inr (some a0)), some (.inl x1), z2], [.inr (some a0)], M)) sm_a150_672 rfl rfl rfl ?_
  refine ru_go (t := (675, [some (.inr (some a0)), some (.inl x1), z2], [.inl 6, .inr (some a0)], M)) sm_a150_673 rfl rfl (st_bipush (by decide)) ?_
  refine ru_go (t := (677, [some (.inr (some a0)), some (.inl x1), z2], [.inr (some (sm_N M)), .inr (some a0)], sm_new M 494 (6 : Int32).toNatClampNeg (6 : Int32).toNatClampNeg)) sm_a150_675 rfl rfl (st_newa (by decide)) ?_
  obtain ⟨h_1, h⟩ := h
  refine ru_go (t := (680, [some (.inr (some a0)), some (.inl x1), z2], [], sm_putR (sm_new M 494 (6 : Int32).toNatClampNeg (6 : Int32).toNatClampNeg) a0 85 (some (sm_N M)))) sm_a150_677 rfl rfl (st_putR h_1 rfl) ?_
  refine ru_go (t := (681, [some (.inr (some a0)), some (.inl x1), z2], [.inr (some a0)], sm_putR (sm_new M 494 (6 : Int32).toNatClampNeg (6 : Int32).toNatClampNeg) a0 85 (some (sm_N M)))) sm_a150_680 rfl rfl rfl ?_
  refine ru_go (t := (684, [some (.inr (some a0)), some (.inl x1), z2], [.inl 360, .inr (some a0)], sm_putR (sm_new M 494 (6 : Int32).toNatClampNeg (6 : Int32).toNatClampNeg) a0 85 (some (sm_N M)))) sm_a150_681 rfl rfl (st_sipush (by decide)) ?_
  refine ru_go (t := (686, [some (.inr (some a0)), some (.inl x1), z2], [.inr (some (sm_N (sm_putR (sm_new M 494 (6 : Int32).toNatClampNeg (6 : Int32).toNatClampNeg) a0 85 (some (sm_N M))))), .inr (some a0)], sm_new (sm_putR (sm_new M 494 (6 : Int32).toNatClampNeg (6 : Int32).toNatClampNeg) a0 85 (some (sm_N M))) 497 (360 : Int32).toNatClampNeg (360 : Int32).toNatClampNeg)) sm_a150_684 rfl rfl (st_newa (by decide)) ?_
  obtain ⟨h_2, h⟩ := h
  refine ru_go (t := (689, [some (.inr (some a0)), some (.inl x1), z2], [], sm_putR (sm_new (sm_putR (sm_new M 494 (6 : Int32).toNatClampNeg (6 : Int32).toNatClampNeg) a0 85 (some (sm_N M))) 497 (360 : Int32).toNatClampNeg (360 : Int32).toNatClampNeg) a0 86 (some (sm_N (sm_putR (sm_new M 494 (6 : Int32).toNatClampNeg (6 : Int32).toNatClampNeg) a0 85 (some (sm_N M))))))) sm_a150_686 rfl rfl (st_putR h_2 rfl) ?_
  refine ru_go (t := (690, [some (.inr (some a0)), some (.inl x1), z2], [.inr (some a0)], sm_putR (sm_new (sm_putR (sm_new M 494 (6 : Int32).toNatClampNeg (6 : Int32).toNatClampNeg) a0 85 (some (sm_N M))) 497 (360 : Int32).toNatClampNeg (360 : Int32).toNatClampNeg) a0 86 (some (sm_N (sm_putR (sm_new M 494 (6 : Int32).toNatClampNeg (6 : Int32).toNatClampNeg) a0 85 (some (sm_N M))))))) sm_a150_689 rfl rfl rfl ?_
  refine ru_go (t := (691, [some (.inr (some a0)), some (.inl x1), z2], [.inl x1, .inr (some a0)], sm_putR (sm_new (sm_putR (sm_new M 494 (6 : Int32).toNatClampNeg (6 : Int32).toNatClampNeg) a0 85 (some (sm_N M))) 497 (360 : Int32).toNatClampNeg (360 : Int32).toNatClampNeg) a0 86 (some (sm_N (sm_putR (sm_new M 494 (6 : Int32).toNatClampNeg (6 : Int32).toNatClampNeg) a0 85 (some (sm_N M))))))) sm_a150_690 rfl rfl rfl ?_
  refine ru_go (t := (692, [some (.inr (some a0)), some (.inl x1), z2], [.inl 1, .inl x1, .inr (some a0)], sm_putR (sm_new (sm_putR (sm_new M 494 (6 : Int32).toNatClampNeg (6 : Int32).toNatClampNeg) a0 85 (some (sm_N M))) 497 (360 : Int32).toNatClampNeg (360 : Int32).toNatClampNeg) a0 86 (some (sm_N (sm_putR (sm_new M 494 (6 : Int32).toNatClampNeg (6 : Int32).toNatClampNeg) a0 85 (some (sm_N M))))))) sm_a150_691 rfl rfl (st_iconst (by decide)) ?_
  refine ru_icmp (pc := 692) (p := 699) (p2 := 695) sm_a150_692 (by decide) rfl ⟨fun hc_3 => ?_, fun hc_3 => ?_⟩
  · have h := h.1 hc_3
    refine ru_go (t := (700, [some (.inr (some a0)), some (.inl x1), z2], [.inl x1, .inr (some a0)], sm_putR (sm_new (sm_putR (sm_new M 494 (6 : Int32).toNatClampNeg (6 : Int32).toNatClampNeg) a0 85 (some (sm_N M))) 497 (360 : Int32).toNatClampNeg (360 : Int32).toNatClampNeg) a0 86 (some (sm_N (sm_putR (sm_new M 494 (6 : Int32).toNatClampNeg (6 : Int32).toNatClampNeg) a0 85 (some (sm_N M))))))) sm_a150_699 rfl rfl rfl ?_
    refine ru_go (t := (702, [some (.inr (some a0)), some (.inl x1), z2], [.inl 40, .inl x1, .inr (some a0)], sm_putR (sm_new (sm_putR (sm_new M 494 (6 : Int32).toNatClampNeg (6 : Int32).toNatClampNeg) a0 85 (some (sm_N M))) 497 (360 : Int32).toNatClampNeg (360 : Int32).toNatClampNeg) a0 86 (some (sm_N (sm_putR (sm_new M 494 (6 : Int32).toNatClampNeg (6 : Int32).toNatClampNeg) a0 85 (some (sm_N M))))))) sm_a150_700 rfl rfl (st_bipush (by decide)) ?_
    refine ru_icmp (pc := 702) (p := 710) (p2 := 705) sm_a150_702 (by decide) rfl ⟨fun hc_4 => ?_, fun hc_4 => ?_⟩
    · have h := h.1 hc_4
      refine ru_go (t := (711, [some (.inr (some a0)), some (.inl x1), z2], [.inl x1, .inr (some a0)], sm_putR (sm_new (sm_putR (sm_new M 494 (6 : Int32).toNatClampNeg (6 : Int32).toNatClampNeg) a0 85 (some (sm_N M))) 497 (360 : Int32).toNatClampNeg (360 : Int32).toNatClampNeg) a0 86 (some (sm_N (sm_putR (sm_new M 494 (6 : Int32).toNatClampNeg (6 : Int32).toNatClampNeg) a0 85 (some (sm_N M))))))) sm_a150_710 rfl rfl rfl ?_
      refine ru_go (t := (714, [some (.inr (some a0)), some (.inl x1), z2], [], sm_putI (sm_putR (sm_new (sm_putR (sm_new M 494 (6 : Int32).toNatClampNeg (6 : Int32).toNatClampNeg) a0 85 (some (sm_N M))) 497 (360 : Int32).toNatClampNeg (360 : Int32).toNatClampNeg) a0 86 (some (sm_N (sm_putR (sm_new M 494 (6 : Int32).toNatClampNeg (6 : Int32).toNatClampNeg) a0 85 (some (sm_N M)))))) a0 0 x1)) sm_a150_711 rfl rfl (st_putI h_2 rfl) ?_
      refine ru_go (t := (715, [some (.inr (some a0)), some (.inl x1), z2], [.inr (some a0)], sm_putI (sm_putR (sm_new (sm_putR (sm_new M 494 (6 : Int32).toNatClampNeg (6 : Int32).toNatClampNeg) a0 85 (some (sm_N M))) 497 (360 : Int32).toNatClampNeg (360 : Int32).toNatClampNeg) a0 86 (some (sm_N (sm_putR (sm_new M 494 (6 : Int32).toNatClampNeg (6 : Int32).toNatClampNeg) a0 85 (some (sm_N M)))))) a0 0 x1)) sm_a150_714 rfl rfl rfl ?_
      refine ru_go (t := (717, [some (.inr (some a0)), some (.inl x1), z2], [.inl 59, .inr (some a0)], sm_putI (sm_putR (sm_new (sm_putR (sm_new M 494 (6 : Int32).toNatClampNeg (6 : Int32).toNatClampNeg) a0 85 (some (sm_N M))) 497 (360 : Int32).toNatClampNeg (360 : Int32).toNatClampNeg) a0 86 (some (sm_N (sm_putR (sm_new M 494 (6 : Int32).toNatClampNeg (6 : Int32).toNatClampNeg) a0 85 (some (sm_N M)))))) a0 0 x1)) sm_a150_715 rfl rfl (st_bipush (by decide)) ?_
      refine ru_go (t := (720, [some (.inr (some a0)), some (.inl x1), z2], [], sm_putI (sm_putI (sm_putR (sm_new (sm_putR (sm_new M 494 (6 : Int32).toNatClampNeg (6 : Int32).toNatClampNeg) a0 85 (some (sm_N M))) 497 (360 : Int32).toNatClampNeg (360 : Int32).toNatClampNeg) a0 86 (some (sm_N (sm_putR (sm_new M 494 (6 : Int32).toNatClampNeg (6 : Int32).toNatClampNeg) a0 85 (some (sm_N M)))))) a0 0 x1) a0 69 59)) sm_a150_717 rfl rfl (st_putI h_2 rfl) ?_
      refine ru_go (t := (721, [some (.inr (some a0)), some (.inl x1), z2], [.inl 0], sm_putI (sm_putI (sm_putR (sm_new (sm_putR (sm_new M 494 (6 : Int32).toNatClampNeg (6 : Int32).toNatClampNeg) a0 85 (some (sm_N M))) 497 (360 : Int32).toNatClampNeg (360 : Int32).toNatClampNeg) a0 86 (some (sm_N (sm_putR (sm_new M 494 (6 : Int32).toNatClampNeg (6 : Int32).toNatClampNeg) a0 85 (some (sm_N M)))))) a0 0 x1) a0 69 59)) sm_a150_720 rfl rfl (st_iconst (by decide)) ?_
      refine ru_go (t := (722, [some (.inr (some a0)), some (.inl x1), some (.inl 0)], [], sm_putI (sm_putI (sm_putR (sm_new (sm_putR (sm_new M 494 (6 : Int32).toNatClampNeg (6 : Int32).toNatClampNeg) a0 85 (some (sm_N M))) 497 (360 : Int32).toNatClampNeg (360 : Int32).toNatClampNeg) a0 86 (some (sm_N (sm_putR (sm_new M 494 (6 : Int32).toNatClampNeg (6 : Int32).toNatClampNeg) a0 85 (some (sm_N M)))))) a0 0 x1) a0 69 59)) sm_a150_721 rfl rfl rfl ?_
      exact h
    · have h := h.2 hc_4
      refine ru_go (t := (707, [some (.inr (some a0)), some (.inl x1), z2], [.inl 40, .inr (some a0)], sm_putR (sm_new (sm_putR (sm_new M 494 (6 : Int32).toNatClampNeg (6 : Int32).toNatClampNeg) a0 85 (some (sm_N M))) 497 (360 : Int32).toNatClampNeg (360 : Int32).toNatClampNeg) a0 86 (some (sm_N (sm_putR (sm_new M 494 (6 : Int32).toNatClampNeg (6 : Int32).toNatClampNeg) a0 85 (some (sm_N M))))))) sm_a150_705 rfl rfl (st_bipush (by decide)) ?_
      refine ru_go (t := (711, [some (.inr (some a0)), some (.inl x1), z2], [.inl 40, .inr (some a0)], sm_putR (sm_new (sm_putR (sm_new M 494 (6 : Int32).toNatClampNeg (6 : Int32).toNatClampNeg) a0 85 (some (sm_N M))) 497 (360 : Int32).toNatClampNeg (360 : Int32).toNatClampNeg) a0 86 (some (sm_N (sm_putR (sm_new M 494 (6 : Int32).toNatClampNeg (6 : Int32).toNatClampNeg) a0 85 (some (sm_N M))))))) sm_a150_707 rfl rfl (st_goto (pc := 707) (by decide)) ?_
      refine ru_go (t := (714, [some (.inr (some a0)), some (.inl x1), z2], [], sm_putI (sm_putR (sm_new (sm_putR (sm_new M 494 (6 : Int32).toNatClampNeg (6 : Int32).toNatClampNeg) a0 85 (some (sm_N M))) 497 (360 : Int32).toNatClampNeg (360 : Int32).toNatClampNeg) a0 86 (some (sm_N (sm_putR (sm_new M 494 (6 : Int32).toNatClampNeg (6 : Int32).toNatClampNeg) a0 85 (some (sm_N M)))))) a0 0 40)) sm_a150_711 rfl rfl (st_putI h_2 rfl) ?_
      refine ru_go (t := (715, [some (.inr (some a0)), some (.inl x1), z2], [.inr (some a0)], sm_putI (sm_putR (sm_new (sm_putR (sm_new M 494 (6 : Int32).toNatClampNeg (6 : Int32).toNatClampNeg) a0 85 (some (sm_N M))) 497 (360 : Int32).toNatClampNeg (360 : Int32).toNatClampNeg) a0 86 (some (sm_N (sm_putR (sm_new M 494 (6 : Int32).toNatClampNeg (6 : Int32).toNatClampNeg) a0 85 (some (sm_N M)))))) a0 0 40)) sm_a150_714 rfl rfl rfl ?_
      refine ru_go (t := (717, [some (.inr (some a0)), some (.inl x1), z2], [.inl 59, .inr (some a0)], sm_putI (sm_putR (sm_new (sm_putR (sm_new M 494 (6 : Int32).toNatClampNeg (6 : Int32).toNatClampNeg) a0 85 (some (sm_N M))) 497 (360 : Int32).toNatClampNeg (360 : Int32).toNatClampNeg) a0 86 (some (sm_N (sm_putR (sm_new M 494 (6 : Int32).toNatClampNeg (6 : Int32).toNatClampNeg) a0 85 (some (sm_N M)))))) a0 0 40)) sm_a150_715 rfl rfl (st_bipush (by decide)) ?_
      refine ru_go (t := (720, [some (.inr (some a0)), some (.inl x1), z2], [], sm_putI (sm_putI (sm_putR (sm_new (sm_putR (sm_new M 494 (6 : Int32).toNatClampNeg (6 : Int32).toNatClampNeg) a0 85 (some (sm_N M))) 497 (360 : Int32).toNatClampNeg (360 : Int32).toNatClampNeg) a0 86 (some (sm_N (sm_putR (sm_new M 494 (6 : Int32).toNatClampNeg (6 : Int32).toNatClampNeg) a0 85 (some (sm_N M)))))) a0 0 40) a0 69 59)) sm_a150_717 rfl rfl (st_putI h_2 rfl) ?_
      refine ru_go (t := (721, [some (.inr (some a0)), some (.inl x1), z2], [.inl 0], sm_putI (sm_putI (sm_putR (sm_new (sm_putR (sm_new M 494 (6 : Int32).toNatClampNeg (6 : Int32).toNatClampNeg) a0 85 (some (sm_N M))) 497 (360 : Int32).toNatClampNeg (360 : Int32).toNatClampNeg) a0 86 (some (sm_N (sm_putR (sm_new M 494 (6 : Int32).toNatClampNeg (6 : Int32).toNatClampNeg) a0 85 (some (sm_N M)))))) a0 0 40) a0 69 59)) sm_a150_720 rfl rfl (st_iconst (by decide)) ?_
      refine ru_go (t := (722, [some (.inr (some a0)), some (.inl x1), some (.inl 0)], [], sm_putI (sm_putI (sm_putR (sm_new (sm_putR (sm_new M 494 (6 : Int32).toNatClampNeg (6 : Int32).toNatClampNeg) a0 85 (some (sm_N M))) 497 (360 : Int32).toNatClampNeg (360 : Int32).toNatClampNeg) a0 86 (some (sm_N (sm_putR (sm_new M 494 (6 : Int32).toNatClampNeg (6 : Int32).toNatClampNeg) a0 85 (some (sm_N M)))))) a0 0 40) a0 69 59)) sm_a150_721 rfl rfl rfl ?_
      exact h
  · have h := h.2 hc_3
    refine ru_go (t := (696, [some (.inr (some a0)), some (.inl x1), z2], [.inl 1, .inr (some a0)], sm_putR (sm_new (sm_putR (sm_new M 494 (6 : Int32).toNatClampNeg (6 : Int32).toNatClampNeg) a0 85 (some (sm_N M))) 497 (360 : Int32).toNatClampNeg (360 : Int32).toNatClampNeg) a0 86 (some (sm_N (sm_putR (sm_new M 494 (6 : Int32).toNatClampNeg (6 : Int32).toNatClampNeg) a0 85 (some (sm_N M))))))) sm_a150_695 rfl rfl (st_iconst (by decide)) ?_
    refine ru_go (t := (711, [some (.inr (some a0)), some (.inl x1), z2], [.inl 1, .inr (some a0)], sm_putR (sm_new (sm_putR (sm_new M 494 (6 : Int32).toNatClampNeg (6 : Int32).toNatClampNeg) a0 85 (some (sm_N M))) 497 (360 : Int32).toNatClampNeg (360 : Int32).toNatClampNeg) a0 86 (some (sm_N (sm_putR (sm_new M 494 (6 : Int32).toNatClampNeg (6 : Int32).toNatClampNeg) a0 85 (some (sm_N M))))))) sm_a150_696 rfl rfl (st_goto (pc := 696) (by decide)) ?_
    refine ru_go (t := (714, [some (.inr (some a0)), some (.inl x1), z2], [], sm_putI (sm_putR (sm_new (sm_putR (sm_new M 494 (6 : Int32).toNatClampNeg (6 : Int32).toNatClampNeg) a0 85 (some (sm_N M))) 497 (360 : Int32).toNatClampNeg (360 : Int32).toNatClampNeg) a0 86 (some (sm_N (sm_putR (sm_new M 494 (6 : Int32).toNatClampNeg (6 : Int32).toNatClampNeg) a0 85 (some (sm_N M)))))) a0 0 1)) sm_a150_711 rfl rfl (st_putI h_2 rfl) ?_
    refine ru_go (t := (715, [some (.inr (some a0)), some (.inl x1), z2], [.inr (some a0)], sm_putI (sm_putR (sm_new (sm_putR (sm_new M 494 (6 : Int32).toNatClampNeg (6 : Int32).toNatClampNeg) a0 85 (some (sm_N M))) 497 (360 : Int32).toNatClampNeg (360 : Int32).toNatClampNeg) a0 86 (some (sm_N (sm_putR (sm_new M 494 (6 : Int32).toNatClampNeg (6 : Int32).toNatClampNeg) a0 85 (some (sm_N M)))))) a0 0 1)) sm_a150_714 rfl rfl rfl ?_
    refine ru_go (t := (717, [some (.inr (some a0)), some (.inl x1), z2], [.inl 59, .inr (some a0)], sm_putI (sm_putR (sm_new (sm_putR (sm_new M 494 (6 : Int32).toNatClampNeg (6 : Int32).toNatClampNeg) a0 85 (some (sm_N M))) 497 (360 : Int32).toNatClampNeg (360 : Int32).toNatClampNeg) a0 86 (some (sm_N (sm_putR (sm_new M 494 (6 : Int32).toNatClampNeg (6 : Int32).toNatClampNeg) a0 85 (some (sm_N M)))))) a0 0 1)) sm_a150_715 rfl rfl (st_bipush (by decide)) ?_
    refine ru_go (t := (720, [some (.inr (some a0)), some (.inl x1), z2], [], sm_putI (sm_putI (sm_putR (sm_new (sm_putR (sm_new M 494 (6 : Int32).toNatClampNeg (6 : Int32).toNatClampNeg) a0 85 (some (sm_N M))) 497 (360 : Int32).toNatClampNeg (360 : Int32).toNatClampNeg) a0 86 (some (sm_N (sm_putR (sm_new M 494 (6 : Int32).toNatClampNeg (6 : Int32).toNatClampNeg) a0 85 (some (sm_N M)))))) a0 0 1) a0 69 59)) sm_a150_717 rfl rfl (st_putI h_2 rfl) ?_
    refine ru_go (t := (721, [some (.inr (some a0)), some (.inl x1), z2], [.inl 0], sm_putI (sm_putI (sm_putR (sm_new (sm_putR (sm_new M 494 (6 : Int32).toNatClampNeg (6 : Int32).toNatClampNeg) a0 85 (some (sm_N M))) 497 (360 : Int32).toNatClampNeg (360 : Int32).toNatClampNeg) a0 86 (some (sm_N (sm_putR (sm_new M 494 (6 : Int32).toNatClampNeg (6 : Int32).toNatClampNeg) a0 85 (some (sm_N M)))))) a0 0 1) a0 69 59)) sm_a150_720 rfl rfl (st_iconst (by decide)) ?_
    refine ru_go (t := (722, [some (.inr (some a0)), some (.inl x1), some (.inl 0)], [], sm_putI (sm_putI (sm_putR (sm_new (sm_putR (sm_new M 494 (6 : Int32).toNatClampNeg (6 : Int32).toNatClampNeg) a0 85 (some (sm_N M))) 497 (360 : Int32).toNatClampNeg (360 : Int32).toNatClampNeg) a0 86 (some (sm_N (sm_putR (sm_new M 494 (6 : Int32).toNatClampNeg (6 : Int32).toNatClampNeg) a0 85 (some (sm_N M)))))) a0 0 1) a0 69 59)) sm_a150_721 rfl rfl rfl ?_
    exact h
theorem bb_150_722 {d : Nat} {M : sm_M} {Q : Option sm_V → sm_M → Prop} {a0 : Nat} {x1 : Int32} {x2 : Int32}
    (h : ((6 ≤ x2 → Q none M) ∧ (¬ (6 ≤ x2) → sm_K M a0 = 39 ∧ ∃ b_3, sm_R M a0 6 = some b_3 ∧ sm_wA 1 M b_3 ∧ sm_in_ M b_3 x2 ∧ ∃ b_7, sm_R (sm_putI M b_3 (x2).toNatClampNeg 8) a0 58 = some b_7 ∧ sm_wA 1 M b_7 ∧ sm_in_ M b_7 x2 ∧ sm_Run (d + 1) 150 722 [some (.inr (some a0)), some (.inl x1), some (.inl (x2 + 1))] [] (sm_putI (sm_putI M b_3 (x2).toNatClampNeg 8) b_7 (x2).toNatClampNeg 8) Q))) :
    sm_Run (d + 1) 150 722 [some (.inr (some a0)), some (.inl x1), some (.inl x2)] [] M Q := by
  refine ru_go (t := (723, [some (.inr (some a0)), some (.inl x1), some (.inl x2)], [.inl x2], M)) sm_a150_722 rfl rfl rfl ?_
  refine ru_go (t := (725, [some (.inr (some a0)), some (.inl x1), some (.inl x2)], [.inl 6, .inl x2], M)) sm_a150_723 rfl rfl (st_bipush (by decide)) ?_
  refine ru_icmp (pc := 725) (p := 750) (p2 := 728) sm_a150_725 (by decide) rfl ⟨fun hc_1 => ?_, fun hc_1 => ?_⟩
  · have h := h.1 hc_1
    exact ru_ret sm_a150_750 (sm_rvv rfl) h
  · have h := h.2 hc_1
    refine ru_go (t := (729, [some (.inr (some a0)), some (.inl x1), some (.inl x2)], [.inr (some a0)], M)) sm_a150_728 rfl rfl rfl ?_
    obtain ⟨h_2, h⟩ := h
    refine ru_go (t := (732, [some (.inr (some a0)), some (.inl x1), some (.inl x2)], [.inr (sm_R M a0 6)], M)) sm_a150_729 rfl rfl (st_getR h_2 rfl rfl) ?_
    refine ru_go (t := (733, [some (.inr (some a0)), some (.inl x1), some (.inl x2)], [.inl x2, .inr (sm_R M a0 6)], M)) sm_a150_732 rfl rfl rfl ?_
    refine ru_go (t := (735, [some (.inr (some a0)), some (.inl x1), some (.inl x2)], [.inl 8, .inl x2, .inr (sm_R M a0 6)], M)) sm_a150_733 rfl rfl (st_bipush (by decide)) ?_
    obtain ⟨b_3, hb_4, h⟩ := h
    rw [hb_4]
    obtain ⟨h_5, h⟩ := h
    obtain ⟨h_6, h⟩ := h
    refine ru_go (t := (736, [some (.inr (some a0)), some (.inl x1), some (.inl x2)], [], sm_putI M b_3 (x2).toNatClampNeg 8)) sm_a150_735 rfl rfl (st_iast h_5 h_6) ?_
    refine ru_go (t := (737, [some (.inr (some a0)), some (.inl x1), some (.inl x2)], [.inr (some a0)], sm_putI M b_3 (x2).toNatClampNeg 8)) sm_a150_736 rfl rfl rfl ?_
    refine ru_go (t := (740, [some (.inr (some a0)), some (.inl x1), some (.inl x2)], [.inr (sm_R (sm_putI M b_3 (x2).toNatClampNeg 8) a0 58)], sm_putI M b_3 (x2).toNatClampNeg 8)) sm_a150_737 rfl rfl (st_getR h_2 rfl rfl) ?_
    refine ru_go (t := (741, [some (.inr (some a0)), some (.inl x1), some (.inl x2)], [.inl x2, .inr (sm_R (sm_putI M b_3 (x2).toNatClampNeg 8) a0 58)], sm_putI M b_3 (x2).toNatClampNeg 8)) sm_a150_740 rfl rfl rfl ?_
    refine ru_go (t := (743, [some (.inr (some a0)), some (.inl x1), some (.inl x2)], [.inl 8, .inl x2, .inr (sm_R (sm_putI M b_3 (x2).toNatClampNeg 8) a0 58)], sm_putI M b_3 (x2).toNatClampNeg 8)) sm_a150_741 rfl rfl (st_bipush (by decide)) ?_
    obtain ⟨b_7, hb_8, h⟩ := h
    rw [hb_8]
    obtain ⟨h_9, h⟩ := h
    obtain ⟨h_10, h⟩ := h
    refine ru_go (t := (744, [some (.inr (some a0)), some (.inl x1), some (.inl x2)], [], sm_putI (sm_putI M b_3 (x2).toNatClampNeg 8) b_7 (x2).toNatClampNeg 8)) sm_a150_743 rfl rfl (st_iast h_9 h_10) ?_
    refine ru_go (t := (747, [some (.inr (some a0)), some (.inl x1), some (.inl (x2 + 1))], [], sm_putI (sm_putI M b_3 (x2).toNatClampNeg 8) b_7 (x2).toNatClampNeg 8)) sm_a150_744 rfl rfl (st_iinc rfl (by decide)) ?_
    refine ru_go (t := (722, [some (.inr (some a0)), some (.inl x1), some (.inl (x2 + 1))], [], sm_putI (sm_putI M b_3 (x2).toNatClampNeg 8) b_7 (x2).toNatClampNeg 8)) sm_a150_747 rfl rfl (st_goto (pc := 747) (by decide)) ?_
    exact h

/-! WireBusModel.word:(II)V -/
theorem sm_a151_0 : sm_at 151 0 = some (.iconst 0, 1, (0, 0, 0, 0)) := by decide +kernel
theorem sm_a151_1 : sm_at 151 1 = some (.istore_n 3, 1, (0, 0, 0, 0)) := by decide +kernel
theorem sm_a151_2 : sm_at 151 2 = some (.iload_n 3, 1, (0, 0, 0, 0)) := by decide +kernel
theorem sm_a151_3 : sm_at 151 3 = some (.iconst 4, 1, (0, 0, 0, 0)) := by decide +kernel
theorem sm_a151_4 : sm_at 151 4 = some (.if_icmp .ge 30, 3, (0, 0, 0, 0)) := by decide +kernel
theorem sm_a151_7 : sm_at 151 7 = some (.aload_n 0, 1, (0, 0, 0, 0)) := by decide +kernel
theorem sm_a151_8 : sm_at 151 8 = some (.getfield 7, 3, (12, 1, 0, 1184)) := by decide +kernel
theorem sm_a151_11 : sm_at 151 11 = some (.iload_n 1, 1, (0, 0, 0, 0)) := by decide +kernel
theorem sm_a151_12 : sm_at 151 12 = some (.iload_n 3, 1, (0, 0, 0, 0)) := by decide +kernel
theorem sm_a151_13 : sm_at 151 13 = some (.iadd, 1, (0, 0, 0, 0)) := by decide +kernel
theorem sm_a151_14 : sm_at 151 14 = some (.iload_n 2, 1, (0, 0, 0, 0)) := by decide +kernel
theorem sm_a151_15 : sm_at 151 15 = some (.bipush 24, 2, (0, 0, 0, 0)) := by decide +kernel
theorem sm_a151_17 : sm_at 151 17 = some (.bipush 8, 2, (0, 0, 0, 0)) := by decide +kernel
theorem sm_a151_19 : sm_at 151 19 = some (.iload_n 3, 1, (0, 0, 0, 0)) := by decide +kernel
theorem sm_a151_20 : sm_at 151 20 = some (.imul, 1, (0, 0, 0, 0)) := by decide +kernel
theorem sm_a151_21 : sm_at 151 21 = some (.isub, 1, (0, 0, 0, 0)) := by decide +kernel
theorem sm_a151_22 : sm_at 151 22 = some (.ishr, 1, (0, 0, 0, 0)) := by decide +kernel
theorem sm_a151_23 : sm_at 151 23 = some (.sipush 255, 3, (0, 0, 0, 0)) := by decide +kernel
theorem sm_a151_26 : sm_at 151 26 = some (.iand, 1, (0, 0, 0, 0)) := by decide +kernel
theorem sm_a151_27 : sm_at 151 27 = some (.iastore, 1, (1, 0, 0, 0)) := by decide +kernel
theorem sm_a151_28 : sm_at 151 28 = some (.iinc 3 1, 3, (0, 0, 0, 0)) := by decide +kernel
theorem sm_a151_31 : sm_at 151 31 = some (.goto (-29), 3, (0, 0, 0, 0)) := by decide +kernel
theorem sm_a151_34 : sm_at 151 34 = some (.return_, 1, (0, 0, 0, 0)) := by decide +kernel
theorem bb_151_0 {d : Nat} {M : sm_M} {Q : Option sm_V → sm_M → Prop} {a0 : Nat} {x1 : Int32} {x2 : Int32} {z3 : Option sm_V}
    (h : sm_Run d 151 2 [some (.inr (some a0)), some (.inl x1), some (.inl x2), some (.inl 0)] [] M Q) :
    sm_Run d 151 0 [some (.inr (some a0)), some (.inl x1), some (.inl x2), z3] [] M Q := by
  refine ru_go (t := (1, [some (.inr (some a0)), some (.inl x1), some (.inl x2), z3], [.inl 0], M)) sm_a151_0 rfl rfl (st_iconst (by decide)) ?_
  refine ru_go (t := (2, [some (.inr (some a0)), some (.inl x1), some (.inl x2), some (.inl 0)], [], M)) sm_a151_1 rfl rfl rfl ?_
  exact h
theorem bb_151_2 {d : Nat} {M : sm_M} {Q : Option sm_V → sm_M → Prop} {a0 : Nat} {x1 : Int32} {x2 : Int32} {x3 : Int32}
    (h : ((4 ≤ x3 → Q none M) ∧ (¬ (4 ≤ x3) → sm_K M a0 = 39 ∧ ∃ b_3, sm_R M a0 1 = some b_3 ∧ sm_wA 1 M b_3 ∧ sm_in_ M b_3 (x1 + x3) ∧ sm_Run d 151 2 [some (.inr (some a0)), some (.inl x1), some (.inl x2), some (.inl (x3 + 1))] [] (sm_putI M b_3 (x1 + x3).toNatClampNeg ((x2 >>> ((24 - (8 * x3)) &&& 31)) &&& 255)) Q))) :
    sm_Run d 151 2 [some (.inr (some a0)), some (.inl x1), some (.inl x2), some (.inl x3)] [] M Q := by
  refine ru_go (t := (3, [some (.inr (some a0)), some (.inl x1), some (.inl x2), some (.inl x3)], [.inl x3], M)) sm_a151_2 rfl rfl rfl ?_
  refine ru_go (t := (4, [some (.inr (some a0)), some (.inl x1), some (.inl x2), some (.inl x3)], [.inl 4, .inl x3], M)) sm_a151_3 rfl rfl (st_iconst (by decide)) ?_
  refine ru_icmp (pc := 4) (p := 34) (p2 := 7) sm_a151_4 (by decide) rfl ⟨fun hc_1 => ?_, fun hc_1 => ?_⟩
  · have h := h.1 hc_1
    exact ru_ret sm_a151_34 (sm_rvv rfl) h
  · have h := h.2 hc_1
    refine ru_go (t := (8, [some (.inr (some a0)), some (.inl x1), some (.inl x2), some (.inl x3)], [.inr (some a0)], M)) sm_a151_7 rfl rfl rfl ?_
    obtain ⟨h_2, h⟩ := h
    refine ru_go (t := (11, [some (.inr (some a0)), some (.inl x1), some (.inl x2), some (.inl x3)], [.inr (sm_R M a0 1)], M)) sm_a151_8 rfl rfl (st_getR h_2 rfl rfl) ?_
    refine ru_go (t := (12, [some (.inr (some a0)), some (.inl x1), some (.inl x2), some (.inl x3)], [.inl x1, .inr (sm_R M a0 1)], M)) sm_a151_11 rfl rfl rfl ?_
    refine ru_go (t := (13, [some (.inr (some a0)), some (.inl x1), some (.inl x2), some (.inl x3)], [.inl x3, .inl x1, .inr (sm_R M a0 1)], M)) sm_a151_12 rfl rfl rfl ?_
    refine ru_go (t := (14, [some (.inr (some a0)), some (.inl x1), some (.inl x2), some (.inl x3)], [.inl (x1 + x3), .inr (sm_R M a0 1)], M)) sm_a151_13 rfl rfl rfl ?_
    refine ru_go (t := (15, [some (.inr (some a0)), some (.inl x1), some (.inl x2), some (.inl x3)], [.inl x2, .inl (x1 + x3), .inr (sm_R M a0 1)], M)) sm_a151_14 rfl rfl rfl ?_
    refine ru_go (t := (17, [some (.inr (some a0)), some (.inl x1), some (.inl x2), some (.inl x3)], [.inl 24, .inl x2, .inl (x1 + x3), .inr (sm_R M a0 1)], M)) sm_a151_15 rfl rfl (st_bipush (by decide)) ?_
    refine ru_go (t := (19, [some (.inr (some a0)), some (.inl x1), some (.inl x2), some (.inl x3)], [.inl 8, .inl 24, .inl x2, .inl (x1 + x3), .inr (sm_R M a0 1)], M)) sm_a151_17 rfl rfl (st_bipush (by decide)) ?_
    refine ru_go (t := (20, [some (.inr (some a0)), some (.inl x1), some (.inl x2), some (.inl x3)], [.inl x3, .inl 8, .inl 24, .inl x2, .inl (x1 + x3), .inr (sm_R M a0 1)], M)) sm_a151_19 rfl rfl rfl ?_
    refine ru_go (t := (21, [some (.inr (some a0)), some (.inl x1), some (.inl x2), some (.inl x3)], [.inl (8 * x3), .inl 24, .inl x2, .inl (x1 + x3), .inr (sm_R M a0 1)], M)) sm_a151_20 rfl rfl rfl ?_
    refine ru_go (t := (22, [some (.inr (some a0)), some (.inl x1), some (.inl x2), some (.inl x3)], [.inl (24 - (8 * x3)), .inl x2, .inl (x1 + x3), .inr (sm_R M a0 1)], M)) sm_a151_21 rfl rfl rfl ?_
    refine ru_go (t := (23, [some (.inr (some a0)), some (.inl x1), some (.inl x2), some (.inl x3)], [.inl (x2 >>> ((24 - (8 * x3)) &&& 31)), .inl (x1 + x3), .inr (sm_R M a0 1)], M)) sm_a151_22 rfl rfl rfl ?_
    refine ru_go (t := (26, [some (.inr (some a0)), some (.inl x1), some (.inl x2), some (.inl x3)], [.inl 255, .inl (x2 >>> ((24 - (8 * x3)) &&& 31)), .inl (x1 + x3), .inr (sm_R M a0 1)], M)) sm_a151_23 rfl rfl (st_sipush (by decide)) ?_
    refine ru_go (t := (27, [some (.inr (some a0)), some (.inl x1), some (.inl x2), some (.inl x3)], [.inl ((x2 >>> ((24 - (8 * x3)) &&& 31)) &&& 255), .inl (x1 + x3), .inr (sm_R M a0 1)], M)) sm_a151_26 rfl rfl rfl ?_
    obtain ⟨b_3, hb_4, h⟩ := h
    rw [hb_4]
    obtain ⟨h_5, h⟩ := h
    obtain ⟨h_6, h⟩ := h
    refine ru_go (t := (28, [some (.inr (some a0)), some (.inl x1), some (.inl x2), some (.inl x3)], [], sm_putI M b_3 (x1 + x3).toNatClampNeg ((x2 >>> ((24 - (8 * x3)) &&& 31)) &&& 255))) sm_a151_27 rfl rfl (st_iast h_5 h_6) ?_
    refine ru_go (t := (31, [some (.inr (some a0)), some (.inl x1), some (.inl x2), some (.inl (x3 + 1))], [], sm_putI M b_3 (x1 + x3).toNatClampNeg ((x2 >>> ((24 - (8 * x3)) &&& 31)) &&& 255))) sm_a151_28 rfl rfl (st_iinc rfl (by decide)) ?_
    refine ru_go (t := (2, [some (.inr (some a0)), some (.inl x1), some (.inl x2), some (.inl (x3 + 1))], [], sm_putI M b_3 (x1 + x3).toNatClampNeg ((x2 >>> ((24 - (8 * x3)) &&& 31)) &&& 255))) sm_a151_31 rfl rfl (st_goto (pc := 31) (by decide)) ?_
    exact h

/-! WireBusModel.feed:(IIIII)V -/
theorem sm_a152_0 : sm_at 152 0 = some (.aload_n 0, 1, (0, 0, 0, 0)) := by decide +kernel
theorem sm_a152_1 : sm_at 152 1 = some (.iconst 0, 1, (0, 0, 0, 0)) := by decide +kernel
theorem sm_a152_2 : sm_at 152 2 = some (.iload_n 1, 1, (0, 0, 0, 0)) := by decide +kernel
theorem sm_a152_3 : sm_at 152 3 = some (.invokevirtual 235, 3, (10, 151, 12, 1453)) := by decide +kernel
theorem sm_a152_6 : sm_at 152 6 = some (.aload_n 0, 1, (0, 0, 0, 0)) := by decide +kernel
theorem sm_a152_7 : sm_at 152 7 = some (.iconst 4, 1, (0, 0, 0, 0)) := by decide +kernel
theorem sm_a152_8 : sm_at 152 8 = some (.iload_n 2, 1, (0, 0, 0, 0)) := by decide +kernel
theorem sm_a152_9 : sm_at 152 9 = some (.invokevirtual 235, 3, (10, 151, 12, 1453)) := by decide +kernel
theorem sm_a152_12 : sm_at 152 12 = some (.aload_n 0, 1, (0, 0, 0, 0)) := by decide +kernel
theorem sm_a152_13 : sm_at 152 13 = some (.bipush 8, 2, (0, 0, 0, 0)) := by decide +kernel
theorem sm_a152_15 : sm_at 152 15 = some (.iload_n 3, 1, (0, 0, 0, 0)) := by decide +kernel
theorem sm_a152_16 : sm_at 152 16 = some (.invokevirtual 235, 3, (10, 151, 12, 1453)) := by decide +kernel
theorem sm_a152_19 : sm_at 152 19 = some (.aload_n 0, 1, (0, 0, 0, 0)) := by decide +kernel
theorem sm_a152_20 : sm_at 152 20 = some (.bipush 12, 2, (0, 0, 0, 0)) := by decide +kernel
theorem sm_a152_22 : sm_at 152 22 = some (.iload 4, 2, (0, 0, 0, 0)) := by decide +kernel
theorem sm_a152_24 : sm_at 152 24 = some (.invokevirtual 235, 3, (10, 151, 12, 1453)) := by decide +kernel
theorem sm_a152_27 : sm_at 152 27 = some (.aload_n 0, 1, (0, 0, 0, 0)) := by decide +kernel
theorem sm_a152_28 : sm_at 152 28 = some (.bipush 16, 2, (0, 0, 0, 0)) := by decide +kernel
theorem sm_a152_30 : sm_at 152 30 = some (.iload 5, 2, (0, 0, 0, 0)) := by decide +kernel
theorem sm_a152_32 : sm_at 152 32 = some (.invokevirtual 235, 3, (10, 151, 12, 1453)) := by decide +kernel
theorem sm_a152_35 : sm_at 152 35 = some (.return_, 1, (0, 0, 0, 0)) := by decide +kernel
theorem bb_152_0 {d : Nat} {M : sm_M} {Q : Option sm_V → sm_M → Prop} {a0 : Nat} {x1 : Int32} {x2 : Int32} {x3 : Int32} {x4 : Int32} {x5 : Int32}
    (h : sm_K M a0 = 39 ∧ sm_Run d 151 0 (sm_ent 151 [.inr (some a0), .inl 0, .inl x1]) [] M (fun v M1 => sm_Run (d + 1) 152 6 [some (.inr (some a0)), some (.inl x1), some (.inl x2), some (.inl x3), some (.inl x4), some (.inl x5)] (v.toList ++ []) M1 Q)) :
    sm_Run (d + 1) 152 0 [some (.inr (some a0)), some (.inl x1), some (.inl x2), some (.inl x3), some (.inl x4), some (.inl x5)] [] M Q := by
  refine ru_go (t := (1, [some (.inr (some a0)), some (.inl x1), some (.inl x2), some (.inl x3), some (.inl x4), some (.inl x5)], [.inr (some a0)], M)) sm_a152_0 rfl rfl rfl ?_
  refine ru_go (t := (2, [some (.inr (some a0)), some (.inl x1), some (.inl x2), some (.inl x3), some (.inl x4), some (.inl x5)], [.inl 0, .inr (some a0)], M)) sm_a152_1 rfl rfl (st_iconst (by decide)) ?_
  refine ru_go (t := (3, [some (.inr (some a0)), some (.inl x1), some (.inl x2), some (.inl x3), some (.inl x4), some (.inl x5)], [.inl x1, .inl 0, .inr (some a0)], M)) sm_a152_2 rfl rfl rfl ?_
  obtain ⟨h_1, h⟩ := h
  exact ru_call (p := 6) sm_a152_3 rfl (sc_virt (Or.inl rfl) rfl rfl h_1 (Nat.le_of_ble_eq_true rfl)) rfl h
theorem bb_152_6 {d : Nat} {M : sm_M} {Q : Option sm_V → sm_M → Prop} {a0 : Nat} {x1 : Int32} {x2 : Int32} {x3 : Int32} {x4 : Int32} {x5 : Int32}
    (h : sm_K M a0 = 39 ∧ sm_Run d 151 0 (sm_ent 151 [.inr (some a0), .inl 4, .inl x2]) [] M (fun v M1 => sm_Run (d + 1) 152 12 [some (.inr (some a0)), some (.inl x1), some (.inl x2), some (.inl x3), some (.inl x4), some (.inl x5)] (v.toList ++ []) M1 Q)) :
    sm_Run (d + 1) 152 6 [some (.inr (some a0)), some (.inl x1), some (.inl x2), some (.inl x3), some (.inl x4), some (.inl x5)] [] M Q := by
  refine ru_go (t := (7, [some (.inr (some a0)), some (.inl x1), some (.inl x2), some (.inl x3), some (.inl x4), some (.inl x5)], [.inr (some a0)], M)) sm_a152_6 rfl rfl rfl ?_
  refine ru_go (t := (8, [some (.inr (some a0)), some (.inl x1), some (.inl x2), some (.inl x3), some (.inl x4), some (.inl x5)], [.inl 4, .inr (some a0)], M)) sm_a152_7 rfl rfl (st_iconst (by decide)) ?_
  refine ru_go (t := (9, [some (.inr (some a0)), some (.inl x1), some (.inl x2), some (.inl x3), some (.inl x4), some (.inl x5)], [.inl x2, .inl 4, .inr (some a0)], M)) sm_a152_8 rfl rfl rfl ?_
  obtain ⟨h_1, h⟩ := h
  exact ru_call (p := 12) sm_a152_9 rfl (sc_virt (Or.inl rfl) rfl rfl h_1 (Nat.le_of_ble_eq_true rfl)) rfl h
theorem bb_152_12 {d : Nat} {M : sm_M} {Q : Option sm_V → sm_M → Prop} {a0 : Nat} {x1 : Int32} {x2 : Int32} {x3 : Int32} {x4 : Int32} {x5 : Int32}
    (h : sm_K M a0 = 39 ∧ sm_Run d 151 0 (sm_ent 151 [.inr (some a0), .inl 8, .inl x3]) [] M (fun v M1 => sm_Run (d + 1) 152 19 [some (.inr (some a0)), some (.inl x1), some (.inl x2), some (.inl x3), some (.inl x4), some (.inl x5)] (v.toList ++ []) M1 Q)) :
    sm_Run (d + 1) 152 12 [some (.inr (some a0)), some (.inl x1), some (.inl x2), some (.inl x3), some (.inl x4), some (.inl x5)] [] M Q := by
  refine ru_go (t := (13, [some (.inr (some a0)), some (.inl x1), some (.inl x2), some (.inl x3), some (.inl x4), some (.inl x5)], [.inr (some a0)], M)) sm_a152_12 rfl rfl rfl ?_
  refine ru_go (t := (15, [some (.inr (some a0)), some (.inl x1), some (.inl x2), some (.inl x3), some (.inl x4), some (.inl x5)], [.inl 8, .inr (some a0)], M)) sm_a152_13 rfl rfl (st_bipush (by decide)) ?_
  refine ru_go (t := (16, [some (.inr (some a0)), some (.inl x1), some (.inl x2), some (.inl x3), some (.inl x4), some (.inl x5)], [.inl x3, .inl 8, .inr (some a0)], M)) sm_a152_15 rfl rfl rfl ?_
  obtain ⟨h_1, h⟩ := h
  exact ru_call (p := 19) sm_a152_16 rfl (sc_virt (Or.inl rfl) rfl rfl h_1 (Nat.le_of_ble_eq_true rfl)) rfl h
theorem bb_152_19 {d : Nat} {M : sm_M} {Q : Option sm_V → sm_M → Prop} {a0 : Nat} {x1 : Int32} {x2 : Int32} {x3 : Int32} {x4 : Int32} {x5 : Int32}
    (h : sm_K M a0 = 39 ∧ sm_Run d 151 0 (sm_ent 151 [.inr (some a0), .inl 12, .inl x4]) [] M (fun v M1 => sm_Run (d + 1) 152 27 [some (.inr (some a0)), some (.inl x1), some (.inl x2), some (.inl x3), some (.inl x4), some (.inl x5)] (v.toList ++ []) M1 Q)) :
    sm_Run (d + 1) 152 19 [some (.inr (some a0)), some (.inl x1), some (.inl x2), some (.inl x3), some (.inl x4), some (.inl x5)] [] M Q := by
  refine ru_go (t := (20, [some (.inr (some a0)), some (.inl x1), some (.inl x2), some (.inl x3), some (.inl x4), some (.inl x5)], [.inr (some a0)], M)) sm_a152_19 rfl rfl rfl ?_
  refine ru_go (t := (22, [some (.inr (some a0)), some (.inl x1), some (.inl x2), some (.inl x3), some (.inl x4), some (.inl x5)], [.inl 12, .inr (some a0)], M)) sm_a152_20 rfl rfl (st_bipush (by decide)) ?_
  refine ru_go (t := (24, [some (.inr (some a0)), some (.inl x1), some (.inl x2), some (.inl x3), some (.inl x4), some (.inl x5)], [.inl x4, .inl 12, .inr (some a0)], M)) sm_a152_22 rfl rfl rfl ?_
  obtain ⟨h_1, h⟩ := h
  exact ru_call (p := 27) sm_a152_24 rfl (sc_virt (Or.inl rfl) rfl rfl h_1 (Nat.le_of_ble_eq_true rfl)) rfl h
theorem bb_152_27 {d : Nat} {M : sm_M} {Q : Option sm_V → sm_M → Prop} {a0 : Nat} {x1 : Int32} {x2 : Int32} {x3 : Int32} {x4 : Int32} {x5 : Int32}
    (h : sm_K M a0 = 39 ∧ sm_Run d 151 0 (sm_ent 151 [.inr (some a0), .inl 16, .inl x5]) [] M (fun v M1 => sm_Run (d + 1) 152 35 [some (.inr (some a0)), some (.inl x1), some (.inl x2), some (.inl x3), some (.inl x4), some (.inl x5)] (v.toList ++ []) M1 Q)) :
    sm_Run (d + 1) 152 27 [some (.inr (some a0)), some (.inl x1), some (.inl x2), some (.inl x3), some (.inl x4), some (.inl x5)] [] M Q := by
  refine ru_go (t := (28, [some (.inr (some a0)), some (.inl x1), some (.inl x2), some (.inl x3), some (.inl x4), some (.inl x5)], [.inr (some a0)], M)) sm_a152_27 rfl rfl rfl ?_
  refine ru_go (t := (30, [some (.inr (some a0)), some (.inl x1), some (.inl x2), some (.inl x3), some (.inl x4), some (.inl x5)], [.inl 16, .inr (some a0)], M)) sm_a152_28 rfl rfl (st_bipush (by decide)) ?_
  refine ru_go (t := (32, [some (.inr (some a0)), some (.inl x1), some (.inl x2), some (.inl x3), some (.inl x4), some (.inl x5)], [.inl x5, .inl 16, .inr (some a0)], M)) sm_a152_30 rfl rfl rfl ?_
  obtain ⟨h_1, h⟩ := h
  exact ru_call (p := 35) sm_a152_32 rfl (sc_virt (Or.inl rfl) rfl rfl h_1 (Nat.le_of_ble_eq_true rfl)) rfl h
theorem bb_152_35 {d : Nat} {M : sm_M} {Q : Option sm_V → sm_M → Prop} {a0 : Nat} {x1 : Int32} {x2 : Int32} {x3 : Int32} {x4 : Int32} {x5 : Int32}
    (h : Q none M) :
    sm_Run (d + 1) 152 35 [some (.inr (some a0)), some (.inl x1), some (.inl x2), some (.inl x3), some (.inl x4), some (.inl x5)] [] M Q := by
  exact ru_ret sm_a152_35 (sm_rvv rfl) h

/-! WireBusModel.end:(I)I -/
theorem sm_a153_0 : sm_at 153 0 = some (.iload_n 1, 1, (0, 0, 0, 0)) := by decide +kernel
theorem sm_a153_1 : sm_at 153 1 = some (.ifCond .lt 21, 3, (0, 0, 0, 0)) := by decide +kernel
theorem sm_a153_4 : sm_at 153 4 = some (.iload_n 1, 1, (0, 0, 0, 0)) := by decide +kernel
theorem sm_a153_5 : sm_at 153 5 = some (.bipush 20, 2, (0, 0, 0, 0)) := by decide +kernel
theorem sm_a153_7 : sm_at 153 7 = some (.if_icmp .gt 15, 3, (0, 0, 0, 0)) := by decide +kernel
theorem sm_a153_10 : sm_at 153 10 = some (.aload_n 0, 1, (0, 0, 0, 0)) := by decide +kernel
theorem sm_a153_11 : sm_at 153 11 = some (.getfield 239, 3, (12, 3, 0, 1186)) := by decide +kernel
theorem sm_a153_14 : sm_at 153 14 = some (.iload_n 1, 1, (0, 0, 0, 0)) := by decide +kernel
theorem sm_a153_15 : sm_at 153 15 = some (.iadd, 1, (0, 0, 0, 0)) := by decide +kernel
theorem sm_a153_16 : sm_at 153 16 = some (.sipush 200, 3, (0, 0, 0, 0)) := by decide +kernel
theorem sm_a153_19 : sm_at 153 19 = some (.if_icmp .le 5, 3, (0, 0, 0, 0)) := by decide +kernel
theorem sm_a153_22 : sm_at 153 22 = some (.iconst (-1), 1, (0, 0, 0, 0)) := by decide +kernel
theorem sm_a153_23 : sm_at 153 23 = some (.ireturn, 1, (0, 0, 0, 0)) := by decide +kernel
theorem sm_a153_24 : sm_at 153 24 = some (.iconst 0, 1, (0, 0, 0, 0)) := by decide +kernel
theorem sm_a153_25 : sm_at 153 25 = some (.istore_n 2, 1, (0, 0, 0, 0)) := by decide +kernel
theorem sm_a153_26 : sm_at 153 26 = some (.iload_n 2, 1, (0, 0, 0, 0)) := by decide +kernel
theorem sm_a153_27 : sm_at 153 27 = some (.iload_n 1, 1, (0, 0, 0, 0)) := by decide +kernel
theorem sm_a153_28 : sm_at 153 28 = some (.if_icmp .ge 26, 3, (0, 0, 0, 0)) := by decide +kernel
theorem sm_a153_31 : sm_at 153 31 = some (.aload_n 0, 1, (0, 0, 0, 0)) := by decide +kernel
theorem sm_a153_32 : sm_at 153 32 = some (.getfield 13, 3, (12, 2, 0, 1185)) := by decide +kernel
theorem sm_a153_35 : sm_at 153 35 = some (.aload_n 0, 1, (0, 0, 0, 0)) := by decide +kernel
theorem sm_a153_36 : sm_at 153 36 = some (.getfield 239, 3, (12, 3, 0, 1186)) := by decide +kernel
theorem sm_a153_39 : sm_at 153 39 = some (.iload_n 2, 1, (0, 0, 0, 0)) := by decide +kernel
theorem sm_a153_40 : sm_at 153 40 = some (.iadd, 1, (0, 0, 0, 0)) := by decide +kernel
theorem sm_a153_41 : sm_at 153 41 = some (.aload_n 0, 1, (0, 0, 0, 0)) := by decide +kernel
theorem sm_a153_42 : sm_at 153 42 = some (.getfield 7, 3, (12, 1, 0, 1184)) := by decide +kernel
theorem sm_a153_45 : sm_at 153 45 = some (.iload_n 2, 1, (0, 0, 0, 0)) := by decide +kernel
theorem sm_a153_46 : sm_at 153 46 = some (.iaload, 1, (0, 0, 0, 0)) := by decide +kernel
theorem sm_a153_47 : sm_at 153 47 = some (.iastore, 1, (1, 0, 0, 0)) := by decide +kernel
theorem sm_a153_48 : sm_at 153 48 = some (.iinc 2 1, 3, (0, 0, 0, 0)) := by decide +kernel
theorem sm_a153_51 : sm_at 153 51 = some (.goto (-25), 3, (0, 0, 0, 0)) := by decide +kernel
theorem sm_a153_54 : sm_at 153 54 = some (.aload_n 0, 1, (0, 0, 0, 0)) := by decide +kernel
theorem sm_a153_55 : sm_at 153 55 = some (.dup, 1, (0, 0, 0, 0)) := by decide +kernel
theorem sm_a153_56 : sm_at 153 56 = some (.getfield 239, 3, (12, 3, 0, 1186)) := by decide +kernel
theorem sm_a153_59 : sm_at 153 59 = some (.iload_n 1, 1, (0, 0, 0, 0)) := by decide +kernel
theorem sm_a153_60 : sm_at 153 60 = some (.iadd, 1, (0, 0, 0, 0)) := by decide +kernel
theorem sm_a153_61 : sm_at 153 61 = some (.putfield 239, 3, (12, 3, 0, 1186)) := by decide +kernel
theorem sm_a153_64 : sm_at 153 64 = some (.iconst 0, 1, (0, 0, 0, 0)) := by decide +kernel
theorem sm_a153_65 : sm_at 153 65 = some (.istore_n 2, 1, (0, 0, 0, 0)) := by decide +kernel
theorem sm_a153_66 : sm_at 153 66 = some (.iload_n 2, 1, (0, 0, 0, 0)) := by decide +kernel
theorem sm_a153_67 : sm_at 153 67 = some (.bipush 20, 2, (0, 0, 0, 0)) := by decide +kernel
theorem sm_a153_69 : sm_at 153 69 = some (.if_icmp .ge 16, 3, (0, 0, 0, 0)) := by decide +kernel
theorem sm_a153_72 : sm_at 153 72 = some (.aload_n 0, 1, (0, 0, 0, 0)) := by decide +kernel
theorem sm_a153_73 : sm_at 153 73 = some (.getfield 7, 3, (12, 1, 0, 1184)) := by decide +kernel
theorem sm_a153_76 : sm_at 153 76 = some (.iload_n 2, 1, (0, 0, 0, 0)) := by decide +kernel
theorem sm_a153_77 : sm_at 153 77 = some (.iconst 0, 1, (0, 0, 0, 0)) := by decide +kernel
theorem sm_a153_78 : sm_at 153 78 = some (.iastore, 1, (1, 0, 0, 0)) := by decide +kernel
theorem sm_a153_79 : sm_at 153 79 = some (.iinc 2 1, 3, (0, 0, 0, 0)) := by decide +kernel
theorem sm_a153_82 : sm_at 153 82 = some (.goto (-16), 3, (0, 0, 0, 0)) := by decide +kernel
theorem sm_a153_85 : sm_at 153 85 = some (.aload_n 0, 1, (0, 0, 0, 0)) := by decide +kernel
theorem sm_a153_86 : sm_at 153 86 = some (.getfield 239, 3, (12, 3, 0, 1186)) := by decide +kernel
theorem sm_a153_89 : sm_at 153 89 = some (.ireturn, 1, (0, 0, 0, 0)) := by decide +kernel
theorem bb_153_0 {d : Nat} {M : sm_M} {Q : Option sm_V → sm_M → Prop} {a0 : Nat} {x1 : Int32} {z2 : Option sm_V}
    (h : ((x1 < 0 → Q (some (.inl (-1))) M) ∧ (¬ (x1 < 0) → ((20 < x1 → Q (some (.inl (-1))) M) ∧ (¬ (20 < x1) → sm_K M a0 = 39 ∧ ((((sm_I M a0 3) + x1) ≤ 200 → sm_Run d 153 26 [some (.inr (some a0)), some (.inl x1), some (.inl 0)] [] M Q) ∧ (¬ (((sm_I M a0 3) + x1) ≤ 200) → Q (some (.inl (-1))) M))))))) :
    sm_Run d 153 0 [some (.inr (some a0)), some (.inl x1), z2] [] M Q := by
  refine ru_go (t := (1, [some (.inr (some a0)), some (.inl x1), z2], [.inl x1], M)) sm_a153_0 rfl rfl rfl ?_
  refine ru_if (pc := 1) (p := 22) (p2 := 4) sm_a153_1 (by decide) rfl ⟨fun hc_1 => ?_, fun hc_1 => ?_⟩
  · have h := h.1 hc_1
    refine ru_go (t := (23, [some (.inr (some a0)), some (.inl x1), z2], [.inl (-1)], M)) sm_a153_22 rfl rfl (st_iconst (by decide)) ?_
    exact ru_ret sm_a153_23 rfl h
  · have h := h.2 hc_1
    refine ru_go (t := (5, [some (.inr (some a0)), some (.inl x1), z2], [.inl x1], M)) sm_a153_4 rfl rfl rfl ?_
    refine ru_go (t := (7, [some (.inr (some a0)), some (.inl x1), z2], [.inl 20, .inl x1], M)) sm_a153_5 rfl rfl (st_bipush (by decide)) ?_
    refine ru_icmp (pc := 7) (p := 22) (p2 := 10) sm_a153_7 (by decide) rfl ⟨fun hc_2 => ?_, fun hc_2 => ?_⟩
    · have h := h.1 hc_2
      refine ru_go (t := (23, [some (.inr (some a0)), some (.inl x1), z2], [.inl (-1)], M)) sm_a153_22 rfl rfl (st_iconst (by decide)) ?_
      exact ru_ret sm_a153_23 rfl h
    · have h := h.2 hc_2
      refine ru_go (t := (11, [some (.inr (some a0)), some (.inl x1), z2], [.inr (some a0)], M)) sm_a153_10 rfl rfl rfl ?_
      obtain ⟨h_3, h⟩ := h
      refine ru_go (t := (14, [some (.inr (some a0)), some (.inl x1), z2], [.inl (sm_I M a0 3)], M)) sm_a153_11 rfl rfl (st_getI h_3 rfl) ?_
      refine ru_go (t := (15, [some (.inr (some a0)), some (.inl x1), z2], [.inl x1, .inl (sm_I M a0 3)], M)) sm_a153_14 rfl rfl rfl ?_
      refine ru_go (t := (16, [some (.inr (some a0)), some (.inl x1), z2], [.inl ((sm_I M a0 3) + x1)], M)) sm_a153_15 rfl rfl rfl ?_
      refine ru_go (t := (19, [some (.inr (some a0)), some (.inl x1), z2], [.inl 200, .inl ((sm_I M a0 3) + x1)], M)) sm_a153_16 rfl rfl (st_sipush (by decide)) ?_
      refine ru_icmp (pc := 19) (p := 24) (p2 := 22) sm_a153_19 (by decide) rfl ⟨fun hc_4 => ?_, fun hc_4 => ?_⟩
      · have h := h.1 hc_4
        refine ru_go (t := (25, [some (.inr (some a0)), some (.inl x1), z2], [.inl 0], M)) sm_a153_24 rfl rfl (st_iconst (by decide)) ?_
        refine ru_go (t := (26, [some (.inr (some a0)), some (.inl x1), some (.inl 0)], [], M)) sm_a153_25 rfl rfl rfl ?_
        exact h
      · have h := h.2 hc_4
        refine ru_go (t := (23, [some (.inr (some a0)), some (.inl x1), z2], [.inl (-1)], M)) sm_a153_22 rfl rfl (st_iconst (by decide)) ?_
        exact ru_ret sm_a153_23 rfl h
theorem bb_153_26 {d : Nat} {M : sm_M} {Q : Option sm_V → sm_M → Prop} {a0 : Nat} {x1 : Int32} {x2 : Int32}
    (h : ((x1 ≤ x2 → sm_K M a0 = 39 ∧ sm_Run d 153 66 [some (.inr (some a0)), some (.inl x1), some (.inl 0)] [] (sm_putI M a0 3 ((sm_I M a0 3) + x1)) Q) ∧ (¬ (x1 ≤ x2) → sm_K M a0 = 39 ∧ ∃ b_4, sm_R M a0 1 = some b_4 ∧ sm_iA M b_4 ∧ sm_in_ M b_4 x2 ∧ ∃ b_8, sm_R M a0 2 = some b_8 ∧ sm_wA 1 M b_8 ∧ sm_in_ M b_8 ((sm_I M a0 3) + x2) ∧ sm_Run d 153 26 [some (.inr (some a0)), some (.inl x1), some (.inl (x2 + 1))] [] (sm_putI M b_8 ((sm_I M a0 3) + x2).toNatClampNeg (sm_I M b_4 (x2).toNatClampNeg)) Q))) :
    sm_Run d 153 26 [some (.inr (some a0)), some (.inl x1), some (.inl x2)] [] M Q := by
  refine ru_go (t := (27, [some (.inr (some a0)), some (.inl x1), some (.inl x2)], [.inl x2], M)) sm_a153_26 rfl rfl rfl ?_
  refine ru_go (t := (28, [some (.inr (some a0)), some (.inl x1), some (.inl x2)], [.inl x1, .inl x2], M)) sm_a153_27 rfl rfl rfl ?_
  refine ru_icmp (pc := 28) (p := 54) (p2 := 31) sm_a153_28 (by decide) rfl ⟨fun hc_1 => ?_, fun hc_1 => ?_⟩
  · have h := h.1 hc_1
    refine ru_go (t := (55, [some (.inr (some a0)), some (.inl x1), some (.inl x2)], [.inr (some a0)], M)) sm_a153_54 rfl rfl rfl ?_
    refine ru_go (t := (56, [some (.inr (some a0)), some (.inl x1), some (.inl x2)], [.inr (some a0), .inr (some a0)], M)) sm_a153_55 rfl rfl rfl ?_
    obtain ⟨h_2, h⟩ := h
    refine ru_go (t := (59, [some (.inr (some a0)), some (.inl x1), some (.inl x2)], [.inl (sm_I M a0 3), .inr (some a0)], M)) sm_a153_56 rfl rfl (st_getI h_2 rfl) ?_
    refine ru_go (t := (60, [some (.inr (some a0)), some (.inl x1), some (.inl x2)], [.inl x1, .inl (sm_I M a0 3), .inr (some a0)], M)) sm_a153_59 rfl rfl rfl ?_
    refine ru_go (t := (61, [some (.inr (some a0)), some (.inl x1), some (.inl x2)], [.inl ((sm_I M a0 3) + x1), .inr (some a0)], M)) sm_a153_60 rfl rfl rfl ?_
    refine ru_go (t := (64, [some (.inr (some a0)), some (.inl x1), some (.inl x2)], [], sm_putI M a0 3 ((sm_I M a0 3) + x1))) sm_a153_61 rfl rfl (st_putI h_2 rfl) ?_
    refine ru_go (t := (65, [some (.inr (some a0)), some (.inl x1), some (.inl x2)], [.inl 0], sm_putI M a0 3 ((sm_I M a0 3) + x1))) sm_a153_64 rfl rfl (st_iconst (by decide)) ?_
    refine ru_go (t := (66, [some (.inr (some a0)), some (.inl x1), some (.inl 0)], [], sm_putI M a0 3 ((sm_I M a0 3) + x1))) sm_a153_65 rfl rfl rfl ?_
    exact h
  · have h := h.2 hc_1
    refine ru_go (t := (32, [some (.inr (some a0)), some (.inl x1), some (.inl x2)], [.inr (some a0)], M)) sm_a153_31 rfl rfl rfl ?_
    obtain ⟨h_3, h⟩ := h
    refine ru_go (t := (35, [some (.inr (some a0)), some (.inl x1), some (.inl x2)], [.inr (sm_R M a0 2)], M)) sm_a153_32 rfl rfl (st_getR h_3 rfl rfl) ?_
    refine ru_go (t := (36, [some (.inr (some a0)), some (.inl x1), some (.inl x2)], [.inr (some a0), .inr (sm_R M a0 2)], M)) sm_a153_35 rfl rfl rfl ?_
    refine ru_go (t := (39, [some (.inr (some a0)), some (.inl x1), some (.inl x2)], [.inl (sm_I M a0 3), .inr (sm_R M a0 2)], M)) sm_a153_36 rfl rfl (st_getI h_3 rfl) ?_
    refine ru_go (t := (40, [some (.inr (some a0)), some (.inl x1), some (.inl x2)], [.inl x2, .inl (sm_I M a0 3), .inr (sm_R M a0 2)], M)) sm_a153_39 rfl rfl rfl ?_
    refine ru_go (t := (41, [some (.inr (some a0)), some (.inl x1), some (.inl x2)], [.inl ((sm_I M a0 3) + x2), .inr (sm_R M a0 2)], M)) sm_a153_40 rfl rfl rfl ?_
    refine ru_go (t := (42, [some (.inr (some a0)), some (.inl x1), some (.inl x2)], [.inr (some a0), .inl ((sm_I M a0 3) + x2), .inr (sm_R M a0 2)], M)) sm_a153_41 rfl rfl rfl ?_
    refine ru_go (t := (45, [some (.inr (some a0)), some (.inl x1), some (.inl x2)], [.inr (sm_R M a0 1), .inl ((sm_I M a0 3) + x2), .inr (sm_R M a0 2)], M)) sm_a153_42 rfl rfl (st_getR h_3 rfl rfl) ?_
    refine ru_go (t := (46, [some (.inr (some a0)), some (.inl x1), some (.inl x2)], [.inl x2, .inr (sm_R M a0 1), .inl ((sm_I M a0 3) + x2), .inr (sm_R M a0 2)], M)) sm_a153_45 rfl rfl rfl ?_
    obtain ⟨b_4, hb_5, h⟩ := h
    rw [hb_5]
    obtain ⟨h_6, h⟩ := h
    obtain ⟨h_7, h⟩ := h
    refine ru_go (t := (47, [some (.inr (some a0)), some (.inl x1), some (.inl x2)], [.inl (sm_I M b_4 (x2).toNatClampNeg), .inl ((sm_I M a0 3) + x2), .inr (sm_R M a0 2)], M)) sm_a153_46 rfl rfl (st_iald h_6 h_7) ?_
    obtain ⟨b_8, hb_9, h⟩ := h
    rw [hb_9]
    obtain ⟨h_10, h⟩ := h
    obtain ⟨h_11, h⟩ := h
    refine ru_go (t := (48, [some (.inr (some a0)), some (.inl x1), some (.inl x2)], [], sm_putI M b_8 ((sm_I M a0 3) + x2).toNatClampNeg (sm_I M b_4 (x2).toNatClampNeg))) sm_a153_47 rfl rfl (st_iast h_10 h_11) ?_
    refine ru_go (t := (51, [some (.inr (some a0)), some (.inl x1), some (.inl (x2 + 1))], [], sm_putI M b_8 ((sm_I M a0 3) + x2).toNatClampNeg (sm_I M b_4 (x2).toNatClampNeg))) sm_a153_48 rfl rfl (st_iinc rfl (by decide)) ?_
    refine ru_go (t := (26, [some (.inr (some a0)), some (.inl x1), some (.inl (x2 + 1))], [], sm_putI M b_8 ((sm_I M a0 3) + x2).toNatClampNeg (sm_I M b_4 (x2).toNatClampNeg))) sm_a153_51 rfl rfl (st_goto (pc := 51) (by decide)) ?_
    exact h
theorem bb_153_66 {d : Nat} {M : sm_M} {Q : Option sm_V → sm_M → Prop} {a0 : Nat} {x1 : Int32} {x2 : Int32}
    (h : ((20 ≤ x2 → sm_K M a0 = 39 ∧ Q (some (.inl (sm_I M a0 3))) M) ∧ (¬ (20 ≤ x2) → sm_K M a0 = 39 ∧ ∃ b_4, sm_R M a0 1 = some b_4 ∧ sm_wA 1 M b_4 ∧ sm_in_ M b_4 x2 ∧ sm_Run d 153 66 [some (.inr (some a0)), some (.inl x1), some (.inl (x2 + 1))] [] (sm_putI M b_4 (x2).toNatClampNeg 0) Q))) :
    sm_Run d 153 66 [some (.inr (some a0)), some (.inl x1), some (.inl x2)] [] M Q := by
  refine ru_go (t := (67, [some (.inr (some a0)), some (.inl x1), some (.inl x2)], [.inl x2], M)) sm_a153_66 rfl rfl rfl ?_
  refine ru_go (t := (69, [some (.inr (some a0)), some (.inl x1), some (.inl x2)], [.inl 20, .inl x2], M)) sm_a153_67 rfl rfl (st_bipush (by decide)) ?_
  refine ru_icmp (pc := 69) (p := 85) (p2 := 72) sm_a153_69 (by decide) rfl ⟨fun hc_1 => ?_, fun hc_1 => ?_⟩
  · have h := h.1 hc_1
    refine ru_go (t := (86, [some (.inr (some a0)), some (.inl x1), some (.inl x2)], [.inr (some a0)], M)) sm_a153_85 rfl rfl rfl ?_
    obtain ⟨h_2, h⟩ := h
    refine ru_go (t := (89, [some (.inr (some a0)), some (.inl x1), some (.inl x2)], [.inl (sm_I M a0 3)], M)) sm_a153_86 rfl rfl (st_getI h_2 rfl) ?_
    exact ru_ret sm_a153_89 rfl h
  · have h := h.2 hc_1
    refine ru_go (t := (73, [some (.inr (some a0)), some (.inl x1), some (.inl x2)], [.inr (some a0)], M)) sm_a153_72 rfl rfl rfl ?_
    obtain ⟨h_3, h⟩ := h
    refine ru_go (t := (76, [some (.inr (some a0)), some (.inl x1), some (.inl x2)], [.inr (sm_R M a0 1)], M)) sm_a153_73 rfl rfl (st_getR h_3 rfl rfl) ?_
    refine ru_go (t := (77, [some (.inr (some a0)), some (.inl x1), some (.inl x2)], [.inl x2, .inr (sm_R M a0 1)], M)) sm_a153_76 rfl rfl rfl ?_
    refine ru_go (t := (78, [some (.inr (some a0)), some (.inl x1), some (.inl x2)], [.inl 0, .inl x2, .inr (sm_R M a0 1)], M)) sm_a153_77 rfl rfl (st_iconst (by decide)) ?_
    obtain ⟨b_4, hb_5, h⟩ := h
    rw [hb_5]
    obtain ⟨h_6, h⟩ := h
    obtain ⟨h_7, h⟩ := h
    refine ru_go (t := (79, [some (.inr (some a0)), some (.inl x1), some (.inl x2)], [], sm_putI M b_4 (x2).toNatClampNeg 0)) sm_a153_78 rfl rfl (st_iast h_6 h_7) ?_
    refine ru_go (t := (82, [some (.inr (some a0)), some (.inl x1), some (.inl (x2 + 1))], [], sm_putI M b_4 (x2).toNatClampNeg 0)) sm_a153_79 rfl rfl (st_iinc rfl (by decide)) ?_
    refine ru_go (t := (66, [some (.inr (some a0)), some (.inl x1), some (.inl (x2 + 1))], [], sm_putI M b_4 (x2).toNatClampNeg 0)) sm_a153_82 rfl rfl (st_goto (pc := 82) (by decide)) ?_
    exact h

/-! WireBusModel.drop:(I)V -/
theorem sm_a154_0 : sm_at 154 0 = some (.iload_n 1, 1, (0, 0, 0, 0)) := by decide +kernel
theorem sm_a154_1 : sm_at 154 1 = some (.istore_n 2, 1, (0, 0, 0, 0)) := by decide +kernel
theorem sm_a154_2 : sm_at 154 2 = some (.iload_n 2, 1, (0, 0, 0, 0)) := by decide +kernel
theorem sm_a154_3 : sm_at 154 3 = some (.aload_n 0, 1, (0, 0, 0, 0)) := by decide +kernel
theorem sm_a154_4 : sm_at 154 4 = some (.getfield 239, 3, (12, 3, 0, 1186)) := by decide +kernel
theorem sm_a154_7 : sm_at 154 7 = some (.if_icmp .ge 23, 3, (0, 0, 0, 0)) := by decide +kernel
theorem sm_a154_10 : sm_at 154 10 = some (.aload_n 0, 1, (0, 0, 0, 0)) := by decide +kernel
theorem sm_a154_11 : sm_at 154 11 = some (.getfield 13, 3, (12, 2, 0, 1185)) := by decide +kernel
theorem sm_a154_14 : sm_at 154 14 = some (.iload_n 2, 1, (0, 0, 0, 0)) := by decide +kernel
theorem sm_a154_15 : sm_at 154 15 = some (.iload_n 1, 1, (0, 0, 0, 0)) := by decide +kernel
theorem sm_a154_16 : sm_at 154 16 = some (.isub, 1, (0, 0, 0, 0)) := by decide +kernel
theorem sm_a154_17 : sm_at 154 17 = some (.aload_n 0, 1, (0, 0, 0, 0)) := by decide +kernel
theorem sm_a154_18 : sm_at 154 18 = some (.getfield 13, 3, (12, 2, 0, 1185)) := by decide +kernel
theorem sm_a154_21 : sm_at 154 21 = some (.iload_n 2, 1, (0, 0, 0, 0)) := by decide +kernel
theorem sm_a154_22 : sm_at 154 22 = some (.iaload, 1, (0, 0, 0, 0)) := by decide +kernel
theorem sm_a154_23 : sm_at 154 23 = some (.iastore, 1, (1, 0, 0, 0)) := by decide +kernel
theorem sm_a154_24 : sm_at 154 24 = some (.iinc 2 1, 3, (0, 0, 0, 0)) := by decide +kernel
theorem sm_a154_27 : sm_at 154 27 = some (.goto (-25), 3, (0, 0, 0, 0)) := by decide +kernel
theorem sm_a154_30 : sm_at 154 30 = some (.aload_n 0, 1, (0, 0, 0, 0)) := by decide +kernel
theorem sm_a154_31 : sm_at 154 31 = some (.dup, 1, (0, 0, 0, 0)) := by decide +kernel
theorem sm_a154_32 : sm_at 154 32 = some (.getfield 239, 3, (12, 3, 0, 1186)) := by decide +kernel
theorem sm_a154_35 : sm_at 154 35 = some (.iload_n 1, 1, (0, 0, 0, 0)) := by decide +kernel
theorem sm_a154_36 : sm_at 154 36 = some (.isub, 1, (0, 0, 0, 0)) := by decide +kernel
theorem sm_a154_37 : sm_at 154 37 = some (.putfield 239, 3, (12, 3, 0, 1186)) := by decide +kernel
theorem sm_a154_40 : sm_at 154 40 = some (.return_, 1, (0, 0, 0, 0)) := by decide +kernel
theorem bb_154_0 {d : Nat} {M : sm_M} {Q : Option sm_V → sm_M → Prop} {a0 : Nat} {x1 : Int32} {z2 : Option sm_V}
    (h : sm_Run d 154 2 [some (.inr (some a0)), some (.inl x1), some (.inl x1)] [] M Q) :
    sm_Run d 154 0 [some (.inr (some a0)), some (.inl x1), z2] [] M Q := by
  refine ru_go (t := (1, [some (.inr (some a0)), some (.inl x1), z2], [.inl x1], M)) sm_a154_0 rfl rfl rfl ?_
  refine ru_go (t := (2, [some (.inr (some a0)), some (.inl x1), some (.inl x1)], [], M)) sm_a154_1 rfl rfl rfl ?_
  exact h
theorem bb_154_2 {d : Nat} {M : sm_M} {Q : Option sm_V → sm_M → Prop} {a0 : Nat} {x1 : Int32} {x2 : Int32}
    (h : sm_K M a0 = 39 ∧ (((sm_I M a0 3) ≤ x2 → Q none (sm_putI M a0 3 ((sm_I M a0 3) - x1))) ∧ (¬ ((sm_I M a0 3) ≤ x2) → ∃ b_3, sm_R M a0 2 = some b_3 ∧ sm_iA M b_3 ∧ sm_in_ M b_3 x2 ∧ sm_wA 1 M b_3 ∧ sm_in_ M b_3 (x2 - x1) ∧ sm_Run d 154 2 [some (.inr (some a0)), some (.inl x1), some (.inl (x2 + 1))] [] (sm_putI M b_3 (x2 - x1).toNatClampNeg (sm_I M b_3 (x2).toNatClampNeg)) Q))) :
    sm_Run d 154 2 [some (.inr (some a0)), some (.inl x1), some (.inl x2)] [] M Q := by
  refine ru_go (t := (3, [some (.inr (some a0)), some (.inl x1), some (.inl x2)], [.inl x2], M)) sm_a154_2 rfl rfl rfl ?_
  refine ru_go (t := (4, [some (.inr (some a0)), some (.inl x1), some (.inl x2)], [.inr (some a0), .inl x2], M)) sm_a154_3 rfl rfl rfl ?_
  obtain ⟨h_1, h⟩ := h
  refine ru_go (t := (7, [some (.inr (some a0)), some (.inl x1), some (.inl x2)], [.inl (sm_I M a0 3), .inl x2], M)) sm_a154_4 rfl rfl (st_getI h_1 rfl) ?_
  refine ru_icmp (pc := 7) (p := 30) (p2 := 10) sm_a154_7 (by decide) rfl ⟨fun hc_2 => ?_, fun hc_2 => ?_⟩
  · have h := h.1 hc_2
    refine ru_go (t := (31, [some (.inr (some a0)), some (.inl x1), some (.inl x2)], [.inr (some a0)], M)) sm_a154_30 rfl rfl rfl ?_
    refine ru_go (t := (32, [some (.inr (some a0)), some (.inl x1), some (.inl x2)], [.inr (some a0), .inr (some a0)], M)) sm_a154_31 rfl rfl rfl ?_
    refine ru_go (t := (35, [some (.inr (some a0)), some (.inl x1), some (.inl x2)], [.inl (sm_I M a0 3), .inr (some a0)], M)) sm_a154_32 rfl rfl (st_getI h_1 rfl) ?_
    refine ru_go (t := (36, [some (.inr (some a0)), some (.inl x1), some (.inl x2)], [.inl x1, .inl (sm_I M a0 3), .inr (some a0)], M)) sm_a154_35 rfl rfl rfl ?_
    refine ru_go (t := (37, [some (.inr (some a0)), some (.inl x1), some (.inl x2)], [.inl ((sm_I M a0 3) - x1), .inr (some a0)], M)) sm_a154_36 rfl rfl rfl ?_
    refine ru_go (t := (40, [some (.inr (some a0)), some (.inl x1), some (.inl x2)], [], sm_putI M a0 3 ((sm_I M a0 3) - x1))) sm_a154_37 rfl rfl (st_putI h_1 rfl) ?_
    exact ru_ret sm_a154_40 (sm_rvv rfl) h
  · have h := h.2 hc_2
    refine ru_go (t := (11, [some (.inr (some a0)), some (.inl x1), some (.inl x2)], [.inr (some a0)], M)) sm_a154_10 rfl rfl rfl ?_
    refine ru_go (t := (14, [some (.inr (some a0)), some (.inl x1), some (.inl x2)], [.inr (sm_R M a0 2)], M)) sm_a154_11 rfl rfl (st_getR h_1 rfl rfl) ?_
    refine ru_go (t := (15, [some (.inr (some a0)), some (.inl x1), some (.inl x2)], [.inl x2, .inr (sm_R M a0 2)], M)) sm_a154_14 rfl rfl rfl ?_
    refine ru_go (t := (16, [some (.inr (some a0)), some (.inl x1), some (.inl x2)], [.inl x1, .inl x2, .inr (sm_R M a0 2)], M)) sm_a154_15 rfl rfl rfl ?_
    refine ru_go (t := (17, [some (.inr (some a0)), some (.inl x1), some (.inl x2)], [.inl (x2 - x1), .inr (sm_R M a0 2)], M)) sm_a154_16 rfl rfl rfl ?_
    refine ru_go (t := (18, [some (.inr (some a0)), some (.inl x1), some (.inl x2)], [.inr (some a0), .inl (x2 - x1), .inr (sm_R M a0 2)], M)) sm_a154_17 rfl rfl rfl ?_
    refine ru_go (t := (21, [some (.inr (some a0)), some (.inl x1), some (.inl x2)], [.inr (sm_R M a0 2), .inl (x2 - x1), .inr (sm_R M a0 2)], M)) sm_a154_18 rfl rfl (st_getR h_1 rfl rfl) ?_
    refine ru_go (t := (22, [some (.inr (some a0)), some (.inl x1), some (.inl x2)], [.inl x2, .inr (sm_R M a0 2), .inl (x2 - x1), .inr (sm_R M a0 2)], M)) sm_a154_21 rfl rfl rfl ?_
    obtain ⟨b_3, hb_4, h⟩ := h
    rw [hb_4]
    obtain ⟨h_5, h⟩ := h
    obtain ⟨h_6, h⟩ := h
    refine ru_go (t := (23, [some (.inr (some a0)), some (.inl x1), some (.inl x2)], [.inl (sm_I M b_3 (x2).toNatClampNeg), .inl (x2 - x1), .inr (some b_3)], M)) sm_a154_22 rfl rfl (st_iald h_5 h_6) ?_
    obtain ⟨h_7, h⟩ := h
    obtain ⟨h_8, h⟩ := h
    refine ru_go (t := (24, [some (.inr (some a0)), some (.inl x1), some (.inl x2)], [], sm_putI M b_3 (x2 - x1).toNatClampNeg (sm_I M b_3 (x2).toNatClampNeg))) sm_a154_23 rfl rfl (st_iast h_7 h_8) ?_
    refine ru_go (t := (27, [some (.inr (some a0)), some (.inl x1), some (.inl (x2 + 1))], [], sm_putI M b_3 (x2 - x1).toNatClampNeg (sm_I M b_3 (x2).toNatClampNeg))) sm_a154_24 rfl rfl (st_iinc rfl (by decide)) ?_
    refine ru_go (t := (2, [some (.inr (some a0)), some (.inl x1), some (.inl (x2 + 1))], [], sm_putI M b_3 (x2 - x1).toNatClampNeg (sm_I M b_3 (x2).toNatClampNeg))) sm_a154_27 rfl rfl (st_goto (pc := 27) (by decide)) ?_
    exact h

/-! WireBusModel.pointOf:(II)I -/
theorem sm_a155_0 : sm_at 155 0 = some (.iload_n 1, 1, (0, 0, 0, 0)) := by decide +kernel
theorem sm_a155_1 : sm_at 155 1 = some (.ifCond .lt 8, 3, (0, 0, 0, 0)) := by decide +kernel
theorem sm_a155_4 : sm_at 155 4 = some (.iload_n 1, 1, (0, 0, 0, 0)) := by decide +kernel
theorem sm_a155_5 : sm_at 155 5 = some (.iconst 5, 1, (0, 0, 0, 0)) := by decide +kernel
theorem sm_a155_6 : sm_at 155 6 = some (.if_icmp .le 5, 3, (0, 0, 0, 0)) := by decide +kernel
theorem sm_a155_9 : sm_at 155 9 = some (.iconst (-1), 1, (0, 0, 0, 0)) := by decide +kernel
theorem sm_a155_10 : sm_at 155 10 = some (.ireturn, 1, (0, 0, 0, 0)) := by decide +kernel
theorem sm_a155_11 : sm_at 155 11 = some (.iconst 0, 1, (0, 0, 0, 0)) := by decide +kernel
theorem sm_a155_12 : sm_at 155 12 = some (.istore_n 3, 1, (0, 0, 0, 0)) := by decide +kernel
theorem sm_a155_13 : sm_at 155 13 = some (.iload_n 3, 1, (0, 0, 0, 0)) := by decide +kernel
theorem sm_a155_14 : sm_at 155 14 = some (.aload_n 0, 1, (0, 0, 0, 0)) := by decide +kernel
theorem sm_a155_15 : sm_at 155 15 = some (.getfield 31, 3, (12, 9, 0, 1192)) := by decide +kernel
theorem sm_a155_18 : sm_at 155 18 = some (.iload_n 1, 1, (0, 0, 0, 0)) := by decide +kernel
theorem sm_a155_19 : sm_at 155 19 = some (.iaload, 1, (0, 0, 0, 0)) := by decide +kernel
theorem sm_a155_20 : sm_at 155 20 = some (.if_icmp .ge 31, 3, (0, 0, 0, 0)) := by decide +kernel
theorem sm_a155_23 : sm_at 155 23 = some (.aload_n 0, 1, (0, 0, 0, 0)) := by decide +kernel
theorem sm_a155_24 : sm_at 155 24 = some (.getfield 34, 3, (12, 10, 0, 1193)) := by decide +kernel
theorem sm_a155_27 : sm_at 155 27 = some (.bipush 6, 2, (0, 0, 0, 0)) := by decide +kernel
theorem sm_a155_29 : sm_at 155 29 = some (.iload_n 1, 1, (0, 0, 0, 0)) := by decide +kernel
theorem sm_a155_30 : sm_at 155 30 = some (.imul, 1, (0, 0, 0, 0)) := by decide +kernel
theorem sm_a155_31 : sm_at 155 31 = some (.iload_n 3, 1, (0, 0, 0, 0)) := by decide +kernel
theorem sm_a155_32 : sm_at 155 32 = some (.iadd, 1, (0, 0, 0, 0)) := by decide +kernel
theorem sm_a155_33 : sm_at 155 33 = some (.iaload, 1, (0, 0, 0, 0)) := by decide +kernel
theorem sm_a155_34 : sm_at 155 34 = some (.iload_n 2, 1, (0, 0, 0, 0)) := by decide +kernel
theorem sm_a155_35 : sm_at 155 35 = some (.if_icmp .ne 10, 3, (0, 0, 0, 0)) := by decide +kernel
theorem sm_a155_38 : sm_at 155 38 = some (.bipush 6, 2, (0, 0, 0, 0)) := by decide +kernel
theorem sm_a155_40 : sm_at 155 40 = some (.iload_n 1, 1, (0, 0, 0, 0)) := by decide +kernel
theorem sm_a155_41 : sm_at 155 41 = some (.imul, 1, (0, 0, 0, 0)) := by decide +kernel
theorem sm_a155_42 : sm_at 155 42 = some (.iload_n 3, 1, (0, 0, 0, 0)) := by decide +kernel
theorem sm_a155_43 : sm_at 155 43 = some (.iadd, 1, (0, 0, 0, 0)) := by decide +kernel
theorem sm_a155_44 : sm_at 155 44 = some (.ireturn, 1, (0, 0, 0, 0)) := by decide +kernel
theorem sm_a155_45 : sm_at 155 45 = some (.iinc 3 1, 3, (0, 0, 0, 0)) := by decide +kernel
theorem sm_a155_48 : sm_at 155 48 = some (.goto (-35), 3, (0, 0, 0, 0)) := by decide +kernel
theorem sm_a155_51 : sm_at 155 51 = some (.iconst (-1), 1, (0, 0, 0, 0)) := by decide +kernel
theorem sm_a155_52 : sm_at 155 52 = some (.ireturn, 1, (0, 0, 0, 0)) := by decide +kernel
theorem bb_155_0 {d : Nat} {M : sm_M} {Q : Option sm_V → sm_M → Prop} {a0 : Nat} {x1 : Int32} {x2 : Int32} {z3 : Option sm_V}
    (h : ((x1 < 0 → Q (some (.inl (-1))) M) ∧ (¬ (x1 < 0) → ((x1 ≤ 5 → sm_Run d 155 13 [some (.inr (some a0)), some (.inl x1), some (.inl x2), some (.inl 0)] [] M Q) ∧ (¬ (x1 ≤ 5) → Q (some (.inl (-1))) M))))) :
    sm_Run d 155 0 [some (.inr (some a0)), some (.inl x1), some (.inl x2), z3] [] M Q := by
  refine ru_go (t := (1, [some (.inr (some a0)), some (.inl x1), some (.inl x2), z3], [.inl x1], M)) sm_a155_0 rfl rfl rfl ?_
  refine ru_if (pc := 1) (p := 9) (p2 := 4) sm_a155_1 (by decide) rfl ⟨fun hc_1 => ?_, fun hc_1 => ?_⟩
  · have h := h.1 hc_1
    refine ru_go (t := (10, [some (.inr (some a0)), some (.inl x1), some (.inl x2), z3], [.inl (-1)], M)) sm_a155_9 rfl rfl (st_iconst (by decide)) ?_
    exact ru_ret sm_a155_10 rfl h
  · have h := h.2 hc_1
    refine ru_go (t := (5, [some (.inr (some a0)), some (.inl x1), some (.inl x2), z3], [.inl x1], M)) sm_a155_4 rfl rfl rfl ?_
    refine ru_go (t := (6, [some (.inr (some a0)), some (.inl x1), some (.inl x2), z3], [.inl 5, .inl x1], M)) sm_a155_5 rfl rfl (st_iconst (by decide)) ?_
    refine ru_icmp (pc := 6) (p := 11) (p2 := 9) sm_a155_6 (by decide) rfl ⟨fun hc_2 => ?_, fun hc_2 => ?_⟩
    · have h := h.1 hc_2
      refine ru_go (t := (12, [some (.inr (some a0)), some (.inl x1), some (.inl x2), z3], [.inl 0], M)) sm_a155_11 rfl rfl (st_iconst (by decide)) ?_
      refine ru_go (t := (13, [some (.inr (some a0)), some (.inl x1), some (.inl x2), some (.inl 0)], [], M)) sm_a155_12 rfl rfl rfl ?_
      exact h
    · have h := h.2 hc_2
      refine ru_go (t := (10, [some (.inr (some a0)), some (.inl x1), some (.inl x2), z3], [.inl (-1)], M)) sm_a155_9 rfl rfl (st_iconst (by decide)) ?_
      exact ru_ret sm_a155_10 rfl h
theorem bb_155_13 {d : Nat} {M : sm_M} {Q : Option sm_V → sm_M → Prop} {a0 : Nat} {x1 : Int32} {x2 : Int32} {x3 : Int32}
    (h : sm_K M a0 = 39 ∧ ∃ b_2, sm_R M a0 9 = some b_2 ∧ sm_iA M b_2 ∧ sm_in_ M b_2 x1 ∧ (((sm_I M b_2 (x1).toNatClampNeg) ≤ x3 → Q (some (.inl (-1))) M) ∧ (¬ ((sm_I M b_2 (x1).toNatClampNeg) ≤ x3) → ∃ b_7, sm_R M a0 10 = some b_7 ∧ sm_iA M b_7 ∧ sm_in_ M b_7 ((6 * x1) + x3) ∧ ((¬ (sm_I M b_7 ((6 * x1) + x3).toNatClampNeg) = x2 → sm_Run d 155 13 [some (.inr (some a0)), some (.inl x1), some (.inl x2), some (.inl (x3 + 1))] [] M Q) ∧ (¬ (¬ (sm_I M b_7 ((6 * x1) + x3).toNatClampNeg) = x2) → Q (some (.inl ((6 * x1) + x3))) M))))) :
    sm_Run d 155 13 [some (.inr (some a0)), some (.inl x1), some (.inl x2), some (.inl x3)] [] M Q := by
  refine ru_go (t := (14, [some (.inr (some a0)), some (.inl x1), some (.inl x2), some (.inl x3)], [.inl x3], M)) sm_a155_13 rfl rfl rfl ?_
  refine ru_go (t := (15, [some (.inr (some a0)), some (.inl x1), some (.inl x2), some (.inl x3)], [.inr (some a0), .inl x3], M)) sm_a155_14 rfl rfl rfl ?_
  obtain ⟨h_1, h⟩ := h
  refine ru_go (t := (18, [some (.inr (some a0)), some (.inl x1), some (.inl x2), some (.inl x3)], [.inr (sm_R M a0 9), .inl x3], M)) sm_a155_15 rfl rfl (st_getR h_1 rfl rfl) ?_
  refine ru_go (t := (19, [some (.inr (some a0)), some (.inl x1), some (.inl x2), some (.inl x3)], [.inl x1, .inr (sm_R M a0 9), .inl x3], M)) sm_a155_18 rfl rfl rfl ?_
  obtain ⟨b_2, hb_3, h⟩ := h
  rw [hb_3]
  obtain ⟨h_4, h⟩ := h
  obtain ⟨h_5, h⟩ := h
  refine ru_go (t := (20, [some (.inr (some a0)), some (.inl x1), some (.inl x2), some (.inl x3)], [.inl (sm_I M b_2 (x1).toNatClampNeg), .inl x3], M)) sm_a155_19 rfl rfl (st_iald h_4 h_5) ?_
  refine ru_icmp (pc := 20) (p := 51) (p2 := 23) sm_a155_20 (by decide) rfl ⟨fun hc_6 => ?_, fun hc_6 => ?_⟩
  · have h := h.1 hc_6
    refine ru_go (t := (52, [some (.inr (some a0)), some (.inl x1), some (.inl x2), some (.inl x3)], [.inl (-1)], M)) sm_a155_51 rfl rfl (st_iconst (by decide)) ?_
    exact ru_ret sm_a155_52 rfl h
  · have h := h.2 hc_6
    refine ru_go (t := (24, [some (.inr (some a0)), some (.inl x1), some (.inl x2), some (.inl x3)], [.inr (some a0)], M)) sm_a155_23 rfl rfl rfl ?_
    refine ru_go (t := (27, [some (.inr (some a0)), some (.inl x1), some (.inl x2), some (.inl x3)], [.inr (sm_R M a0 10)], M)) sm_a155_24 rfl rfl (st_getR h_1 rfl rfl) ?_
    refine ru_go (t := (29, [some (.inr (some a0)), some (.inl x1), some (.inl x2), some (.inl x3)], [.inl 6, .inr (sm_R M a0 10)], M)) sm_a155_27 rfl rfl (st_bipush (by decide)) ?_
    refine ru_go (t := (30, [some (.inr (some a0)), some (.inl x1), some (.inl x2), some (.inl x3)], [.inl x1, .inl 6, .inr (sm_R M a0 10)], M)) sm_a155_29 rfl rfl rfl ?_
    refine ru_go (t := (31, [some (.inr (some a0)), some (.inl x1), some (.inl x2), some (.inl x3)], [.inl (6 * x1), .inr (sm_R M a0 10)], M)) sm_a155_30 rfl rfl rfl ?_
    refine ru_go (t := (32, [some (.inr (some a0)), some (.inl x1), some (.inl x2), some (.inl x3)], [.inl x3, .inl (6 * x1), .inr (sm_R M a0 10)], M)) sm_a155_31 rfl rfl rfl ?_
    refine ru_go (t := (33, [some (.inr (some a0)), some (.inl x1), some (.inl x2), some (.inl x3)], [.inl ((6 * x1) + x3), .inr (sm_R M a0 10)], M)) sm_a155_32 rfl rfl rfl ?_
    obtain ⟨b_7, hb_8, h⟩ := h
    rw [hb_8]
    obtain ⟨h_9, h⟩ := h
    obtain ⟨h_10, h⟩ := h
    refine ru_go (t := (34, [some (.inr (some a0)), some (.inl x1), some (.inl x2), some (.inl x3)], [.inl (sm_I M b_7 ((6 * x1) + x3).toNatClampNeg)], M)) sm_a155_33 rfl rfl (st_iald h_9 h_10) ?_
    refine ru_go (t := (35, [some (.inr (some a0)), some (.inl x1), some (.inl x2), some (.inl x3)], [.inl x2, .inl (sm_I M b_7 ((6 * x1) + x3).toNatClampNeg)], M)) sm_a155_34 rfl rfl rfl ?_
    refine ru_icmp (pc := 35) (p := 45) (p2 := 38) sm_a155_35 (by decide) rfl ⟨fun hc_11 => ?_, fun hc_11 => ?_⟩
    · have h := h.1 hc_11
      refine ru_go (t := (48, [some (.inr (some a0)), some (.inl x1), some (.inl x2), some (.inl (x3 + 1))], [], M)) sm_a155_45 rfl rfl (st_iinc rfl (by decide)) ?_
      refine ru_go (t := (13, [some (.inr (some a0)), some (.inl x1), some (.inl x2), some (.inl (x3 + 1))], [], M)) sm_a155_48 rfl rfl (st_goto (pc := 48) (by decide)) ?_
      exact h
    · have h := h.2 hc_11
      refine ru_go (t := (40, [some (.inr (some a0)), some (.inl x1), some (.inl x2), some (.inl x3)], [.inl 6], M)) sm_a155_38 rfl rfl (st_bipush (by decide)) ?_
      refine ru_go (t := (41, [some (.inr (some a0)), some (.inl x1), some (.inl x2), some (.inl x3)], [.inl x1, .inl 6], M)) sm_a155_40 rfl rfl rfl ?_
      refine ru_go (t := (42, [some (.inr (some a0)), some (.inl x1), some (.inl x2), some (.inl x3)], [.inl (6 * x1)], M)) sm_a155_41 rfl rfl rfl ?_
      refine ru_go (t := (43, [some (.inr (some a0)), some (.inl x1), some (.inl x2), some (.inl x3)], [.inl x3, .inl (6 * x1)], M)) sm_a155_42 rfl rfl rfl ?_
      refine ru_go (t := (44, [some (.inr (some a0)), some (.inl x1), some (.inl x2), some (.inl x3)], [.inl ((6 * x1) + x3)], M)) sm_a155_43 rfl rfl rfl ?_
      exact ru_ret sm_a155_44 rfl h

/-! WireBusModel.bitsOf:(II)V -/
theorem sm_a156_0 : sm_at 156 0 = some (.iconst 0, 1, (0, 0, 0, 0)) := by decide +kernel
theorem sm_a156_1 : sm_at 156 1 = some (.istore_n 3, 1, (0, 0, 0, 0)) := by decide +kernel
theorem sm_a156_2 : sm_at 156 2 = some (.iload_n 3, 1, (0, 0, 0, 0)) := by decide +kernel
theorem sm_a156_3 : sm_at 156 3 = some (.iload_n 2, 1, (0, 0, 0, 0)) := by decide +kernel
theorem sm_a156_4 : sm_at 156 4 = some (.if_icmp .ge 33, 3, (0, 0, 0, 0)) := by decide +kernel
theorem sm_a156_7 : sm_at 156 7 = some (.aload_n 0, 1, (0, 0, 0, 0)) := by decide +kernel
theorem sm_a156_8 : sm_at 156 8 = some (.getfield 140, 3, (12, 49, 0, 1232)) := by decide +kernel
theorem sm_a156_11 : sm_at 156 11 = some (.aload_n 0, 1, (0, 0, 0, 0)) := by decide +kernel
theorem sm_a156_12 : sm_at 156 12 = some (.getfield 242, 3, (12, 48, 0, 1231)) := by decide +kernel
theorem sm_a156_15 : sm_at 156 15 = some (.iload_n 1, 1, (0, 0, 0, 0)) := by decide +kernel
theorem sm_a156_16 : sm_at 156 16 = some (.iload_n 3, 1, (0, 0, 0, 0)) := by decide +kernel
theorem sm_a156_17 : sm_at 156 17 = some (.ishr, 1, (0, 0, 0, 0)) := by decide +kernel
theorem sm_a156_18 : sm_at 156 18 = some (.iconst 1, 1, (0, 0, 0, 0)) := by decide +kernel
theorem sm_a156_19 : sm_at 156 19 = some (.iand, 1, (0, 0, 0, 0)) := by decide +kernel
theorem sm_a156_20 : sm_at 156 20 = some (.iastore, 1, (1, 0, 0, 0)) := by decide +kernel
theorem sm_a156_21 : sm_at 156 21 = some (.aload_n 0, 1, (0, 0, 0, 0)) := by decide +kernel
theorem sm_a156_22 : sm_at 156 22 = some (.dup, 1, (0, 0, 0, 0)) := by decide +kernel
theorem sm_a156_23 : sm_at 156 23 = some (.getfield 242, 3, (12, 48, 0, 1231)) := by decide +kernel
theorem sm_a156_26 : sm_at 156 26 = some (.iconst 1, 1, (0, 0, 0, 0)) := by decide +kernel
theorem sm_a156_27 : sm_at 156 27 = some (.iadd, 1, (0, 0, 0, 0)) := by decide +kernel
theorem sm_a156_28 : sm_at 156 28 = some (.putfield 242, 3, (12, 48, 0, 1231)) := by decide +kernel
theorem sm_a156_31 : sm_at 156 31 = some (.iinc 3 1, 3, (0, 0, 0, 0)) := by decide +kernel
theorem sm_a156_34 : sm_at 156 34 = some (.goto (-32), 3, (0, 0, 0, 0)) := by decide +kernel
theorem sm_a156_37 : sm_at 156 37 = some (.return_, 1, (0, 0, 0, 0)) := by decide +kernel
theorem bb_156_0 {d : Nat} {M : sm_M} {Q : Option sm_V → sm_M → Prop} {a0 : Nat} {x1 : Int32} {x2 : Int32} {z3 : Option sm_V}
    (h : sm_Run d 156 2 [some (.inr (some a0)), some (.inl x1), some (.inl x2), some (.inl 0)] [] M Q) :
    sm_Run d 156 0 [some (.inr (some a0)), some (.inl x1), some (.inl x2), z3] [] M Q := by
  refine ru_go (t := (1, [some (.inr (some a0)), some (.inl x1), some (.inl x2), z3], [.inl 0], M)) sm_a156_0 rfl rfl (st_iconst (by decide)) ?_
  refine ru_go (t := (2, [some (.inr (some a0)), some (.inl x1), some (.inl x2), some (.inl 0)], [], M)) sm_a156_1 rfl rfl rfl ?_
  exact h
theorem bb_156_2 {d : Nat} {M : sm_M} {Q : Option sm_V → sm_M → Prop} {a0 : Nat} {x1 : Int32} {x2 : Int32} {x3 : Int32}
    (h : ((x2 ≤ x3 → Q none M) ∧ (¬ (x2 ≤ x3) → sm_K M a0 = 39 ∧ ∃ b_3, sm_R M a0 49 = some b_3 ∧ sm_wA 1 M b_3 ∧ sm_in_ M b_3 (sm_I M a0 48) ∧ sm_Run d 156 2 [some (.inr (some a0)), some (.inl x1), some (.inl x2), some (.inl (x3 + 1))] [] (sm_putI (sm_putI M b_3 (sm_I M a0 48).toNatClampNeg ((x1 >>> (x3 &&& 31)) &&& 1)) a0 48 ((sm_I (sm_putI M b_3 (sm_I M a0 48).toNatClampNeg ((x1 >>> (x3 &&& 31)) &&& 1)) a0 48) + 1)) Q))) :
    sm_Run d 156 2 [some (.inr (some a0)), some (.inl x1), some (.inl x2), some (.inl x3)] [] M Q := by
  refine ru_go (t := (3, [some (.inr (some a0)), some (.inl x1), some (.inl x2), some (.inl x3)], [.inl x3], M)) sm_a156_2 rfl rfl rfl ?_
  refine ru_go (t := (4, [some (.inr (some a0)), some (.inl x1), some (.inl x2), some (.inl x3)], [.inl x2, .inl x3], M)) sm_a156_3 rfl rfl rfl ?_
  refine ru_icmp (pc := 4) (p := 37) (p2 := 7) sm_a156_4 (by decide) rfl ⟨fun hc_1 => ?_, fun hc_1 => ?_⟩
  · have h := h.1 hc_1
    exact ru_ret sm_a156_37 (sm_rvv rfl) h
  · have h := h.2 hc_1
    refine ru_go (t := (8, [some (.inr (some a0)), some (.inl x1), some (.inl x2), some (.inl x3)], [.inr (some a0)], M)) sm_a156_7 rfl rfl rfl ?_
    obtain ⟨h_2, h⟩ := h
    refine ru_go (t := (11, [some (.inr (some a0)), some (.inl x1), some (.inl x2), some (.inl x3)], [.inr (sm_R M a0 49)], M)) sm_a156_8 rfl rfl (st_getR h_2 rfl rfl) ?_
    refine ru_go (t := (12, [some (.inr (some a0)), some (.inl x1), some (.inl x2), some (.inl x3)], [.inr (some a0), .inr (sm_R M a0 49)], M)) sm_a156_11 rfl rfl rfl ?_
    refine ru_go (t := (15, [some (.inr (some a0)), some (.inl x1), some (.inl x2), some (.inl x3)], [.inl (sm_I M a0 48), .inr (sm_R M a0 49)], M)) sm_a156_12 rfl rfl (st_getI h_2 rfl) ?_
    refine ru_go (t := (16, [some (.inr (some a0)), some (.inl x1), some (.inl x2), some (.inl x3)], [.inl x1, .inl (sm_I M a0 48), .inr (sm_R M a0 49)], M)) sm_a156_15 rfl rfl rfl ?_
    refine ru_go (t := (17, [some (.inr (some a0)), some (.inl x1), some (.inl x2), some (.inl x3)], [.inl x3, .inl x1, .inl (sm_I M a0 48), .inr (sm_R M a0 49)], M)) sm_a156_16 rfl rfl rfl ?_
    refine ru_go (t := (18, [some (.inr (some a0)), some (.inl x1), some (.inl x2), some (.inl x3)], [.inl (x1 >>> (x3 &&& 31)), .inl (sm_I M a0 48), .inr (sm_R M a0 49)], M)) sm_a156_17 rfl rfl rfl ?_
    refine ru_go (t := (19, [some (.inr (some a0)), some (.inl x1), some (.inl x2), some (.inl x3)], [.inl 1, .inl (x1 >>> (x3 &&& 31)), .inl (sm_I M a0 48), .inr (sm_R M a0 49)], M)) sm_a156_18 rfl rfl (st_iconst (by decide)) ?_
    refine ru_go (t := (20, [some (.inr (some a0)), some (.inl x1), some (.inl x2), some (.inl x3)], [.inl ((x1 >>> (x3 &&& 31)) &&& 1), .inl (sm_I M a0 48), .inr (sm_R M a0 49)], M)) sm_a156_19 rfl rfl rfl ?_
    obtain ⟨b_3, hb_4, h⟩ := h
    rw [hb_4]
    obtain ⟨h_5, h⟩ := h
    obtain ⟨h_6, h⟩ := h
    refine ru_go (t := (21, [some (.inr (some a0)), some (.inl x1), some (.inl x2), some (.inl x3)], [], sm_putI M b_3 (sm_I M a0 48).toNatClampNeg ((x1 >>> (x3 &&& 31)) &&& 1))) sm_a156_20 rfl rfl (st_iast h_5 h_6) ?_
    refine ru_go (t := (22, [some (.inr (some a0)), some (.inl x1), some (.inl x2), some (.inl x3)], [.inr (some a0)], sm_putI M b_3 (sm_I M a0 48).toNatClampNeg ((x1 >>> (x3 &&& 31)) &&& 1))) sm_a156_21 rfl rfl rfl ?_
    refine ru_go (t := (23, [some (.inr (some a0)), some (.inl x1), some (.inl x2), some (.inl x3)], [.inr (some a0), .inr (some a0)], sm_putI M b_3 (sm_I M a0 48).toNatClampNeg ((x1 >>> (x3 &&& 31)) &&& 1))) sm_a156_22 rfl rfl rfl ?_
    refine ru_go (t := (26, [some (.inr (some a0)), some (.inl x1), some (.inl x2), some (.inl x3)], [.inl (sm_I (sm_putI M b_3 (sm_I M a0 48).toNatClampNeg ((x1 >>> (x3 &&& 31)) &&& 1)) a0 48), .inr (some a0)], sm_putI M b_3 (sm_I M a0 48).toNatClampNeg ((x1 >>> (x3 &&& 31)) &&& 1))) sm_a156_23 rfl rfl (st_getI h_2 rfl) ?_
    refine ru_go (t := (27, [some (.inr (some a0)), some (.inl x1), some (.inl x2), some (.inl x3)], [.inl 1, .inl (sm_I (sm_putI M b_3 (sm_I M a0 48).toNatClampNeg ((x1 >>> (x3 &&& 31)) &&& 1)) a0 48), .inr (some a0)], sm_putI M b_3 (sm_I M a0 48).toNatClampNeg ((x1 >>> (x3 &&& 31)) &&& 1))) sm_a156_26 rfl rfl (st_iconst (by decide)) ?_
    refine ru_go (t := (28, [some (.inr (some a0)), some (.inl x1), some (.inl x2), some (.inl x3)], [.inl ((sm_I (sm_putI M b_3 (sm_I M a0 48).toNatClampNeg ((x1 >>> (x3 &&& 31)) &&& 1)) a0 48) + 1), .inr (some a0)], sm_putI M b_3 (sm_I M a0 48).toNatClampNeg ((x1 >>> (x3 &&& 31)) &&& 1))) sm_a156_27 rfl rfl rfl ?_
    refine ru_go (t := (31, [some (.inr (some a0)), some (.inl x1), some (.inl x2), some (.inl x3)], [], sm_putI (sm_putI M b_3 (sm_I M a0 48).toNatClampNeg ((x1 >>> (x3 &&& 31)) &&& 1)) a0 48 ((sm_I (sm_putI M b_3 (sm_I M a0 48).toNatClampNeg ((x1 >>> (x3 &&& 31)) &&& 1)) a0 48) + 1))) sm_a156_28 rfl rfl (st_putI h_2 rfl) ?_
    refine ru_go (t := (34, [some (.inr (some a0)), some (.inl x1), some (.inl x2), some (.inl (x3 + 1))], [], sm_putI (sm_putI M b_3 (sm_I M a0 48).toNatClampNeg ((x1 >>> (x3 &&& 31)) &&& 1)) a0 48 ((sm_I (sm_putI M b_3 (sm_I M a0 48).toNatClampNeg ((x1 >>> (x3 &&& 31)) &&& 1)) a0 48) + 1))) sm_a156_31 rfl rfl (st_iinc rfl (by decide)) ?_
    refine ru_go (t := (2, [some (.inr (some a0)), some (.inl x1), some (.inl x2), some (.inl (x3 + 1))], [], sm_putI (sm_putI M b_3 (sm_I M a0 48).toNatClampNeg ((x1 >>> (x3 &&& 31)) &&& 1)) a0 48 ((sm_I (sm_putI M b_3 (sm_I M a0 48).toNatClampNeg ((x1 >>> (x3 &&& 31)) &&& 1)) a0 48) + 1))) sm_a156_34 rfl rfl (st_goto (pc := 34) (by decide)) ?_
    exact h

/-! WireBusModel.check:(III)V -/
theorem sm_a157_0 : sm_at 157 0 = some (.iconst 1, 1, (0, 0, 0, 0)) := by decide +kernel
theorem sm_a157_1 : sm_at 157 1 = some (.iload_n 2, 1, (0, 0, 0, 0)) := by decide +kernel
theorem sm_a157_2 : sm_at 157 2 = some (.ishl, 1, (0, 0, 0, 0)) := by decide +kernel
theorem sm_a157_3 : sm_at 157 3 = some (.iconst 1, 1, (0, 0, 0, 0)) := by decide +kernel
theorem sm_a157_4 : sm_at 157 4 = some (.isub, 1, (0, 0, 0, 0)) := by decide +kernel
theorem sm_a157_5 : sm_at 157 5 = some (.istore 4, 2, (0, 0, 0, 0)) := by decide +kernel
theorem sm_a157_7 : sm_at 157 7 = some (.iload 4, 2, (0, 0, 0, 0)) := by decide +kernel
theorem sm_a157_9 : sm_at 157 9 = some (.istore 5, 2, (0, 0, 0, 0)) := by decide +kernel
theorem sm_a157_11 : sm_at 157 11 = some (.iload_n 1, 1, (0, 0, 0, 0)) := by decide +kernel
theorem sm_a157_12 : sm_at 157 12 = some (.istore 6, 2, (0, 0, 0, 0)) := by decide +kernel
theorem sm_a157_14 : sm_at 157 14 = some (.iload 6, 2, (0, 0, 0, 0)) := by decide +kernel
theorem sm_a157_16 : sm_at 157 16 = some (.aload_n 0, 1, (0, 0, 0, 0)) := by decide +kernel
theorem sm_a157_17 : sm_at 157 17 = some (.getfield 242, 3, (12, 48, 0, 1231)) := by decide +kernel
theorem sm_a157_20 : sm_at 157 20 = some (.if_icmp .ge 51, 3, (0, 0, 0, 0)) := by decide +kernel
theorem sm_a157_23 : sm_at 157 23 = some (.iload 5, 2, (0, 0, 0, 0)) := by decide +kernel
theorem sm_a157_25 : sm_at 157 25 = some (.iload_n 2, 1, (0, 0, 0, 0)) := by decide +kernel
theorem sm_a157_26 : sm_at 157 26 = some (.iconst 1, 1, (0, 0, 0, 0)) := by decide +kernel
theorem sm_a157_27 : sm_at 157 27 = some (.isub, 1, (0, 0, 0, 0)) := by decide +kernel
theorem sm_a157_28 : sm_at 157 28 = some (.ishr, 1, (0, 0, 0, 0)) := by decide +kernel
theorem sm_a157_29 : sm_at 157 29 = some (.iconst 1, 1, (0, 0, 0, 0)) := by decide +kernel
theorem sm_a157_30 : sm_at 157 30 = some (.iand, 1, (0, 0, 0, 0)) := by decide +kernel
theorem sm_a157_31 : sm_at 157 31 = some (.istore 7, 2, (0, 0, 0, 0)) := by decide +kernel
theorem sm_a157_33 : sm_at 157 33 = some (.iload 5, 2, (0, 0, 0, 0)) := by decide +kernel
theorem sm_a157_35 : sm_at 157 35 = some (.iconst 1, 1, (0, 0, 0, 0)) := by decide +kernel
theorem sm_a157_36 : sm_at 157 36 = some (.ishl, 1, (0, 0, 0, 0)) := by decide +kernel
theorem sm_a157_37 : sm_at 157 37 = some (.iload 4, 2, (0, 0, 0, 0)) := by decide +kernel
theorem sm_a157_39 : sm_at 157 39 = some (.iand, 1, (0, 0, 0, 0)) := by decide +kernel
theorem sm_a157_40 : sm_at 157 40 = some (.istore 5, 2, (0, 0, 0, 0)) := by decide +kernel
theorem sm_a157_42 : sm_at 157 42 = some (.aload_n 0, 1, (0, 0, 0, 0)) := by decide +kernel
theorem sm_a157_43 : sm_at 157 43 = some (.getfield 140, 3, (12, 49, 0, 1232)) := by decide +kernel
theorem sm_a157_46 : sm_at 157 46 = some (.iload 6, 2, (0, 0, 0, 0)) := by decide +kernel
theorem sm_a157_48 : sm_at 157 48 = some (.iaload, 1, (0, 0, 0, 0)) := by decide +kernel
theorem sm_a157_49 : sm_at 157 49 = some (.iload 7, 2, (0, 0, 0, 0)) := by decide +kernel
theorem sm_a157_51 : sm_at 157 51 = some (.if_icmp .eq 10, 3, (0, 0, 0, 0)) := by decide +kernel
theorem sm_a157_54 : sm_at 157 54 = some (.iload 5, 2, (0, 0, 0, 0)) := by decide +kernel
theorem sm_a157_56 : sm_at 157 56 = some (.iload_n 3, 1, (0, 0, 0, 0)) := by decide +kernel
theorem sm_a157_57 : sm_at 157 57 = some (.ixor, 1, (0, 0, 0, 0)) := by decide +kernel
theorem sm_a157_58 : sm_at 157 58 = some (.goto 5, 3, (0, 0, 0, 0)) := by decide +kernel
theorem sm_a157_61 : sm_at 157 61 = some (.iload 5, 2, (0, 0, 0, 0)) := by decide +kernel
theorem sm_a157_63 : sm_at 157 63 = some (.istore 5, 2, (0, 0, 0, 0)) := by decide +kernel
theorem sm_a157_65 : sm_at 157 65 = some (.iinc 6 1, 3, (0, 0, 0, 0)) := by decide +kernel
theorem sm_a157_68 : sm_at 157 68 = some (.goto (-54), 3, (0, 0, 0, 0)) := by decide +kernel
theorem sm_a157_71 : sm_at 157 71 = some (.iload_n 2, 1, (0, 0, 0, 0)) := by decide +kernel
theorem sm_a157_72 : sm_at 157 72 = some (.iconst 1, 1, (0, 0, 0, 0)) := by decide +kernel
theorem sm_a157_73 : sm_at 157 73 = some (.isub, 1, (0, 0, 0, 0)) := by decide +kernel
theorem sm_a157_74 : sm_at 157 74 = some (.istore 6, 2, (0, 0, 0, 0)) := by decide +kernel
theorem sm_a157_76 : sm_at 157 76 = some (.iload 6, 2, (0, 0, 0, 0)) := by decide +kernel
theorem sm_a157_78 : sm_at 157 78 = some (.ifCond .lt 37, 3, (0, 0, 0, 0)) := by decide +kernel
theorem sm_a157_81 : sm_at 157 81 = some (.aload_n 0, 1, (0, 0, 0, 0)) := by decide +kernel
theorem sm_a157_82 : sm_at 157 82 = some (.getfield 140, 3, (12, 49, 0, 1232)) := by decide +kernel
theorem sm_a157_85 : sm_at 157 85 = some (.aload_n 0, 1, (0, 0, 0, 0)) := by decide +kernel
theorem sm_a157_86 : sm_at 157 86 = some (.getfield 242, 3, (12, 48, 0, 1231)) := by decide +kernel
theorem sm_a157_89 : sm_at 157 89 = some (.iconst 1, 1, (0, 0, 0, 0)) := by decide +kernel
theorem sm_a157_90 : sm_at 157 90 = some (.iload 5, 2, (0, 0, 0, 0)) := by decide +kernel
theorem sm_a157_92 : sm_at 157 92 = some (.iload 6, 2, (0, 0, 0, 0)) := by decide +kernel
theorem sm_a157_94 : sm_at 157 94 = some (.ishr, 1, (0, 0, 0, 0)) := by decide +kernel
theorem sm_a157_95 : sm_at 157 95 = some (.iconst 1, 1, (0, 0, 0, 0)) := by decide +kernel
theorem sm_a157_96 : sm_at 157 96 = some (.iand, 1, (0, 0, 0, 0)) := by decide +kernel
theorem sm_a157_97 : sm_at 157 97 = some (.isub, 1, (0, 0, 0, 0)) := by decide +kernel
theorem sm_a157_98 : sm_at 157 98 = some (.iastore, 1, (1, 0, 0, 0)) := by decide +kernel
theorem sm_a157_99 : sm_at 157 99 = some (.aload_n 0, 1, (0, 0, 0, 0)) := by decide +kernel
theorem sm_a157_100 : sm_at 157 100 = some (.dup, 1, (0, 0, 0, 0)) := by decide +kernel
theorem sm_a157_101 : sm_at 157 101 = some (.getfield 242, 3, (12, 48, 0, 1231)) := by decide +kernel
theorem sm_a157_104 : sm_at 157 104 = some (.iconst 1, 1, (0, 0, 0, 0)) := by decide +kernel
theorem sm_a157_105 : sm_at 157 105 = some (.iadd, 1, (0, 0, 0, 0)) := by decide +kernel
theorem sm_a157_106 : sm_at 157 106 = some (.putfield 242, 3, (12, 48, 0, 1231)) := by decide +kernel
theorem sm_a157_109 : sm_at 157 109 = some (.iinc 6 (-1), 3, (0, 0, 0, 0)) := by decide +kernel
theorem sm_a157_112 : sm_at 157 112 = some (.goto (-36), 3, (0, 0, 0, 0)) := by decide +kernel
theorem sm_a157_115 : sm_at 157 115 = some (.return_, 1, (0, 0, 0, 0)) := by decide +kernel
theorem bb_157_0 {d : Nat} {M : sm_M} {Q : Option sm_V → sm_M → Prop} {a0 : Nat} {x1 : Int32} {x2 : Int32} {x3 : Int32} {z4 : Option sm_V} {z5 : Option sm_V} {z6 : Option sm_V} {z7 : Option sm_V}
    (h : sm_Run d 157 14 [some (.inr (some a0)), some (.inl x1), some (.inl x2), some (.inl x3), some (.inl ((1 <<< (x2 &&& 31)) - 1)), some (.inl ((1 <<< (x2 &&& 31)) - 1)), some (.inl x1), z7] [] M Q) :
    sm_Run d 157 0 [some (.inr (some a0)), some (.inl x1), some (.inl x2), some (.inl x3), z4, z5, z6, z7] [] M Q := by
  refine ru_go (t := (1, [some (.inr (some a0)), some (.inl x1), some (.inl x2), some (.inl x3), z4, z5, z6, z7], [.inl 1], M)) sm_a157_0 rfl rfl (st_iconst (by decide)) ?_
  refine ru_go (t := (2, [some (.inr (some a0)), some (.inl x1), some (.inl x2), some (.inl x3), z4, z5, z6, z7], [.inl x2, .inl 1], M)) sm_a157_1 rfl rfl rfl ?_
  refine ru_go (t := (3, [some (.inr (some a0)), some (.inl x1), some (.inl x2), some (.inl x3), z4, z5, z6, z7], [.inl (1 <<< (x2 &&& 31))], M)) sm_a157_2 rfl rfl rfl ?_
  refine ru_go (t := (4, [some (.inr (some a0)), some (.inl x1), some (.inl x2), some (.inl x3), z4, z5, z6, z7], [.inl 1, .inl (1 <<< (x2 &&& 31))], M)) sm_a157_3 rfl rfl (st_iconst (by decide)) ?_
  refine ru_go (t := (5, [some (.inr (some a0)), some (.inl x1), some (.inl x2), some (.inl x3), z4, z5, z6, z7], [.inl ((1 <<< (x2 &&& 31)) - 1)], M)) sm_a157_4 rfl rfl rfl ?_
  refine ru_go (t := (7, [some (.inr (some a0)), some (.inl x1), some (.inl x2), some (.inl x3), some (.inl ((1 <<< (x2 &&& 31)) - 1)), z5, z6, z7], [], M)) sm_a157_5 rfl rfl rfl ?_
  refine ru_go (t := (9, [some (.inr (some a0)), some (.inl x1), some (.inl x2), some (.inl x3), some (.inl ((1 <<< (x2 &&& 31)) - 1)), z5, z6, z7], [.inl ((1 <<< (x2 &&& 31)) - 1)], M)) sm_a157_7 rfl rfl rfl ?_
  refine ru_go (t := (11, [some (.inr (some a0)), some (.inl x1), some (.inl x2), some (.inl x3), some (.inl ((1 <<< (x2 &&& 31)) - 1)), some (.inl ((1 <<< (x2 &&& 31)) - 1)), z6, z7], [], M)) sm_a157_9 rfl rfl rfl ?_
  refine ru_go (t := (12, [some (.inr (some a0)), some (.inl x1), some (.inl x2), some (.inl x3), some (.inl ((1 <<< (x2 &&& 31)) - 1)), some (.inl ((1 <<< (x2 &&& 31)) - 1)), z6, z7], [.inl x1], M)) sm_a157_11 rfl rfl rfl ?_
  refine ru_go (t := (14, [some (.inr (some a0)), some (.inl x1), some (.inl x2), some (.inl x3), some (.inl ((1 <<< (x2 &&& 31)) - 1)), some (.inl ((1 <<< (x2 &&& 31)) - 1)), some (.inl x1), z7], [], M)) sm_a157_12 rfl rfl rfl ?_
  exact h
theorem bb_157_14 {d : Nat} {M : sm_M} {Q : Option sm_V → sm_M → Prop} {a0 : Nat} {x1 : Int32} {x2 : Int32} {x3 : Int32} {x4 : Int32} {x5 : Int32} {x6 : Int32} {z7 : Option sm_V}
    (h : sm_K M a0 = 39 ∧ (((sm_I M a0 48) ≤ x6 → sm_Run d 157 76 [some (.inr (some a0)), some (.inl x1), some (.inl x2), some (.inl x3), some (.inl x4), some (.inl x5), some (.inl (x2 - 1)), z7] [] M Q) ∧ (¬ ((sm_I M a0 48) ≤ x6) → ∃ b_3, sm_R M a0 49 = some b_3 ∧ sm_iA M b_3 ∧ sm_in_ M b_3 x6 ∧ (((sm_I M b_3 (x6).toNatClampNeg) = ((x5 >>> ((x2 - 1) &&& 31)) &&& 1) → sm_Run d 157 14 [some (.inr (some a0)), some (.inl x1), some (.inl x2), some (.inl x3), some (.inl x4), some (.inl ((x5 <<< (1 &&& 31)) &&& x4)), some (.inl (x6 + 1)), some (.inl ((x5 >>> ((x2 - 1) &&& 31)) &&& 1))] [] M Q) ∧ (¬ ((sm_I M b_3 (x6).toNatClampNeg) = ((x5 >>> ((x2 - 1) &&& 31)) &&& 1)) → sm_Run d 157 14 [some (.inr (some a0)), some (.inl x1), some (.inl x2), some (.inl x3), some (.inl x4), some (.inl (((x5 <<< (1 &&& 31)) &&& x4) ^^^ x3)), some (.inl (x6 + 1)), some (.inl ((x5 >>> ((x2 - 1) &&& 31)) &&& 1))] [] M Q))))) :
    sm_Run d 157 14 [some (.inr (some a0)), some (.inl x1), some (.inl x2), some (.inl x3), some (.inl x4), some (.inl x5), some (.inl x6), z7] [] M Q := by
  refine ru_go (t := (16, [some (.inr (some a0)), some (.inl x1), some (.inl x2), some (.inl x3), some (.inl x4), some (.inl x5), some (.inl x6), z7], [.inl x6], M)) sm_a157_14 rfl rfl rfl ?_
  refine ru_go (t := (17, [some (.inr (some a0)), some (.inl x1), some (.inl x2), some (.inl x3), some (.inl x4), some (.inl x5), some (.inl x6), z7], [.inr (some a0), .inl x6], M)) sm_a157_16 rfl rfl rfl ?_
  obtain ⟨h_1, h⟩ := h
  refine ru_go (t := (20, [some (.inr (some a0)), some (.inl x1), some (.inl x2), some (.inl x3), some (.inl x4), some (.inl x5), some (.inl x6), z7], [.inl (sm_I M a0 48), .inl x6], M)) sm_a157_17 rfl rfl (st_getI h_1 rfl) ?_
  refine ru_icmp (pc := 20) (p := 71) (p2 := 23) sm_a157_20 (by decide) rfl ⟨fun hc_2 => ?_, fun hc_2 => ?_⟩
  · have h := h.1 hc_2
    refine ru_go (t := (72, [some (.inr (some a0)), some (.inl x1), some (.inl x2), some (.inl x3), some (.inl x4), some (.inl x5), some (.inl x6), z7], [.inl x2], M)) sm_a157_71 rfl rfl rfl ?_
    refine ru_go (t := (73, [some (.inr (some a0)), some (.inl x1), some (.inl x2), some (.inl x3), some (.inl x4), some (.inl x5), some (.inl x6), z7], [.inl 1, .inl x2], M)) sm_a157_72 rfl rfl (st_iconst (by decide)) ?_
    refine ru_go (t := (74, [some (.inr (some a0)), some (.inl x1), some (.inl x2), some (.inl x3), some (.inl x4), some (.inl x5), some (.inl x6), z7], [.inl (x2 - 1)], M)) sm_a157_73 rfl rfl rfl ?_
    refine ru_go (t := (76, [some (.inr (some a0)), some (.inl x1), some (.inl x2), some (.inl x3), some (.inl x4), some (.inl x5), some (.inl (x2 - 1)), z7], [], M)) sm_a157_74 rfl rfl rfl ?_
    exact h
  · have h := h.2 hc_2
    refine ru_go (t := (25, [some (.inr (some a0)), some (.inl x1), some (.inl x2), some (.inl x3), some (.inl x4), some (.inl x5), some (.inl x6), z7], [.inl x5], M)) sm_a157_23 rfl rfl rfl ?_
    refine ru_go (t := (26, [some (.inr (some a0)), some (.inl x1), some (.inl x2), some (.inl x3), some (.inl x4), some (.inl x5), some (.inl x6), z7], [.inl x2, .inl x5], M)) sm_a157_25 rfl rfl rfl ?_
    refine ru_go (t := (27, [some (.inr (some a0)), some (.inl x1), some (.inl x2), some (.inl x3), some (.inl x4), some (.inl x5), some (.inl x6), z7], [.inl 1, .inl x2, .inl x5], M)) sm_a157_26 rfl rfl (st_iconst (by decide)) ?_
    refine ru_go (t := (28, [some (.inr (some a0)), some (.inl x1), some (.inl x2), some (.inl x3), some (.inl x4), some (.inl x5), some (.inl x6), z7], [.inl (x2 - 1), .inl x5], M)) sm_a157_27 rfl rfl rfl ?_
    refine ru_go (t := (29, [some (.inr (some a0)), some (.inl x1), some (.inl x2), some (.inl x3), some (.inl x4), some (.inl x5), some (.inl x6), z7], [.inl (x5 >>> ((x2 - 1) &&& 31))], M)) sm_a157_28 rfl rfl rfl ?_
    refine ru_go (t := (30, [some (.inr (some a0)), some (.inl x1), some (.inl x2), some (.inl x3), some (.inl x4), some (.inl x5), some (.inl x6), z7], [.inl 1, .inl (x5 >>> ((x2 - 1) &&& 31))], M)) sm_a157_29 rfl rfl (st_iconst (by decide)) ?_
    refine ru_go (t := (31, [some (.inr (some a0)), some (.inl x1), some (.inl x2), some (.inl x3), some (.inl x4), some (.inl x5), some (.inl x6), z7], [.inl ((x5 >>> ((x2 - 1) &&& 31)) &&& 1)], M)) sm_a157_30 rfl rfl rfl ?_
    refine ru_go (t := (33, [some (.inr (some a0)), some (.inl x1), some (.inl x2), some (.inl x3), some (.inl x4), some (.inl x5), some (.inl x6), some (.inl ((x5 >>> ((x2 - 1) &&& 31)) &&& 1))], [], M)) sm_a157_31 rfl rfl rfl ?_
    refine ru_go (t := (35, [some (.inr (some a0)), some (.inl x1), some (.inl x2), some (.inl x3), some (.inl x4), some (.inl x5), some (.inl x6), some (.inl ((x5 >>> ((x2 - 1) &&& 31)) &&& 1))], [.inl x5], M)) sm_a157_33 rfl rfl rfl ?_
    refine ru_go (t := (36, [some (.inr (some a0)), some (.inl x1), some (.inl x2), some (.inl x3), some (.inl x4), some (.inl x5), some (.inl x6), some (.inl ((x5 >>> ((x2 - 1) &&& 31)) &&& 1))], [.inl 1, .inl x5], M)) sm_a157_35 rfl rfl (st_iconst (by decide)) ?_
    refine ru_go (t := (37, [some (.inr (some a0)), some (.inl x1), some (.inl x2), some (.inl x3), some (.inl x4), some (.inl x5), some (.inl x6), some (.inl ((x5 >>> ((x2 - 1) &&& 31)) &&& 1))], [.inl (x5 <<< (1 &&& 31))], M)) sm_a157_36 rfl rfl rfl ?_
    refine ru_go (t := (39, [some (.inr (some a0)), some (.inl x1), some (.inl x2), some (.inl x3), some (.inl x4), some (.inl x5), some (.inl x6), some (.inl ((x5 >>> ((x2 - 1) &&& 31)) &&& 1))], [.inl x4, .inl (x5 <<< (1 &&& 31))], M)) sm_a157_37 rfl rfl rfl ?_
    refine ru_go (t := (40, [some (.inr (some a0)), some (.inl x1), some (.inl x2), some (.inl x3), some (.inl x4), some (.inl x5), some (.inl x6), some (.inl ((x5 >>> ((x2 - 1) &&& 31)) &&& 1))], [.inl ((x5 <<< (1 &&& 31)) &&& x4)], M)) sm_a157_39 rfl rfl rfl ?_
    refine ru_go (t := (42, [some (.inr (some a0)), some (.inl x1), some (.inl x2), some (.inl x3), some (.inl x4), some (.inl ((x5 <<< (1 &&& 31)) &&& x4)), some (.inl x6), some (.inl ((x5 >>> ((x2 - 1) &&& 31)) &&& 1))], [], M)) sm_a157_40 rfl rfl rfl ?_
    refine ru_go (t := (43, [some (.inr (some a0)), some (.inl x1), some (.inl x2), some (.inl x3), some (.inl x4), some (.inl ((x5 <<< (1 &&& 31)) &&& x4)), some (.inl x6), some (.inl ((x5 >>> ((x2 - 1) &&& 31)) &&& 1))], [.inr (some a0)], M)) sm_a157_42 rfl rfl rfl ?_
    refine ru_go (t := (46, [some (.inr (some a0)), some (.inl x1), some (.inl x2), some (.inl x3), some (.inl x4), some (.inl ((x5 <<< (1 &&& 31)) &&& x4)), some (.inl x6), some (.inl ((x5 >>> ((x2 - 1) &&& 31)) &&& 1))], [.inr (sm_R M a0 49)], M)) sm_a157_43 rfl rfl (st_getR h_1 rfl rfl) ?_
    refine ru_go (t := (48, [some (.inr (some a0)), some (.inl x1), some (.inl x2), some (.inl x3), some (.inl x4), some (.inl ((x5 <<< (1 &&& 31)) &&& x4)), some (.inl x6), some (.inl ((x5 >>> ((x2 - 1) &&& 31)) &&& 1))], [.inl x6, .inr (sm_R M a0 49)], M)) sm_a157_46 rfl rfl rfl ?_
    obtain ⟨b_3, hb_4, h⟩ := h
    rw [hb_4]
    obtain ⟨h_5, h⟩ := h
    obtain ⟨h_6, h⟩ := h
    refine ru_go (t := (49, [some (.inr (some a0)), some (.inl x1), some (.inl x2), some (.inl x3), some (.inl x4), some (.inl ((x5 <<< (1 &&& 31)) &&& x4)), some (.inl x6), some (.inl ((x5 >>> ((x2 - 1) &&& 31)) &&& 1))], [.inl (sm_I M b_3 (x6).toNatClampNeg)], M)) sm_a157_48 rfl rfl (st_iald h_5 h_6) ?_
    refine ru_go (t := (51, [some (.inr (some a0)), some (.inl x1), some (.inl x2), some (.inl x3), some (.inl x4), some (.inl ((x5 <<< (1 &&& 31)) &&& x4)), some (.inl x6), some (.inl ((x5 >>> ((x2 - 1) &&& 31)) &&& 1))], [.inl ((x5 >>> ((x2 - 1) &&& 31)) &&& 1), .inl (sm_I M b_3 (x6).toNatClampNeg)], M)) sm_a157_49 rfl rfl rfl ?_
    refine ru_icmp (pc := 51) (p := 61) (p2 := 54) sm_a157_51 (by decide) rfl ⟨fun hc_7 => ?_, fun hc_7 => ?_⟩
    · have h := h.1 hc_7
      refine ru_go (t := (63, [some (.inr (some a0)), some (.inl x1), some (.inl x2), some (.inl x3), some (.inl x4), some (.inl ((x5 <<< (1 &&& 31)) &&& x4)), some (.inl x6), some (.inl ((x5 >>> ((x2 - 1) &&& 31)) &&& 1))], [.inl ((x5 <<< (1 &&& 31)) &&& x4)], M)) sm_a157_61 rfl rfl rfl ?_
      refine ru_go (t := (65, [some (.inr (some a0)), some (.inl x1), some (.inl x2), some (.inl x3), some (.inl x4), some (.inl ((x5 <<< (1 &&& 31)) &&& x4)), some (.inl x6), some (.inl ((x5 >>> ((x2 - 1) &&& 31)) &&& 1))], [], M)) sm_a157_63 rfl rfl rfl ?_
      refine ru_go (t := (68, [some (.inr (some a0)), some (.inl x1), some (.inl x2), some (.inl x3), some (.inl x4), some (.inl ((x5 <<< (1 &&& 31)) &&& x4)), some (.inl (x6 + 1)), some (.inl ((x5 >>> ((x2 - 1) &&& 31)) &&& 1))], [], M)) sm_a157_65 rfl rfl (st_iinc rfl (by decide)) ?_
      refine ru_go (t := (14, [some (.inr (some a0)), some (.inl x1), some (.inl x2), some (.inl x3), some (.inl x4), some (.inl ((x5 <<< (1 &&& 31)) &&& x4)), some (.inl (x6 + 1)), some (.inl ((x5 >>> ((x2 - 1) &&& 31)) &&& 1))], [], M)) sm_a157_68 rfl rfl (st_goto (pc := 68) (by decide)) ?_
      exact h
    · have h := h.2 hc_7
      refine ru_go (t := (56, [some (.inr (some a0)), some (.inl x1), some (.inl x2), some (.inl x3), some (.inl x4), some (.inl ((x5 <<< (1 &&& 31)) &&& x4)), some (.inl x6), some (.inl ((x5 >>> ((x2 - 1) &&& 31)) &&& 1))], [.inl ((x5 <<< (1 &&& 31)) &&& x4)], M)) sm_a157_54 rfl rfl rfl ?_
      refine ru_go (t := (57, [some (.inr (some a0)), some (.inl x1), some (.inl x2), some (.inl x3), some (.inl x4), some (.inl ((x5 <<< (1 &&& 31)) &&& x4)), some (.inl x6), some (.inl ((x5 >>> ((x2 - 1) &&& 31)) &&& 1))], [.inl x3, .inl ((x5 <<< (1 &&& 31)) &&& x4)], M)) sm_a157_56 rfl rfl rfl ?_
      refine ru_go (t := (58, [some (.inr (some a0)), some (.inl x1), some (.inl x2), some (.inl x3), some (.inl x4), some (.inl ((x5 <<< (1 &&& 31)) &&& x4)), some (.inl x6), some (.inl ((x5 >>> ((x2 - 1) &&& 31)) &&& 1))], [.inl (((x5 <<< (1 &&& 31)) &&& x4) ^^^ x3)], M)) sm_a157_57 rfl rfl rfl ?_
      refine ru_go (t := (63, [some (.inr (some a0)), some (.inl x1), some (.inl x2), some (.inl x3), some (.inl x4), some (.inl ((x5 <<< (1 &&& 31)) &&& x4)), some (.inl x6), some (.inl ((x5 >>> ((x2 - 1) &&& 31)) &&& 1))], [.inl (((x5 <<< (1 &&& 31)) &&& x4) ^^^ x3)], M)) sm_a157_58 rfl rfl (st_goto (pc := 58) (by decide)) ?_
      refine ru_go (t := (65, [some (.inr (some a0)), some (.inl x1), some (.inl x2), some (.inl x3), some (.inl x4), some (.inl (((x5 <<< (1 &&& 31)) &&& x4) ^^^ x3)), some (.inl x6), some (.inl ((x5 >>> ((x2 - 1) &&& 31)) &&& 1))], [], M)) sm_a157_63 rfl rfl rfl ?_
      refine ru_go (t := (68, [some (.inr (some a0)), some (.inl x1), some (.inl x2), some (.inl x3), some (.inl x4), some (.inl (((x5 <<< (1 &&& 31)) &&& x4) ^^^ x3)), some (.inl (x6 + 1)), some (.inl ((x5 >>> ((x2 - 1) &&& 31)) &&& 1))], [], M)) sm_a157_65 rfl rfl (st_iinc rfl (by decide)) ?_
      refine ru_go (t := (14, [some (.inr (some a0)), some (.inl x1), some (.inl x2), some (.inl x3), some (.inl x4), some (.inl (((x5 <<< (1 &&& 31)) &&& x4) ^^^ x3)), some (.inl (x6 + 1)), some (.inl ((x5 >>> ((x2 - 1) &&& 31)) &&& 1))], [], M)) sm_a157_68 rfl rfl (st_goto (pc := 68) (by decide)) ?_
      exact h
theorem bb_157_76 {d : Nat} {M : sm_M} {Q : Option sm_V → sm_M → Prop} {a0 : Nat} {x1 : Int32} {x2 : Int32} {x3 : Int32} {x4 : Int32} {x5 : Int32} {x6 : Int32} {z7 : Option sm_V}
    (h : ((x6 < 0 → Q none M) ∧ (¬ (x6 < 0) → sm_K M a0 = 39 ∧ ∃ b_3, sm_R M a0 49 = some b_3 ∧ sm_wA 1 M b_3 ∧ sm_in_ M b_3 (sm_I M a0 48) ∧ sm_Run d 157 76 [some (.inr (some a0)), some (.inl x1), some (.inl x2), some (.inl x3), some (.inl x4), some (.inl x5), some (.inl (x6 + (-1))), z7] [] (sm_putI (sm_putI M b_3 (sm_I M a0 48).toNatClampNeg (1 - ((x5 >>> (x6 &&& 31)) &&& 1))) a0 48 ((sm_I (sm_putI M b_3 (sm_I M a0 48).toNatClampNeg (1 - ((x5 >>> (x6 &&& 31)) &&& 1))) a0 48) + 1)) Q))) :
    sm_Run d 157 76 [some (.inr (some a0)), some (.inl x1), some (.inl x2), some (.inl x3), some (.inl x4), some (.inl x5), some (.inl x6), z7] [] M Q := by
  refine ru_go (t := (78, [some (.inr (some a0)), some (.inl x1), some (.inl x2), some (.inl x3), some (.inl x4), some (.inl x5), some (.inl x6), z7], [.inl x6], M)) sm_a157_76 rfl rfl rfl ?_
  refine ru_if (pc := 78) (p := 115) (p2 := 81) sm_a157_78 (by decide) rfl ⟨fun hc_1 => ?_, fun hc_1 => ?_⟩
  · have h := h.1 hc_1
    exact ru_ret sm_a157_115 (sm_rvv rfl) h
  · have h := h.2 hc_1
    refine ru_go (t := (82, [some (.inr (some a0)), some (.inl x1), some (.inl x2), some (.inl x3), some (.inl x4), some (.inl x5), some (.inl x6), z7], [.inr (some a0)], M)) sm_a157_81 rfl rfl rfl ?_
    obtain ⟨h_2, h⟩ := h
    refine ru_go (t := (85, [some (.inr (some a0)), some (.inl x1), some (.inl x2), some (.inl x3), some (.inl x4), some (.inl x5), some (.inl x6), z7], [.inr (sm_R M a0 49)], M)) sm_a157_82 rfl rfl (st_getR h_2 rfl rfl) ?_
    refine ru_go (t := (86, [some (.inr (some a0)), some (.inl x1), some (.inl x2), some (.inl x3), some (.inl x4), some (.inl x5), some (.inl x6), z7], [.inr (some a0), .inr (sm_R M a0 49)], M)) sm_a157_85 rfl rfl rfl ?_
    refine ru_go (t := (89, [some (.inr (some a0)), some (.inl x1), some (.inl x2), some (.inl x3), some (.inl x4), some (.inl x5), some (.inl x6), z7], [.inl (sm_I M a0 48), .inr (sm_R M a0 49)], M)) sm_a157_86 rfl rfl (st_getI h_2 rfl) ?_
    refine ru_go (t := (90, [some (.inr (some a0)), some (.inl x1), some (.inl x2), some (.inl x3), some (.inl x4), some (.inl x5), some (.inl x6), z7], [.inl 1, .inl (sm_I M a0 48), .inr (sm_R M a0 49)], M)) sm_a157_89 rfl rfl (st_iconst (by decide)) ?_
    refine ru_go (t := (92, [some (.inr (some a0)), some (.inl x1), some (.inl x2), some (.inl x3), some (.inl x4), some (.inl x5), some (.inl x6), z7], [.inl x5, .inl 1, .inl (sm_I M a0 48), .inr (sm_R M a0 49)], M)) sm_a157_90 rfl rfl rfl ?_
    refine ru_go (t := (94, [some (.inr (some a0)), some (.inl x1), some (.inl x2), some (.inl x3), some (.inl x4), some (.inl x5), some (.inl x6), z7], [.inl x6, .inl x5, .inl 1, .inl (sm_I M a0 48), .inr (sm_R M a0 49)], M)) sm_a157_92 rfl rfl rfl ?_
    refine ru_go (t := (95, [some (.inr (some a0)), some (.inl x1), some (.inl x2), some (.inl x3), some (.inl x4), some (.inl x5), some (.inl x6), z7], [.inl (x5 >>> (x6 &&& 31)), .inl 1, .inl (sm_I M a0 48), .inr (sm_R M a0 49)], M)) sm_a157_94 rfl rfl rfl ?_
    refine ru_go (t := (96, [some (.inr (some a0)), some (.inl x1), some (.inl x2), some (.inl x3), some (.inl x4), some (.inl x5), some (.inl x6), z7], [.inl 1, .inl (x5 >>> (x6 &&& 31)), .inl 1, .inl (sm_I M a0 48), .inr (sm_R M a0 49)], M)) sm_a157_95 rfl rfl (st_iconst (by decide)) ?_
    refine ru_go (t := (97, [some (.inr (some a0)), some (.inl x1), some (.inl x2), some (.inl x3), some (.inl x4), some (.inl x5), some (.inl x6), z7], [.inl ((x5 >>> (x6 &&& 31)) &&& 1), .inl 1, .inl (sm_I M a0 48), .inr (sm_R M a0 49)], M)) sm_a157_96 rfl rfl rfl ?_
    refine ru_go (t := (98, [some (.inr (some a0)), some (.inl x1), some (.inl x2), some (.inl x3), some (.inl x4), some (.inl x5), some (.inl x6), z7], [.inl (1 - ((x5 >>> (x6 &&& 31)) &&& 1)), .inl (sm_I M a0 48), .inr (sm_R M a0 49)], M)) sm_a157_97 rfl rfl rfl ?_
    obtain ⟨b_3, hb_4, h⟩ := h
    rw [hb_4]
    obtain ⟨h_5, h⟩ := h
    obtain ⟨h_6, h⟩ := h
    refine ru_go (t := (99, [some (.inr (some a0)), some (.inl x1), some (.inl x2), some (.inl x3), some (.inl x4), some (.inl x5), some (.inl x6), z7], [], sm_putI M b_3 (sm_I M a0 48).toNatClampNeg (1 - ((x5 >>> (x6 &&& 31)) &&& 1)))) sm_a157_98 rfl rfl (st_iast h_5 h_6) ?_
    refine ru_go (t := (100, [some (.inr (some a0)), some (.inl x1), some (.inl x2), some (.inl x3), some (.inl x4), some (.inl x5), some (.inl x6), z7], [.inr (some a0)], sm_putI M b_3 (sm_I M a0 48).toNatClampNeg (1 - ((x5 >>> (x6 &&& 31)) &&& 1)))) sm_a157_99 rfl rfl rfl ?_
    refine ru_go (t := (101, [some (.inr (some a0)), some (.inl x1), some (.inl x2), some (.inl x3), some (.inl x4), some (.inl x5), some (.inl x6), z7], [.inr (some a0), .inr (some a0)], sm_putI M b_3 (sm_I M a0 48).toNatClampNeg (1 - ((x5 >>> (x6 &&& 31)) &&& 1)))) sm_a157_100 rfl rfl rfl ?_
    refine ru_go (t := (104, [some (.inr (some a0)), some (.inl x1), some (.inl x2), some (.inl x3), some (.inl x4), some (.inl x5), some (.inl x6), z7], [.inl (sm_I (sm_putI M b_3 (sm_I M a0 48).toNatClampNeg (1 - ((x5 >>> (x6 &&& 31)) &&& 1))) a0 48), .inr (some a0)], sm_putI M b_3 (sm_I M a0 48).toNatClampNeg (1 - ((x5 >>> (x6 &&& 31)) &&& 1)))) sm_a157_101 rfl rfl (st_getI h_2 rfl) ?_
    refine ru_go (t := (105, [some (.inr (some a0)), some (.inl x1), some (.inl x2), some (.inl x3), some (.inl x4), some (.inl x5), some (.inl x6), z7], [.inl 1, .inl (sm_I (sm_putI M b_3 (sm_I M a0 48).toNatClampNeg (1 - ((x5 >>> (x6 &&& 31)) &&& 1))) a0 48), .inr (some a0)], sm_putI M b_3 (sm_I M a0 48).toNatClampNeg (1 - ((x5 >>> (x6 &&& 31)) &&& 1)))) sm_a157_104 rfl rfl (st_iconst (by decide)) ?_
    refine ru_go (t := (106, [some (.inr (some a0)), some (.inl x1), some (.inl x2), some (.inl x3), some (.inl x4), some (.inl x5), some (.inl x6), z7], [.inl ((sm_I (sm_putI M b_3 (sm_I M a0 48).toNatClampNeg (1 - ((x5 >>> (x6 &&& 31)) &&& 1))) a0 48) + 1), .inr (some a0)], sm_putI M b_3 (sm_I M a0 48).toNatClampNeg (1 - ((x5 >>> (x6 &&& 31)) &&& 1)))) sm_a157_105 rfl rfl rfl ?_
    refine ru_go (t := (109, [some (.inr (some a0)), some (.inl x1), some (.inl x2), some (.inl x3), some (.inl x4), some (.inl x5), some (.inl x6), z7], [], sm_putI (sm_putI M b_3 (sm_I M a0 48).toNatClampNeg (1 - ((x5 >>> (x6 &&& 31)) &&& 1))) a0 48 ((sm_I (sm_putI M b_3 (sm_I M a0 48).toNatClampNeg (1 - ((x5 >>> (x6 &&& 31)) &&& 1))) a0 48) + 1))) sm_a157_106 rfl rfl (st_putI h_2 rfl) ?_
    refine ru_go (t := (112, [some (.inr (some a0)), some (.inl x1), some (.inl x2), some (.inl x3), some (.inl x4), some (.inl x5), some (.inl (x6 + (-1))), z7], [], sm_putI (sm_putI M b_3 (sm_I M a0 48).toNatClampNeg (1 - ((x5 >>> (x6 &&& 31)) &&& 1))) a0 48 ((sm_I (sm_putI M b_3 (sm_I M a0 48).toNatClampNeg (1 - ((x5 >>> (x6 &&& 31)) &&& 1))) a0 48) + 1))) sm_a157_109 rfl rfl (st_iinc rfl (by decide)) ?_
    refine ru_go (t := (76, [some (.inr (some a0)), some (.inl x1), some (.inl x2), some (.inl x3), some (.inl x4), some (.inl x5), some (.inl (x6 + (-1))), z7], [], sm_putI (sm_putI M b_3 (sm_I M a0 48).toNatClampNeg (1 - ((x5 >>> (x6 &&& 31)) &&& 1))) a0 48 ((sm_I (sm_putI M b_3 (sm_I M a0 48).toNatClampNeg (1 - ((x5 >>> (x6 &&& 31)) &&& 1))) a0 48) + 1))) sm_a157_112 rfl rfl (st_goto (pc := 112) (by decide)) ?_
    exact h

/-! WireBusModel.makeLevels:(I)V -/
theorem sm_a158_0 : sm_at 158 0 = some (.aload_n 0, 1, (0, 0, 0, 0)) := by decide +kernel
theorem sm_a158_1 : sm_at 158 1 = some (.iconst 0, 1, (0, 0, 0, 0)) := by decide +kernel
theorem sm_a158_2 : sm_at 158 2 = some (.putfield 242, 3, (12, 48, 0, 1231)) := by decide +kernel
theorem sm_a158_5 : sm_at 158 5 = some (.aload_n 0, 1, (0, 0, 0, 0)) := by decide +kernel
theorem sm_a158_6 : sm_at 158 6 = some (.sipush 128, 3, (0, 0, 0, 0)) := by decide +kernel
theorem sm_a158_9 : sm_at 158 9 = some (.bipush 8, 2, (0, 0, 0, 0)) := by decide +kernel
theorem sm_a158_11 : sm_at 158 11 = some (.invokevirtual 245, 3, (10, 156, 12, 1535)) := by decide +kernel
theorem sm_a158_14 : sm_at 158 14 = some (.aload_n 0, 1, (0, 0, 0, 0)) := by decide +kernel
theorem sm_a158_15 : sm_at 158 15 = some (.getfield 113, 3, (12, 38, 0, 1221)) := by decide +kernel
theorem sm_a158_18 : sm_at 158 18 = some (.iload_n 1, 1, (0, 0, 0, 0)) := by decide +kernel
theorem sm_a158_19 : sm_at 158 19 = some (.iaload, 1, (0, 0, 0, 0)) := by decide +kernel
theorem sm_a158_20 : sm_at 158 20 = some (.istore_n 2, 1, (0, 0, 0, 0)) := by decide +kernel
theorem sm_a158_21 : sm_at 158 21 = some (.aload_n 0, 1, (0, 0, 0, 0)) := by decide +kernel
theorem sm_a158_22 : sm_at 158 22 = some (.iload_n 2, 1, (0, 0, 0, 0)) := by decide +kernel
theorem sm_a158_23 : sm_at 158 23 = some (.bipush 16, 2, (0, 0, 0, 0)) := by decide +kernel
theorem sm_a158_25 : sm_at 158 25 = some (.bipush 15, 2, (0, 0, 0, 0)) := by decide +kernel
theorem sm_a158_27 : sm_at 158 27 = some (.iload_n 2, 1, (0, 0, 0, 0)) := by decide +kernel
theorem sm_a158_28 : sm_at 158 28 = some (.isub, 1, (0, 0, 0, 0)) := by decide +kernel
theorem sm_a158_29 : sm_at 158 29 = some (.imul, 1, (0, 0, 0, 0)) := by decide +kernel
theorem sm_a158_30 : sm_at 158 30 = some (.iadd, 1, (0, 0, 0, 0)) := by decide +kernel
theorem sm_a158_31 : sm_at 158 31 = some (.bipush 8, 2, (0, 0, 0, 0)) := by decide +kernel
theorem sm_a158_33 : sm_at 158 33 = some (.invokevirtual 245, 3, (10, 156, 12, 1535)) := by decide +kernel
theorem sm_a158_36 : sm_at 158 36 = some (.iload_n 2, 1, (0, 0, 0, 0)) := by decide +kernel
theorem sm_a158_37 : sm_at 158 37 = some (.iconst 1, 1, (0, 0, 0, 0)) := by decide +kernel
theorem sm_a158_38 : sm_at 158 38 = some (.if_icmp .eq 15, 3, (0, 0, 0, 0)) := by decide +kernel
theorem sm_a158_41 : sm_at 158 41 = some (.iload_n 2, 1, (0, 0, 0, 0)) := by decide +kernel
theorem sm_a158_42 : sm_at 158 42 = some (.bipush 9, 2, (0, 0, 0, 0)) := by decide +kernel
theorem sm_a158_44 : sm_at 158 44 = some (.if_icmp .eq 9, 3, (0, 0, 0, 0)) := by decide +kernel
theorem sm_a158_47 : sm_at 158 47 = some (.iload_n 2, 1, (0, 0, 0, 0)) := by decide +kernel
theorem sm_a158_48 : sm_at 158 48 = some (.bipush 13, 2, (0, 0, 0, 0)) := by decide +kernel
theorem sm_a158_50 : sm_at 158 50 = some (.if_icmp .ne 37, 3, (0, 0, 0, 0)) := by decide +kernel
theorem sm_a158_53 : sm_at 158 53 = some (.aload_n 0, 1, (0, 0, 0, 0)) := by decide +kernel
theorem sm_a158_54 : sm_at 158 54 = some (.aload_n 0, 1, (0, 0, 0, 0)) := by decide +kernel
theorem sm_a158_55 : sm_at 158 55 = some (.getfield 116, 3, (12, 39, 0, 1222)) := by decide +kernel
theorem sm_a158_58 : sm_at 158 58 = some (.iload_n 1, 1, (0, 0, 0, 0)) := by decide +kernel
theorem sm_a158_59 : sm_at 158 59 = some (.iaload, 1, (0, 0, 0, 0)) := by decide +kernel
theorem sm_a158_60 : sm_at 158 60 = some (.bipush 7, 2, (0, 0, 0, 0)) := by decide +kernel
theorem sm_a158_62 : sm_at 158 62 = some (.invokevirtual 245, 3, (10, 156, 12, 1535)) := by decide +kernel
theorem sm_a158_65 : sm_at 158 65 = some (.aload_n 0, 1, (0, 0, 0, 0)) := by decide +kernel
theorem sm_a158_66 : sm_at 158 66 = some (.aload_n 0, 1, (0, 0, 0, 0)) := by decide +kernel
theorem sm_a158_67 : sm_at 158 67 = some (.getfield 119, 3, (12, 40, 0, 1223)) := by decide +kernel
theorem sm_a158_70 : sm_at 158 70 = some (.iload_n 1, 1, (0, 0, 0, 0)) := by decide +kernel
theorem sm_a158_71 : sm_at 158 71 = some (.iaload, 1, (0, 0, 0, 0)) := by decide +kernel
theorem sm_a158_72 : sm_at 158 72 = some (.iconst 4, 1, (0, 0, 0, 0)) := by decide +kernel
theorem sm_a158_73 : sm_at 158 73 = some (.invokevirtual 245, 3, (10, 156, 12, 1535)) := by decide +kernel
theorem sm_a158_76 : sm_at 158 76 = some (.aload_n 0, 1, (0, 0, 0, 0)) := by decide +kernel
theorem sm_a158_77 : sm_at 158 77 = some (.bipush 16, 2, (0, 0, 0, 0)) := by decide +kernel
theorem sm_a158_79 : sm_at 158 79 = some (.iconst 5, 1, (0, 0, 0, 0)) := by decide +kernel
theorem sm_a158_80 : sm_at 158 80 = some (.iconst 5, 1, (0, 0, 0, 0)) := by decide +kernel
theorem sm_a158_81 : sm_at 158 81 = some (.invokevirtual 248, 3, (10, 157, 12, 1539)) := by decide +kernel
theorem sm_a158_84 : sm_at 158 84 = some (.goto 87, 3, (0, 0, 0, 0)) := by decide +kernel
theorem sm_a158_87 : sm_at 158 87 = some (.iload_n 2, 1, (0, 0, 0, 0)) := by decide +kernel
theorem sm_a158_88 : sm_at 158 88 = some (.iconst 5, 1, (0, 0, 0, 0)) := by decide +kernel
theorem sm_a158_89 : sm_at 158 89 = some (.if_icmp .ne 26, 3, (0, 0, 0, 0)) := by decide +kernel
theorem sm_a158_92 : sm_at 158 92 = some (.aload_n 0, 1, (0, 0, 0, 0)) := by decide +kernel
theorem sm_a158_93 : sm_at 158 93 = some (.aload_n 0, 1, (0, 0, 0, 0)) := by decide +kernel
theorem sm_a158_94 : sm_at 158 94 = some (.getfield 116, 3, (12, 39, 0, 1222)) := by decide +kernel
theorem sm_a158_97 : sm_at 158 97 = some (.iload_n 1, 1, (0, 0, 0, 0)) := by decide +kernel
theorem sm_a158_98 : sm_at 158 98 = some (.iaload, 1, (0, 0, 0, 0)) := by decide +kernel
theorem sm_a158_99 : sm_at 158 99 = some (.bipush 11, 2, (0, 0, 0, 0)) := by decide +kernel
theorem sm_a158_101 : sm_at 158 101 = some (.invokevirtual 245, 3, (10, 156, 12, 1535)) := by decide +kernel
theorem sm_a158_104 : sm_at 158 104 = some (.aload_n 0, 1, (0, 0, 0, 0)) := by decide +kernel
theorem sm_a158_105 : sm_at 158 105 = some (.bipush 16, 2, (0, 0, 0, 0)) := by decide +kernel
theorem sm_a158_107 : sm_at 158 107 = some (.iconst 5, 1, (0, 0, 0, 0)) := by decide +kernel
theorem sm_a158_108 : sm_at 158 108 = some (.iconst 5, 1, (0, 0, 0, 0)) := by decide +kernel
theorem sm_a158_109 : sm_at 158 109 = some (.invokevirtual 248, 3, (10, 157, 12, 1539)) := by decide +kernel
theorem sm_a158_112 : sm_at 158 112 = some (.goto 59, 3, (0, 0, 0, 0)) := by decide +kernel
theorem sm_a158_115 : sm_at 158 115 = some (.iload_n 2, 1, (0, 0, 0, 0)) := by decide +kernel
theorem sm_a158_116 : sm_at 158 116 = some (.iconst 3, 1, (0, 0, 0, 0)) := by decide +kernel
theorem sm_a158_117 : sm_at 158 117 = some (.if_icmp .eq 9, 3, (0, 0, 0, 0)) := by decide +kernel
theorem sm_a158_120 : sm_at 158 120 = some (.iload_n 2, 1, (0, 0, 0, 0)) := by decide +kernel
theorem sm_a158_121 : sm_at 158 121 = some (.bipush 11, 2, (0, 0, 0, 0)) := by decide +kernel
theorem sm_a158_123 : sm_at 158 123 = some (.if_icmp .ne 48, 3, (0, 0, 0, 0)) := by decide +kernel
theorem sm_a158_126 : sm_at 158 126 = some (.iconst 0, 1, (0, 0, 0, 0)) := by decide +kernel
theorem sm_a158_127 : sm_at 158 127 = some (.istore_n 3, 1, (0, 0, 0, 0)) := by decide +kernel
theorem sm_a158_128 : sm_at 158 128 = some (.iload_n 3, 1, (0, 0, 0, 0)) := by decide +kernel
theorem sm_a158_129 : sm_at 158 129 = some (.aload_n 0, 1, (0, 0, 0, 0)) := by decide +kernel
theorem sm_a158_130 : sm_at 158 130 = some (.getfield 122, 3, (12, 41, 0, 1224)) := by decide +kernel
theorem sm_a158_133 : sm_at 158 133 = some (.iload_n 1, 1, (0, 0, 0, 0)) := by decide +kernel
theorem sm_a158_134 : sm_at 158 134 = some (.iaload, 1, (0, 0, 0, 0)) := by decide +kernel
theorem sm_a158_135 : sm_at 158 135 = some (.if_icmp .ge 26, 3, (0, 0, 0, 0)) := by decide +kernel
theorem sm_a158_138 : sm_at 158 138 = some (.aload_n 0, 1, (0, 0, 0, 0)) := by decide +kernel
theorem sm_a158_139 : sm_at 158 139 = some (.aload_n 0, 1, (0, 0, 0, 0)) := by decide +kernel
theorem sm_a158_140 : sm_at 158 140 = some (.getfield 125, 3, (12, 42, 0, 1225)) := by decide +kernel
theorem sm_a158_143 : sm_at 158 143 = some (.bipush 100, 2, (0, 0, 0, 0)) := by decide +kernel
theorem sm_a158_145 : sm_at 158 145 = some (.iload_n 1, 1, (0, 0, 0, 0)) := by decide +kernel
theorem sm_a158_146 : sm_at 158 146 = some (.imul, 1, (0, 0, 0, 0)) := by decide +kernel
theorem sm_a158_147 : sm_at 158 147 = some (.iload_n 3, 1, (0, 0, 0, 0)) := by decide +kernel
theorem sm_a158_148 : sm_at 158 148 = some (.iadd, 1, (0, 0, 0, 0)) := by decide +kernel
theorem sm_a158_149 : sm_at 158 149 = some (.iaload, 1, (0, 0, 0, 0)) := by decide +kernel
theorem sm_a158_150 : sm_at 158 150 = some (.bipush 8, 2, (0, 0, 0, 0)) := by decide +kernel
theorem sm_a158_152 : sm_at 158 152 = some (.invokevirtual 245, 3, (10, 156, 12, 1535)) := by decide +kernel
theorem sm_a158_155 : sm_at 158 155 = some (.iinc 3 1, 3, (0, 0, 0, 0)) := by decide +kernel
theorem sm_a158_158 : sm_at 158 158 = some (.goto (-30), 3, (0, 0, 0, 0)) := by decide +kernel
theorem sm_a158_161 : sm_at 158 161 = some (.aload_n 0, 1, (0, 0, 0, 0)) := by decide +kernel
theorem sm_a158_162 : sm_at 158 162 = some (.bipush 16, 2, (0, 0, 0, 0)) := by decide +kernel
theorem sm_a158_164 : sm_at 158 164 = some (.bipush 16, 2, (0, 0, 0, 0)) := by decide +kernel
theorem sm_a158_166 : sm_at 158 166 = some (.ldc 252, 2, (32773, 0, 0, 1543)) := by decide +kernel
theorem sm_a158_168 : sm_at 158 168 = some (.invokevirtual 248, 3, (10, 157, 12, 1539)) := by decide +kernel
theorem sm_a158_171 : sm_at 158 171 = some (.aload_n 0, 1, (0, 0, 0, 0)) := by decide +kernel
theorem sm_a158_172 : sm_at 158 172 = some (.iconst 0, 1, (0, 0, 0, 0)) := by decide +kernel
theorem sm_a158_173 : sm_at 158 173 = some (.putfield 253, 3, (12, 46, 0, 1229)) := by decide +kernel
theorem sm_a158_176 : sm_at 158 176 = some (.iconst 1, 1, (0, 0, 0, 0)) := by decide +kernel
theorem sm_a158_177 : sm_at 158 177 = some (.istore_n 3, 1, (0, 0, 0, 0)) := by decide +kernel
theorem sm_a158_178 : sm_at 158 178 = some (.iconst 0, 1, (0, 0, 0, 0)) := by decide +kernel
theorem sm_a158_179 : sm_at 158 179 = some (.istore 4, 2, (0, 0, 0, 0)) := by decide +kernel
theorem sm_a158_181 : sm_at 158 181 = some (.iconst 0, 1, (0, 0, 0, 0)) := by decide +kernel
theorem sm_a158_182 : sm_at 158 182 = some (.istore 5, 2, (0, 0, 0, 0)) := by decide +kernel
theorem sm_a158_184 : sm_at 158 184 = some (.iload 5, 2, (0, 0, 0, 0)) := by decide +kernel
theorem sm_a158_186 : sm_at 158 186 = some (.aload_n 0, 1, (0, 0, 0, 0)) := by decide +kernel
theorem sm_a158_187 : sm_at 158 187 = some (.getfield 242, 3, (12, 48, 0, 1231)) := by decide +kernel
theorem sm_a158_190 : sm_at 158 190 = some (.if_icmp .ge 101, 3, (0, 0, 0, 0)) := by decide +kernel
theorem sm_a158_193 : sm_at 158 193 = some (.aload_n 0, 1, (0, 0, 0, 0)) := by decide +kernel
theorem sm_a158_194 : sm_at 158 194 = some (.getfield 140, 3, (12, 49, 0, 1232)) := by decide +kernel
theorem sm_a158_197 : sm_at 158 197 = some (.iload 5, 2, (0, 0, 0, 0)) := by decide +kernel
theorem sm_a158_199 : sm_at 158 199 = some (.iaload, 1, (0, 0, 0, 0)) := by decide +kernel
theorem sm_a158_200 : sm_at 158 200 = some (.ifCond .ne 9, 3, (0, 0, 0, 0)) := by decide +kernel
theorem sm_a158_203 : sm_at 158 203 = some (.iconst 1, 1, (0, 0, 0, 0)) := by decide +kernel
theorem sm_a158_204 : sm_at 158 204 = some (.iload_n 3, 1, (0, 0, 0, 0)) := by decide +kernel
theorem sm_a158_205 : sm_at 158 205 = some (.isub, 1, (0, 0, 0, 0)) := by decide +kernel
theorem sm_a158_206 : sm_at 158 206 = some (.goto 4, 3, (0, 0, 0, 0)) := by decide +kernel
theorem sm_a158_209 : sm_at 158 209 = some (.iload_n 3, 1, (0, 0, 0, 0)) := by decide +kernel
theorem sm_a158_210 : sm_at 158 210 = some (.istore_n 3, 1, (0, 0, 0, 0)) := by decide +kernel
theorem sm_a158_211 : sm_at 158 211 = some (.aload_n 0, 1, (0, 0, 0, 0)) := by decide +kernel
theorem sm_a158_212 : sm_at 158 212 = some (.getfield 137, 3, (12, 47, 0, 1230)) := by decide +kernel
theorem sm_a158_215 : sm_at 158 215 = some (.aload_n 0, 1, (0, 0, 0, 0)) := by decide +kernel
theorem sm_a158_216 : sm_at 158 216 = some (.getfield 253, 3, (12, 46, 0, 1229)) := by decide +kernel
theorem sm_a158_219 : sm_at 158 219 = some (.iload_n 3, 1, (0, 0, 0, 0)) := by decide +kernel
theorem sm_a158_220 : sm_at 158 220 = some (.iastore, 1, (1, 0, 0, 0)) := by decide +kernel
theorem sm_a158_221 : sm_at 158 221 = some (.aload_n 0, 1, (0, 0, 0, 0)) := by decide +kernel
theorem sm_a158_222 : sm_at 158 222 = some (.dup, 1, (0, 0, 0, 0)) := by decide +kernel
theorem sm_a158_223 : sm_at 158 223 = some (.getfield 253, 3, (12, 46, 0, 1229)) := by decide +kernel
theorem sm_a158_226 : sm_at 158 226 = some (.iconst 1, 1, (0, 0, 0, 0)) := by decide +kernel
theorem sm_a158_227 : sm_at 158 227 = some (.iadd, 1, (0, 0, 0, 0)) := by decide +kernel
theorem sm_a158_228 : sm_at 158 228 = some (.putfield 253, 3, (12, 46, 0, 1229)) := by decide +kernel
theorem sm_a158_231 : sm_at 158 231 = some (.aload_n 0, 1, (0, 0, 0, 0)) := by decide +kernel
theorem sm_a158_232 : sm_at 158 232 = some (.getfield 140, 3, (12, 49, 0, 1232)) := by decide +kernel
theorem sm_a158_235 : sm_at 158 235 = some (.iload 5, 2, (0, 0, 0, 0)) := by decide +kernel
theorem sm_a158_237 : sm_at 158 237 = some (.iaload, 1, (0, 0, 0, 0)) := by decide +kernel
theorem sm_a158_238 : sm_at 158 238 = some (.ifCond .ne 7, 3, (0, 0, 0, 0)) := by decide +kernel
theorem sm_a158_241 : sm_at 158 241 = some (.iconst 0, 1, (0, 0, 0, 0)) := by decide +kernel
theorem sm_a158_242 : sm_at 158 242 = some (.goto 7, 3, (0, 0, 0, 0)) := by decide +kernel
theorem sm_a158_245 : sm_at 158 245 = some (.iload 4, 2, (0, 0, 0, 0)) := by decide +kernel
theorem sm_a158_247 : sm_at 158 247 = some (.iconst 1, 1, (0, 0, 0, 0)) := by decide +kernel
theorem sm_a158_248 : sm_at 158 248 = some (.iadd, 1, (0, 0, 0, 0)) := by decide +kernel
theorem sm_a158_249 : sm_at 158 249 = some (.istore 4, 2, (0, 0, 0, 0)) := by decide +kernel
theorem sm_a158_251 : sm_at 158 251 = some (.iload 4, 2, (0, 0, 0, 0)) := by decide +kernel
theorem sm_a158_253 : sm_at 158 253 = some (.bipush 6, 2, (0, 0, 0, 0)) := by decide +kernel
theorem sm_a158_255 : sm_at 158 255 = some (.if_icmp .ne 30, 3, (0, 0, 0, 0)) := by decide +kernel
theorem sm_a158_258 : sm_at 158 258 = some (.iconst 1, 1, (0, 0, 0, 0)) := by decide +kernel
theorem sm_a158_259 : sm_at 158 259 = some (.iload_n 3, 1, (0, 0, 0, 0)) := by decide +kernel
theorem sm_a158_260 : sm_at 158 260 = some (.isub, 1, (0, 0, 0, 0)) := by decide +kernel
theorem sm_a158_261 : sm_at 158 261 = some (.istore_n 3, 1, (0, 0, 0, 0)) := by decide +kernel
theorem sm_a158_262 : sm_at 158 262 = some (.aload_n 0, 1, (0, 0, 0, 0)) := by decide +kernel
theorem sm_a158_263 : sm_at 158 263 = some (.getfield 137, 3, (12, 47, 0, 1230)) := by decide +kernel
theorem sm_a158_266 : sm_at 158 266 = some (.aload_n 0, 1, (0, 0, 0, 0)) := by decide +kernel
theorem sm_a158_267 : sm_at 158 267 = some (.getfield 253, 3, (12, 46, 0, 1229)) := by decide +kernel
theorem sm_a158_270 : sm_at 158 270 = some (.iload_n 3, 1, (0, 0, 0, 0)) := by decide +kernel
theorem sm_a158_271 : sm_at 158 271 = some (.iastore, 1, (1, 0, 0, 0)) := by decide +kernel
theorem sm_a158_272 : sm_at 158 272 = some (.aload_n 0, 1, (0, 0, 0, 0)) := by decide +kernel
theorem sm_a158_273 : sm_at 158 273 = some (.dup, 1, (0, 0, 0, 0)) := by decide +kernel
theorem sm_a158_274 : sm_at 158 274 = some (.getfield 253, 3, (12, 46, 0, 1229)) := by decide +kernel
theorem sm_a158_277 : sm_at 158 277 = some (.iconst 1, 1, (0, 0, 0, 0)) := by decide +kernel
theorem sm_a158_278 : sm_at 158 278 = some (.iadd, 1, (0, 0, 0, 0)) := by decide +kernel
theorem sm_a158_279 : sm_at 158 279 = some (.putfield 253, 3, (12, 46, 0, 1229)) := by decide +kernel
theorem sm_a158_282 : sm_at 158 282 = some (.iconst 0, 1, (0, 0, 0, 0)) := by decide +kernel
theorem sm_a158_283 : sm_at 158 283 = some (.istore 4, 2, (0, 0, 0, 0)) := by decide +kernel
theorem sm_a158_285 : sm_at 158 285 = some (.iinc 5 1, 3, (0, 0, 0, 0)) := by decide +kernel
theorem sm_a158_288 : sm_at 158 288 = some (.goto (-104), 3, (0, 0, 0, 0)) := by decide +kernel
theorem sm_a158_291 : sm_at 158 291 = some (.aload_n 0, 1, (0, 0, 0, 0)) := by decide +kernel
theorem sm_a158_292 : sm_at 158 292 = some (.getfield 137, 3, (12, 47, 0, 1230)) := by decide +kernel
theorem sm_a158_295 : sm_at 158 295 = some (.aload_n 0, 1, (0, 0, 0, 0)) := by decide +kernel
theorem sm_a158_296 : sm_at 158 296 = some (.getfield 253, 3, (12, 46, 0, 1229)) := by decide +kernel
theorem sm_a158_299 : sm_at 158 299 = some (.iconst 2, 1, (0, 0, 0, 0)) := by decide +kernel
theorem sm_a158_300 : sm_at 158 300 = some (.iastore, 1, (1, 0, 0, 0)) := by decide +kernel
theorem sm_a158_301 : sm_at 158 301 = some (.aload_n 0, 1, (0, 0, 0, 0)) := by decide +kernel
theorem sm_a158_302 : sm_at 158 302 = some (.getfield 137, 3, (12, 47, 0, 1230)) := by decide +kernel
theorem sm_a158_305 : sm_at 158 305 = some (.aload_n 0, 1, (0, 0, 0, 0)) := by decide +kernel
theorem sm_a158_306 : sm_at 158 306 = some (.getfield 253, 3, (12, 46, 0, 1229)) := by decide +kernel
theorem sm_a158_309 : sm_at 158 309 = some (.iconst 1, 1, (0, 0, 0, 0)) := by decide +kernel
theorem sm_a158_310 : sm_at 158 310 = some (.iadd, 1, (0, 0, 0, 0)) := by decide +kernel
theorem sm_a158_311 : sm_at 158 311 = some (.iconst 2, 1, (0, 0, 0, 0)) := by decide +kernel
theorem sm_a158_312 : sm_at 158 312 = some (.iastore, 1, (1, 0, 0, 0)) := by decide +kernel
theorem sm_a158_313 : sm_at 158 313 = some (.aload_n 0, 1, (0, 0, 0, 0)) := by decide +kernel
theorem sm_a158_314 : sm_at 158 314 = some (.getfield 137, 3, (12, 47, 0, 1230)) := by decide +kernel
theorem sm_a158_317 : sm_at 158 317 = some (.aload_n 0, 1, (0, 0, 0, 0)) := by decide +kernel
theorem sm_a158_318 : sm_at 158 318 = some (.getfield 253, 3, (12, 46, 0, 1229)) := by decide +kernel
theorem sm_a158_321 : sm_at 158 321 = some (.iconst 2, 1, (0, 0, 0, 0)) := by decide +kernel
theorem sm_a158_322 : sm_at 158 322 = some (.iadd, 1, (0, 0, 0, 0)) := by decide +kernel
theorem sm_a158_323 : sm_at 158 323 = some (.iconst 1, 1, (0, 0, 0, 0)) := by decide +kernel
theorem sm_a158_324 : sm_at 158 324 = some (.iastore, 1, (1, 0, 0, 0)) := by decide +kernel
theorem sm_a158_325 : sm_at 158 325 = some (.aload_n 0, 1, (0, 0, 0, 0)) := by decide +kernel
theorem sm_a158_326 : sm_at 158 326 = some (.dup, 1, (0, 0, 0, 0)) := by decide +kernel
theorem sm_a158_327 : sm_at 158 327 = some (.getfield 253, 3, (12, 46, 0, 1229)) := by decide +kernel
theorem sm_a158_330 : sm_at 158 330 = some (.iconst 3, 1, (0, 0, 0, 0)) := by decide +kernel
theorem sm_a158_331 : sm_at 158 331 = some (.iadd, 1, (0, 0, 0, 0)) := by decide +kernel
theorem sm_a158_332 : sm_at 158 332 = some (.putfield 253, 3, (12, 46, 0, 1229)) := by decide +kernel
theorem sm_a158_335 : sm_at 158 335 = some (.return_, 1, (0, 0, 0, 0)) := by decide +kernel
theorem bb_158_0 {d : Nat} {M : sm_M} {Q : Option sm_V → sm_M → Prop} {a0 : Nat} {x1 : Int32} {z2 : Option sm_V} {z3 : Option sm_V} {z4 : Option sm_V} {z5 : Option sm_V}
    (h : sm_K M a0 = 39 ∧ sm_Run d 156 0 (sm_ent 156 [.inr (some a0), .inl 128, .inl 8]) [] (sm_putI M a0 48 0) (fun v M1 => sm_Run (d + 1) 158 14 [some (.inr (some a0)), some (.inl x1), z2, z3, z4, z5] (v.toList ++ []) M1 Q)) :
    sm_Run (d + 1) 158 0 [some (.inr (some a0)), some (.inl x1), z2, z3, z4, z5] [] M Q := by
  refine ru_go (t := (1, [some (.inr (some a0)), some (.inl x1), z2, z3, z4, z5], [.inr (some a0)], M)) sm_a158_0 rfl rfl rfl ?_
  refine ru_go (t := (2, [some (.inr (some a0)), some (.inl x1), z2, z3, z4, z5], [.inl 0, .inr (some a0)], M)) sm_a158_1 rfl rfl (st_iconst (by decide)) ?_
  obtain ⟨h_1, h⟩ := h
  refine ru_go (t := (5, [some (.inr (some a0)), some (.inl x1), z2, z3, z4, z5], [], sm_putI M a0 48 0)) sm_a158_2 rfl rfl (st_putI h_1 rfl) ?_
  refine ru_go (t := (6, [some (.inr (some a0)), some (.inl x1), z2, z3, z4, z5], [.inr (some a0)], sm_putI M a0 48 0)) sm_a158_5 rfl rfl rfl ?_
  refine ru_go (t := (9, [some (.inr (some a0)), some (.inl x1), z2, z3, z4, z5], [.inl 128, .inr (some a0)], sm_putI M a0 48 0)) sm_a158_6 rfl rfl (st_sipush (by decide)) ?_
  refine ru_go (t := (11, [some (.inr (some a0)), some (.inl x1), z2, z3, z4, z5], [.inl 8, .inl 128, .inr (some a0)], sm_putI M a0 48 0)) sm_a158_9 rfl rfl (st_bipush (by decide)) ?_
  exact ru_call (p := 14) sm_a158_11 rfl (sc_virt (Or.inl rfl) rfl rfl h_1 (Nat.le_of_ble_eq_true rfl)) rfl h
theorem bb_158_14 {d : Nat} {M : sm_M} {Q : Option sm_V → sm_M → Prop} {a0 : Nat} {x1 : Int32} {z2 : Option sm_V} {z3 : Option sm_V} {z4 : Option sm_V} {z5 : Option sm_V}
    (h : sm_K M a0 = 39 ∧ ∃ b_2, sm_R M a0 38 = some b_2 ∧ sm_iA M b_2 ∧ sm_in_ M b_2 x1 ∧ sm_Run d 156 0 (sm_ent 156 [.inr (some a0), .inl ((sm_I M b_2 (x1).toNatClampNeg) + (16 * (15 - (sm_I M b_2 (x1).toNatClampNeg)))), .inl 8]) [] M (fun v M1 => sm_Run (d + 1) 158 36 [some (.inr (some a0)), some (.inl x1), some (.inl (sm_I M b_2 (x1).toNatClampNeg)), z3, z4, z5] (v.toList ++ []) M1 Q)) :
    sm_Run (d + 1) 158 14 [some (.inr (some a0)), some (.inl x1), z2, z3, z4, z5] [] M Q := by
  refine ru_go (t := (15, [some (.inr (some a0)), some (.inl x1), z2, z3, z4, z5], [.inr (some a0)], M)) sm_a158_14 rfl rfl rfl ?_
  obtain ⟨h_1, h⟩ := h
  refine ru_go (t := (18, [some (.inr (some a0)), some (.inl x1), z2, z3, z4, z5], [.inr (sm_R M a0 38)], M)) sm_a158_15 rfl rfl (st_getR h_1 rfl rfl) ?_
  refine ru_go (t := (19, [some (.inr (some a0)), some (.inl x1), z2, z3, z4, z5], [.inl x1, .inr (sm_R M a0 38)], M)) sm_a158_18 rfl rfl rfl ?_
  obtain ⟨b_2, hb_3, h⟩ := h
  rw [hb_3]
  obtain ⟨h_4, h⟩ := h
  obtain ⟨h_5, h⟩ := h
  refine ru_go (t := (20, [some (.inr (some a0)), some (.inl x1), z2, z3, z4, z5], [.inl (sm_I M b_2 (x1).toNatClampNeg)], M)) sm_a158_19 rfl rfl (st_iald h_4 h_5) ?_
  refine ru_go (t := (21, [some (.inr (some a0)), some (.inl x1), some (.inl (sm_I M b_2 (x1).toNatClampNeg)), z3, z4, z5], [], M)) sm_a158_20 rfl rfl rfl ?_
  refine ru_go (t := (22, [some (.inr (some a0)), some (.inl x1), some (.inl (sm_I M b_2 (x1).toNatClampNeg)), z3, z4, z5], [.inr (some a0)], M)) sm_a158_21 rfl rfl rfl ?_
  refine ru_go (t := (23, [some (.inr (some a0)), some (.inl x1), some (.inl (sm_I M b_2 (x1).toNatClampNeg)), z3, z4, z5], [.inl (sm_I M b_2 (x1).toNatClampNeg), .inr (some a0)], M)) sm_a158_22 rfl rfl rfl ?_
  refine ru_go (t := (25, [some (.inr (some a0)), some (.inl x1), some (.inl (sm_I M b_2 (x1).toNatClampNeg)), z3, z4, z5], [.inl 16, .inl (sm_I M b_2 (x1).toNatClampNeg), .inr (some a0)], M)) sm_a158_23 rfl rfl (st_bipush (by decide)) ?_
  refine ru_go (t := (27, [some (.inr (some a0)), some (.inl x1), some (.inl (sm_I M b_2 (x1).toNatClampNeg)), z3, z4, z5], [.inl 15, .inl 16, .inl (sm_I M b_2 (x1).toNatClampNeg), .inr (some a0)], M)) sm_a158_25 rfl rfl (st_bipush (by decide)) ?_
  refine ru_go (t := (28, [some (.inr (some a0)), some (.inl x1), some (.inl (sm_I M b_2 (x1).toNatClampNeg)), z3, z4, z5], [.inl (sm_I M b_2 (x1).toNatClampNeg), .inl 15, .inl 16, .inl (sm_I M b_2 (x1).toNatClampNeg), .inr (some a0)], M)) sm_a158_27 rfl rfl rfl ?_
  refine ru_go (t := (29, [some (.inr (some a0)), some (.inl x1), some (.inl (sm_I M b_2 (x1).toNatClampNeg)), z3, z4, z5], [.inl (15 - (sm_I M b_2 (x1).toNatClampNeg)), .inl 16, .inl (sm_I M b_2 (x1).toNatClampNeg), .inr (some a0)], M)) sm_a158_28 rfl rfl rfl ?_
  refine ru_go (t := (30, [some (.inr (some a0)), some (.inl x1), some (.inl (sm_I M b_2 (x1).toNatClampNeg)), z3, z4, z5], [.inl (16 * (15 - (sm_I M b_2 (x1).toNatClampNeg))), .inl (sm_I M b_2 (x1).toNatClampNeg), .inr (some a0)], M)) sm_a158_29 rfl rfl rfl ?_
  refine ru_go (t := (31, [some (.inr (some a0)), some (.inl x1), some (.inl (sm_I M b_2 (x1).toNatClampNeg)), z3, z4, z5], [.inl ((sm_I M b_2 (x1).toNatClampNeg) + (16 * (15 - (sm_I M b_2 (x1).toNatClampNeg)))), .inr (some a0)], M)) sm_a158_30 rfl rfl rfl ?_
  refine ru_go (t := (33, [some (.inr (some a0)), some (.inl x1), some (.inl (sm_I M b_2 (x1).toNatClampNeg)), z3, z4, z5], [.inl 8, .inl ((sm_I M b_2 (x1).toNatClampNeg) + (16 * (15 - (sm_I M b_2 (x1).toNatClampNeg)))), .inr (some a0)], M)) sm_a158_31 rfl rfl (st_bipush (by decide)) ?_
  exact ru_call (p := 36) sm_a158_33 rfl (sc_virt (Or.inl rfl) rfl rfl h_1 (Nat.le_of_ble_eq_true rfl)) rfl h
theorem bb_158_36 {d : Nat} {M : sm_M} {Q : Option sm_V → sm_M → Prop} {a0 : Nat} {x1 : Int32} {x2 : Int32} {z3 : Option sm_V} {z4 : Option sm_V} {z5 : Option sm_V}
    (h : ((x2 = 1 → sm_K M a0 = 39 ∧ ∃ b_3, sm_R M a0 39 = some b_3 ∧ sm_iA M b_3 ∧ sm_in_ M b_3 x1 ∧ sm_Run d 156 0 (sm_ent 156 [.inr (some a0), .inl (sm_I M b_3 (x1).toNatClampNeg), .inl 7]) [] M (fun v M1 => sm_Run (d + 1) 158 65 [some (.inr (some a0)), some (.inl x1), some (.inl x2), z3, z4, z5] (v.toList ++ []) M1 Q)) ∧ (¬ (x2 = 1) → ((x2 = 9 → sm_K M a0 = 39 ∧ ∃ b_9, sm_R M a0 39 = some b_9 ∧ sm_iA M b_9 ∧ sm_in_ M b_9 x1 ∧ sm_Run d 156 0 (sm_ent 156 [.inr (some a0), .inl (sm_I M b_9 (x1).toNatClampNeg), .inl 7]) [] M (fun v M1 => sm_Run (d + 1) 158 65 [some (.inr (some a0)), some (.inl x1), some (.inl x2), z3, z4, z5] (v.toList ++ []) M1 Q)) ∧ (¬ (x2 = 9) → ((¬ x2 = 13 → ((¬ x2 = 5 → ((x2 = 3 → sm_Run (d + 1) 158 128 [some (.inr (some a0)), some (.inl x1), some (.inl x2), some (.inl 0), z4, z5] [] M Q) ∧ (¬ (x2 = 3) → ((¬ x2 = 11 → sm_Run (d + 1) 158 171 [some (.inr (some a0)), some (.inl x1), some (.inl x2), z3, z4, z5] [] M Q) ∧ (¬ (¬ x2 = 11) → sm_Run (d + 1) 158 128 [some (.inr (some a0)), some (.inl x1), some (.inl x2), some (.inl 0), z4, z5] [] M Q))))) ∧ (¬ (¬ x2 = 5) → sm_K M a0 = 39 ∧ ∃ b_18, sm_R M a0 39 = some b_18 ∧ sm_iA M b_18 ∧ sm_in_ M b_18 x1 ∧ sm_Run d 156 0 (sm_ent 156 [.inr (some a0), .inl (sm_I M b_18 (x1).toNatClampNeg), .inl 11]) [] M (fun v M1 => sm_Run (d + 1) 158 104 [some (.inr (some a0)), some (.inl x1), some (.inl x2), z3, z4, z5] (v.toList ++ []) M1 Q)))) ∧ (¬ (¬ x2 = 13) → sm_K M a0 = 39 ∧ ∃ b_23, sm_R M a0 39 = some b_23 ∧ sm_iA M b_23 ∧ sm_in_ M b_23 x1 ∧ sm_Run d 156 0 (sm_ent 156 [.inr (some a0), .inl (sm_I M b_23 (x1).toNatClampNeg), .inl 7]) [] M (fun v M1 => sm_Run (d + 1) 158 65 [some (.inr (some a0)), some (.inl x1), some (.inl x2), z3, z4, z5] (v.toList ++ []) M1 Q)))))))) :
    sm_Run (d + 1) 158 36 [some (.inr (some a0)), some (.inl x1), some (.inl x2), z3, z4, z5] [] M Q := by
  refine ru_go (t := (37, [some (.inr (some a0)), some (.inl x1), some (.inl x2), z3, z4, z5], [.inl x2], M)) sm_a158_36 rfl rfl rfl ?_
  refine ru_go (t := (38, [some (.inr (some a0)), some (.inl x1), some (.inl x2), z3, z4, z5], [.inl 1, .inl x2], M)) sm_a158_37 rfl rfl (st_iconst (by decide)) ?_
  refine ru_icmp (pc := 38) (p := 53) (p2 := 41) sm_a158_38 (by decide) rfl ⟨fun hc_1 => ?_, fun hc_1 => ?_⟩
  · have h := h.1 hc_1
    refine ru_go (t := (54, [some (.inr (some a0)), some (.inl x1), some (.inl x2), z3, z4, z5], [.inr (some a0)], M)) sm_a158_53 rfl rfl rfl ?_
    refine ru_go (t := (55, [some (.inr (some a0)), some (.inl x1), some (.inl x2), z3, z4, z5], [.inr (some a0), .inr (some a0)], M)) sm_a158_54 rfl rfl rfl ?_
    obtain ⟨h_2, h⟩ := h
    refine ru_go (t := (58, [some (.inr (some a0)), some (.inl x1), some (.inl x2), z3, z4, z5], [.inr (sm_R M a0 39), .inr (some a0)], M)) sm_a158_55 rfl rfl (st_getR h_2 rfl rfl) ?_
    refine ru_go (t := (59, [some (.inr (some a0)), some (.inl x1), some (.inl x2), z3, z4, z5], [.inl x1, .inr (sm_R M a0 39), .inr (some a0)], M)) sm_a158_58 rfl rfl rfl ?_
    obtain ⟨b_3, hb_4, h⟩ := h
    rw [hb_4]
    obtain ⟨h_5, h⟩ := h
    obtain ⟨h_6, h⟩ := h
    refine ru_go (t := (60, [some (.inr (some a0)), some (.inl x1), some (.inl x2), z3, z4, z5], [.inl (sm_I M b_3 (x1).toNatClampNeg), .inr (some a0)], M)) sm_a158_59 rfl rfl (st_iald h_5 h_6) ?_
    refine ru_go (t := (62, [some (.inr (some a0)), some (.inl x1), some (.inl x2), z3, z4, z5], [.inl 7, .inl (sm_I M b_3 (x1).toNatClampNeg), .inr (some a0)], M)) sm_a158_60 rfl rfl (st_bipush (by decide)) ?_
    exact ru_call (p := 65) sm_a158_62 rfl (sc_virt (Or.inl rfl) rfl rfl h_2 (Nat.le_of_ble_eq_true rfl)) rfl h
  · have h := h.2 hc_1
    refine ru_go (t := (42, [some (.inr (some a0)), some (.inl x1), some (.inl x2), z3, z4, z5], [.inl x2], M)) sm_a158_41 rfl rfl rfl ?_
    refine ru_go (t := (44, [some (.inr (some a0)), some (.inl x1), some (.inl x2), z3, z4, z5], [.inl 9, .inl x2], M)) sm_a158_42 rfl rfl (st_bipush (by decide)) ?_
    refine ru_icmp (pc := 44) (p := 53) (p2 := 47) sm_a158_44 (by decide) rfl ⟨fun hc_7 => ?_, fun hc_7 => ?_⟩
    · have h := h.1 hc_7
      refine ru_go (t := (54, [some (.inr (some a0)), some (.inl x1), some (.inl x2), z3, z4, z5], [.inr (some a0)], M)) sm_a158_53 rfl rfl rfl ?_
      refine ru_go (t := (55, [some (.inr (some a0)), some (.inl x1), some (.inl x2), z3, z4, z5], [.inr (some a0), .inr (some a0)], M)) sm_a158_54 rfl rfl rfl ?_
      obtain ⟨h_8, h⟩ := h
      refine ru_go (t := (58, [some (.inr (some a0)), some (.inl x1), some (.inl x2), z3, z4, z5], [.inr (sm_R M a0 39), .inr (some a0)], M)) sm_a158_55 rfl rfl (st_getR h_8 rfl rfl) ?_
      refine ru_go (t := (59, [some (.inr (some a0)), some (.inl x1), some (.inl x2), z3, z4, z5], [.inl x1, .inr (sm_R M a0 39), .inr (some a0)], M)) sm_a158_58 rfl rfl rfl ?_
      obtain ⟨b_9, hb_10, h⟩ := h
      rw [hb_10]
      obtain ⟨h_11, h⟩ := h
      obtain ⟨h_12, h⟩ := h
      refine ru_go (t := (60, [some (.inr (some a0)), some (.inl x1), some (.inl x2), z3, z4, z5], [.inl (sm_I M b_9 (x1).toNatClampNeg), .inr (some a0)], M)) sm_a158_59 rfl rfl (st_iald h_11 h_12) ?_
      refine ru_go (t := (62, [some (.inr (some a0)), some (.inl x1), some (.inl x2), z3, z4, z5], [.inl 7, .inl (sm_I M b_9 (x1).toNatClampNeg), .inr (some a0)], M)) sm_a158_60 rfl rfl (st_bipush (by decide)) ?_
      exact ru_call (p := 65) sm_a158_62 rfl (sc_virt (Or.inl rfl) rfl rfl h_8 (Nat.le_of_ble_eq_true rfl)) rfl h
    · have h := h.2 hc_7
      refine ru_go (t := (48, [some (.inr (some a0)), some (.inl x1), some (.inl x2), z3, z4, z5], [.inl x2], M)) sm_a158_47 rfl rfl rfl ?_
      refine ru_go (t := (50, [some (.inr (some a0)), some (.inl x1), some (.inl x2), z3, z4, z5], [.inl 13, .inl x2], M)) sm_a158_48 rfl rfl (st_bipush (by decide)) ?_
      refine ru_icmp (pc := 50) (p := 87) (p2 := 53) sm_a158_50 (by decide) rfl ⟨fun hc_13 => ?_, fun hc_13 => ?_⟩
      · have h := h.1 hc_13
        refine ru_go (t := (88, [some (.inr (some a0)), some (.inl x1), some (.inl x2), z3, z4, z5], [.inl x2], M)) sm_a158_87 rfl rfl rfl ?_
        refine ru_go (t := (89, [some (.inr (some a0)), some (.inl x1), some (.inl x2), z3, z4, z5], [.inl 5, .inl x2], M)) sm_a158_88 rfl rfl (st_iconst (by decide)) ?_
        refine ru_icmp (pc := 89) (p := 115) (p2 := 92) sm_a158_89 (by decide) rfl ⟨fun hc_14 => ?_, fun hc_14 => ?_⟩
        · have h := h.1 hc_14
          refine ru_go (t := (116, [some (.inr (some a0)), some (.inl x1), some (.inl x2), z3, z4, z5], [.inl x2], M)) sm_a158_115 rfl rfl rfl ?_
          refine ru_go (t := (117, [some (.inr (some a0)), some (.inl x1), some (.inl x2), z3, z4, z5], [.inl 3, .inl x2], M)) sm_a158_116 rfl rfl (st_iconst (by decide)) ?_
          refine ru_icmp (pc := 117) (p := 126) (p2 := 120) sm_a158_117 (by decide) rfl ⟨fun hc_15 => ?_, fun hc_15 => ?_⟩
          · have h := h.1 hc_15
            refine ru_go (t := (127, [some (.inr (some a0)), some (.inl x1), some (.inl x2), z3, z4, z5], [.inl 0], M)) sm_a158_126 rfl rfl (st_iconst (by decide)) ?_
            refine ru_go (t := (128, [some (.inr (some a0)), some (.inl x1), some (.inl x2), some (.inl 0), z4, z5], [], M)) sm_a158_127 rfl rfl rfl ?_
            exact h
          · have h := h.2 hc_15
            refine ru_go (t := (121, [some (.inr (some a0)), some (.inl x1), some (.inl x2), z3, z4, z5], [.inl x2], M)) sm_a158_120 rfl rfl rfl ?_
            refine ru_go (t := (123, [some (.inr (some a0)), some (.inl x1), some (.inl x2), z3, z4, z5], [.inl 11, .inl x2], M)) sm_a158_121 rfl rfl (st_bipush (by decide)) ?_
            refine ru_icmp (pc := 123) (p := 171) (p2 := 126) sm_a158_123 (by decide) rfl ⟨fun hc_16 => ?_, fun hc_16 => ?_⟩
            · have h := h.1 hc_16
              exact h
            · have h := h.2 hc_16
              refine ru_go (t := (127, [some (.inr (some a0)), some (.inl x1), some (.inl x2), z3, z4, z5], [.inl 0], M)) sm_a158_126 rfl rfl (st_iconst (by decide)) ?_
              refine ru_go (t := (128, [some (.inr (some a0)), some (.inl x1), some (.inl x2), some (.inl 0), z4, z5], [], M)) sm_a158_127 rfl rfl rfl ?_
              exact h
        · have h := h.2 hc_14
          refine ru_go (t := (93, [some (.inr (some a0)), some (.inl x1), some (.inl x2), z3, z4, z5], [.inr (some a0)], M)) sm_a158_92 rfl rfl rfl ?_
          refine ru_go (t := (94, [some (.inr (some a0)), some (.inl x1), some (.inl x2), z3, z4, z5], [.inr (some a0), .inr (some a0)], M)) sm_a158_93 rfl rfl rfl ?_
          obtain ⟨h_17, h⟩ := h
          refine ru_go (t := (97, [some (.inr (some a0)), some (.inl x1), some (.inl x2), z3, z4, z5], [.inr (sm_R M a0 39), .inr (some a0)], M)) sm_a158_94 rfl rfl (st_getR h_17 rfl rfl) ?_
          refine ru_go (t := (98, [some (.inr (some a0)), some (.inl x1), some (.inl x2), z3, z4, z5], [.inl x1, .inr (sm_R M a0 39), .inr (some a0)], M)) sm_a158_97 rfl rfl rfl ?_
          obtain ⟨b_18, hb_19, h⟩ := h
          rw [hb_19]
          obtain ⟨h_20, h⟩ := h
          obtain ⟨h_21, h⟩ := h
          refine ru_go (t := (99, [some (.inr (some a0)), some (.inl x1), some (.inl x2), z3, z4, z5], [.inl (sm_I M b_18 (x1).toNatClampNeg), .inr (some a0)], M)) sm_a158_98 rfl rfl (st_iald h_20 h_21) ?_
          refine ru_go (t := (101, [some (.inr (some a0)), some (.inl x1), some (.inl x2), z3, z4, z5], [.inl 11, .inl (sm_I M b_18 (x1).toNatClampNeg), .inr (some a0)], M)) sm_a158_99 rfl rfl (st_bipush (by decide)) ?_
          exact ru_call (p := 104) sm_a158_101 rfl (sc_virt (Or.inl rfl) rfl rfl h_17 (Nat.le_of_ble_eq_true rfl)) rfl h
      · have h := h.2 hc_13
        refine ru_go (t := (54, [some (.inr (some a0)), some (.inl x1), some (.inl x2), z3, z4, z5], [.inr (some a0)], M)) sm_a158_53 rfl rfl rfl ?_
        refine ru_go (t := (55, [some (.inr (some a0)), some (.inl x1), some (.inl x2), z3, z4, z5], [.inr (some a0), .inr (some a0)], M)) sm_a158_54 rfl rfl rfl ?_
        obtain ⟨h_22, h⟩ := h
        refine ru_go (t := (58, [some (.inr (some a0)), some (.inl x1), some (.inl x2), z3, z4, z5], [.inr (sm_R M a0 39), .inr (some a0)], M)) sm_a158_55 rfl rfl (st_getR h_22 rfl rfl) ?_
        refine ru_go (t := (59, [some (.inr (some a0)), some (.inl x1), some (.inl x2), z3, z4, z5], [.inl x1, .inr (sm_R M a0 39), .inr (some a0)], M)) sm_a158_58 rfl rfl rfl ?_
        obtain ⟨b_23, hb_24, h⟩ := h
        rw [hb_24]
        obtain ⟨h_25, h⟩ := h
        obtain ⟨h_26, h⟩ := h
        refine ru_go (t := (60, [some (.inr (some a0)), some (.inl x1), some (.inl x2), z3, z4, z5], [.inl (sm_I M b_23 (x1).toNatClampNeg), .inr (some a0)], M)) sm_a158_59 rfl rfl (st_iald h_25 h_26) ?_
        refine ru_go (t := (62, [some (.inr (some a0)), some (.inl x1), some (.inl x2), z3, z4, z5], [.inl 7, .inl (sm_I M b_23 (x1).toNatClampNeg), .inr (some a0)], M)) sm_a158_60 rfl rfl (st_bipush (by decide)) ?_
        exact ru_call (p := 65) sm_a158_62 rfl (sc_virt (Or.inl rfl) rfl rfl h_22 (Nat.le_of_ble_eq_true rfl)) rfl h
theorem bb_158_65 {d : Nat} {M : sm_M} {Q : Option sm_V → sm_M → Prop} {a0 : Nat} {x1 : Int32} {x2 : Int32} {z3 : Option sm_V} {z4 : Option sm_V} {z5 : Option sm_V}
    (h : sm_K M a0 = 39 ∧ ∃ b_2, sm_R M a0 40 = some b_2 ∧ sm_iA M b_2 ∧ sm_in_ M b_2 x1 ∧ sm_Run d 156 0 (sm_ent 156 [.inr (some a0), .inl (sm_I M b_2 (x1).toNatClampNeg), .inl 4]) [] M (fun v M1 => sm_Run (d + 1) 158 76 [some (.inr (some a0)), some (.inl x1), some (.inl x2), z3, z4, z5] (v.toList ++ []) M1 Q)) :
    sm_Run (d + 1) 158 65 [some (.inr (some a0)), some (.inl x1), some (.inl x2), z3, z4, z5] [] M Q := by
  refine ru_go (t := (66, [some (.inr (some a0)), some (.inl x1), some (.inl x2), z3, z4, z5], [.inr (some a0)], M)) sm_a158_65 rfl rfl rfl ?_
  refine ru_go (t := (67, [some (.inr (some a0)), some (.inl x1), some (.inl x2), z3, z4, z5], [.inr (some a0), .inr (some a0)], M)) sm_a158_66 rfl rfl rfl ?_
  obtain ⟨h_1, h⟩ := h
  refine ru_go (t := (70, [some (.inr (some a0)), some (.inl x1), some (.inl x2), z3, z4, z5], [.inr (sm_R M a0 40), .inr (some a0)], M)) sm_a158_67 rfl rfl (st_getR h_1 rfl rfl) ?_
  refine ru_go (t := (71, [some (.inr (some a0)), some (.inl x1), some (.inl x2), z3, z4, z5], [.inl x1, .inr (sm_R M a0 40), .inr (some a0)], M)) sm_a158_70 rfl rfl rfl ?_
  obtain ⟨b_2, hb_3, h⟩ := h
  rw [hb_3]
  obtain ⟨h_4, h⟩ := h
  obtain ⟨h_5, h⟩ := h
  refine ru_go (t := (72, [some (.inr (some a0)), some (.inl x1), some (.inl x2), z3, z4, z5], [.inl (sm_I M b_2 (x1).toNatClampNeg), .inr (some a0)], M)) sm_a158_71 rfl rfl (st_iald h_4 h_5) ?_
  refine ru_go (t := (73, [some (.inr (some a0)), some (.inl x1), some (.inl x2), z3, z4, z5], [.inl 4, .inl (sm_I M b_2 (x1).toNatClampNeg), .inr (some a0)], M)) sm_a158_72 rfl rfl (st_iconst (by decide)) ?_
  exact ru_call (p := 76) sm_a158_73 rfl (sc_virt (Or.inl rfl) rfl rfl h_1 (Nat.le_of_ble_eq_true rfl)) rfl h
theorem bb_158_76 {d : Nat} {M : sm_M} {Q : Option sm_V → sm_M → Prop} {a0 : Nat} {x1 : Int32} {x2 : Int32} {z3 : Option sm_V} {z4 : Option sm_V} {z5 : Option sm_V}
    (h : sm_K M a0 = 39 ∧ sm_Run d 157 0 (sm_ent 157 [.inr (some a0), .inl 16, .inl 5, .inl 5]) [] M (fun v M1 => sm_Run (d + 1) 158 84 [some (.inr (some a0)), some (.inl x1), some (.inl x2), z3, z4, z5] (v.toList ++ []) M1 Q)) :
    sm_Run (d + 1) 158 76 [some (.inr (some a0)), some (.inl x1), some (.inl x2), z3, z4, z5] [] M Q := by
  refine ru_go (t := (77, [some (.inr (some a0)), some (.inl x1), some (.inl x2), z3, z4, z5], [.inr (some a0)], M)) sm_a158_76 rfl rfl rfl ?_
  refine ru_go (t := (79, [some (.inr (some a0)), some (.inl x1), some (.inl x2), z3, z4, z5], [.inl 16, .inr (some a0)], M)) sm_a158_77 rfl rfl (st_bipush (by decide)) ?_
  refine ru_go (t := (80, [some (.inr (some a0)), some (.inl x1), some (.inl x2), z3, z4, z5], [.inl 5, .inl 16, .inr (some a0)], M)) sm_a158_79 rfl rfl (st_iconst (by decide)) ?_
  refine ru_go (t := (81, [some (.inr (some a0)), some (.inl x1), some (.inl x2), z3, z4, z5], [.inl 5, .inl 5, .inl 16, .inr (some a0)], M)) sm_a158_80 rfl rfl (st_iconst (by decide)) ?_
  obtain ⟨h_1, h⟩ := h
  exact ru_call (p := 84) sm_a158_81 rfl (sc_virt (Or.inl rfl) rfl rfl h_1 (Nat.le_of_ble_eq_true rfl)) rfl h
theorem bb_158_84 {d : Nat} {M : sm_M} {Q : Option sm_V → sm_M → Prop} {a0 : Nat} {x1 : Int32} {x2 : Int32} {z3 : Option sm_V} {z4 : Option sm_V} {z5 : Option sm_V}
    (h : sm_Run (d + 1) 158 171 [some (.inr (some a0)), some (.inl x1), some (.inl x2), z3, z4, z5] [] M Q) :
    sm_Run (d + 1) 158 84 [some (.inr (some a0)), some (.inl x1), some (.inl x2), z3, z4, z5] [] M Q := by
  refine ru_go (t := (171, [some (.inr (some a0)), some (.inl x1), some (.inl x2), z3, z4, z5], [], M)) sm_a158_84 rfl rfl (st_goto (pc := 84) (by decide)) ?_
  exact h
theorem bb_158_104 {d : Nat} {M : sm_M} {Q : Option sm_V → sm_M → Prop} {a0 : Nat} {x1 : Int32} {x2 : Int32} {z3 : Option sm_V} {z4 : Option sm_V} {z5 : Option sm_V}
    (h : sm_K M a0 = 39 ∧ sm_Run d 157 0 (sm_ent 157 [.inr (some a0), .inl 16, .inl 5, .inl 5]) [] M (fun v M1 => sm_Run (d + 1) 158 112 [some (.inr (some a0)), some (.inl x1), some (.inl x2), z3, z4, z5] (v.toList ++ []) M1 Q)) :
    sm_Run (d + 1) 158 104 [some (.inr (some a0)), some (.inl x1), some (.inl x2), z3, z4, z5] [] M Q := by
  refine ru_go (t := (105, [some (.inr (some a0)), some (.inl x1), some (.inl x2), z3, z4, z5], [.inr (some a0)], M)) sm_a158_104 rfl rfl rfl ?_
  refine ru_go (t := (107, [some (.inr (some a0)), some (.inl x1), some (.inl x2), z3, z4, z5], [.inl 16, .inr (some a0)], M)) sm_a158_105 rfl rfl (st_bipush (by decide)) ?_
  refine ru_go (t := (108, [some (.inr (some a0)), some (.inl x1), some (.inl x2), z3, z4, z5], [.inl 5, .inl 16, .inr (some a0)], M)) sm_a158_107 rfl rfl (st_iconst (by decide)) ?_
  refine ru_go (t := (109, [some (.inr (some a0)), some (.inl x1), some (.inl x2), z3, z4, z5], [.inl 5, .inl 5, .inl 16, .inr (some a0)], M)) sm_a158_108 rfl rfl (st_iconst (by decide)) ?_
  obtain ⟨h_1, h⟩ := h
  exact ru_call (p := 112) sm_a158_109 rfl (sc_virt (Or.inl rfl) rfl rfl h_1 (Nat.le_of_ble_eq_true rfl)) rfl h
theorem bb_158_112 {d : Nat} {M : sm_M} {Q : Option sm_V → sm_M → Prop} {a0 : Nat} {x1 : Int32} {x2 : Int32} {z3 : Option sm_V} {z4 : Option sm_V} {z5 : Option sm_V}
    (h : sm_Run (d + 1) 158 171 [some (.inr (some a0)), some (.inl x1), some (.inl x2), z3, z4, z5] [] M Q) :
    sm_Run (d + 1) 158 112 [some (.inr (some a0)), some (.inl x1), some (.inl x2), z3, z4, z5] [] M Q := by
  refine ru_go (t := (171, [some (.inr (some a0)), some (.inl x1), some (.inl x2), z3, z4, z5], [], M)) sm_a158_112 rfl rfl (st_goto (pc := 112) (by decide)) ?_
  exact h
theorem bb_158_128 {d : Nat} {M : sm_M} {Q : Option sm_V → sm_M → Prop} {a0 : Nat} {x1 : Int32} {x2 : Int32} {x3 : Int32} {z4 : Option sm_V} {z5 : Option sm_V}
    (h : sm_K M a0 = 39 ∧ ∃ b_2, sm_R M a0 41 = some b_2 ∧ sm_iA M b_2 ∧ sm_in_ M b_2 x1 ∧ (((sm_I M b_2 (x1).toNatClampNeg) ≤ x3 → sm_Run d 157 0 (sm_ent 157 [.inr (some a0), .inl 16, .inl 16, .inl 32773]) [] M (fun v M1 => sm_Run (d + 1) 158 171 [some (.inr (some a0)), some (.inl x1), some (.inl x2), some (.inl x3), z4, z5] (v.toList ++ []) M1 Q)) ∧ (¬ ((sm_I M b_2 (x1).toNatClampNeg) ≤ x3) → ∃ b_7, sm_R M a0 42 = some b_7 ∧ sm_iA M b_7 ∧ sm_in_ M b_7 ((100 * x1) + x3) ∧ sm_Run d 156 0 (sm_ent 156 [.inr (some a0), .inl (sm_I M b_7 ((100 * x1) + x3).toNatClampNeg), .inl 8]) [] M (fun v M1 => sm_Run (d + 1) 158 155 [some (.inr (some a0)), some (.inl x1), some (.inl x2), some (.inl x3), z4, z5] (v.toList ++ []) M1 Q)))) :
    sm_Run (d + 1) 158 128 [some (.inr (some a0)), some (.inl x1), some (.inl x2), some (.inl x3), z4, z5] [] M Q := by
  refine ru_go (t := (129, [some (.inr (some a0)), some (.inl x1), some (.inl x2), some (.inl x3), z4, z5], [.inl x3], M)) sm_a158_128 rfl rfl rfl ?_
  refine ru_go (t := (130, [some (.inr (some a0)), some (.inl x1), some (.inl x2), some (.inl x3), z4, z5], [.inr (some a0), .inl x3], M)) sm_a158_129 rfl rfl rfl ?_
  obtain ⟨h_1, h⟩ := h
  refine ru_go (t := (133, [some (.inr (some a0)), some (.inl x1), some (.inl x2), some (.inl x3), z4, z5], [.inr (sm_R M a0 41), .inl x3], M)) sm_a158_130 rfl rfl (st_getR h_1 rfl rfl) ?_
  refine ru_go (t := (134, [some (.inr (some a0)), some (.inl x1), some (.inl x2), some (.inl x3), z4, z5], [.inl x1, .inr (sm_R M a0 41), .inl x3], M)) sm_a158_133 rfl rfl rfl ?_
  obtain ⟨b_2, hb_3, h⟩ := h
  rw [hb_3]
  obtain ⟨h_4, h⟩ := h
  obtain ⟨h_5, h⟩ := h
  refine ru_go (t := (135, [some (.inr (some a0)), some (.inl x1), some (.inl x2), some (.inl x3), z4, z5], [.inl (sm_I M b_2 (x1).toNatClampNeg), .inl x3], M)) sm_a158_134 rfl rfl (st_iald h_4 h_5) ?_
  refine ru_icmp (pc := 135) (p := 161) (p2 := 138) sm_a158_135 (by decide) rfl ⟨fun hc_6 => ?_, fun hc_6 => ?_⟩
  · have h := h.1 hc_6
    refine ru_go (t := (162, [some (.inr (some a0)), some (.inl x1), some (.inl x2), some (.inl x3), z4, z5], [.inr (some a0)], M)) sm_a158_161 rfl rfl rfl ?_
    refine ru_go (t := (164, [some (.inr (some a0)), some (.inl x1), some (.inl x2), some (.inl x3), z4, z5], [.inl 16, .inr (some a0)], M)) sm_a158_162 rfl rfl (st_bipush (by decide)) ?_
    refine ru_go (t := (166, [some (.inr (some a0)), some (.inl x1), some (.inl x2), some (.inl x3), z4, z5], [.inl 16, .inl 16, .inr (some a0)], M)) sm_a158_164 rfl rfl (st_bipush (by decide)) ?_
    refine ru_go (t := (168, [some (.inr (some a0)), some (.inl x1), some (.inl x2), some (.inl x3), z4, z5], [.inl 32773, .inl 16, .inl 16, .inr (some a0)], M)) sm_a158_166 rfl rfl (st_ldc (by decide)) ?_
    exact ru_call (p := 171) sm_a158_168 rfl (sc_virt (Or.inl rfl) rfl rfl h_1 (Nat.le_of_ble_eq_true rfl)) rfl h
  · have h := h.2 hc_6
    refine ru_go (t := (139, [some (.inr (some a0)), some (.inl x1), some (.inl x2), some (.inl x3), z4, z5], [.inr (some a0)], M)) sm_a158_138 rfl rfl rfl ?_
    refine ru_go (t := (140, [some (.inr (some a0)), some (.inl x1), some (.inl x2), some (.inl x3), z4, z5], [.inr (some a0), .inr (some a0)], M)) sm_a158_139 rfl rfl rfl ?_
    refine ru_go (t := (143, [some (.inr (some a0)), some (.inl x1), some (.inl x2), some (.inl x3), z4, z5], [.inr (sm_R M a0 42), .inr (some a0)], M)) sm_a158_140 rfl rfl (st_getR h_1 rfl rfl) ?_
    refine ru_go (t := (145, [some (.inr (some a0)), some (.inl x1), some (.inl x2), some (.inl x3), z4, z5], [.inl 100, .inr (sm_R M a0 42), .inr (some a0)], M)) sm_a158_143 rfl rfl (st_bipush (by decide)) ?_
    refine ru_go (t := (146, [some (.inr (some a0)), some (.inl x1), some (.inl x2), some (.inl x3), z4, z5], [.inl x1, .inl 100, .inr (sm_R M a0 42), .inr (some a0)], M)) sm_a158_145 rfl rfl rfl ?_
    refine ru_go (t := (147, [some (.inr (some a0)), some (.inl x1), some (.inl x2), some (.inl x3), z4, z5], [.inl (100 * x1), .inr (sm_R M a0 42), .inr (some a0)], M)) sm_a158_146 rfl rfl rfl ?_
    refine ru_go (t := (148, [some (.inr (some a0)), some (.inl x1), some (.inl x2), some (.inl x3), z4, z5], [.inl x3, .inl (100 * x1), .inr (sm_R M a0 42), .inr (some a0)], M)) sm_a158_147 rfl rfl rfl ?_
    refine ru_go (t := (149, [some (.inr (some a0)), some (.inl x1), some (.inl x2), some (.inl x3), z4, z5], [.inl ((100 * x1) + x3), .inr (sm_R M a0 42), .inr (some a0)], M)) sm_a158_148 rfl rfl rfl ?_
    obtain ⟨b_7, hb_8, h⟩ := h
    rw [hb_8]
    obtain ⟨h_9, h⟩ := h
    obtain ⟨h_10, h⟩ := h
    refine ru_go (t := (150, [some (.inr (some a0)), some (.inl x1), some (.inl x2), some (.inl x3), z4, z5], [.inl (sm_I M b_7 ((100 * x1) + x3).toNatClampNeg), .inr (some a0)], M)) sm_a158_149 rfl rfl (st_iald h_9 h_10) ?_
    refine ru_go (t := (152, [some (.inr (some a0)), some (.inl x1), some (.inl x2), some (.inl x3), z4, z5], [.inl 8, .inl (sm_I M b_7 ((100 * x1) + x3).toNatClampNeg), .inr (some a0)], M)) sm_a158_150 rfl rfl (st_bipush (by decide)) ?_
    exact ru_call (p := 155) sm_a158_152 rfl (sc_virt (Or.inl rfl) rfl rfl h_1 (Nat.le_of_ble_eq_true rfl)) rfl h
theorem bb_158_155 {d : Nat} {M : sm_M} {Q : Option sm_V → sm_M → Prop} {a0 : Nat} {x1 : Int32} {x2 : Int32} {x3 : Int32} {z4 : Option sm_V} {z5 : Option sm_V}
    (h : sm_Run (d + 1) 158 128 [some (.inr (some a0)), some (.inl x1), some (.inl x2), some (.inl (x3 + 1)), z4, z5] [] M Q) :
    sm_Run (d + 1) 158 155 [some (.inr (some a0)), some (.inl x1), some (.inl x2), some (.inl x3), z4, z5] [] M Q := by
  refine ru_go (t := (158, [some (.inr (some a0)), some (.inl x1), some (.inl x2), some (.inl (x3 + 1)), z4, z5], [], M)) sm_a158_155 rfl rfl (st_iinc rfl (by decide)) ?_
  refine ru_go (t := (128, [some (.inr (some a0)), some (.inl x1), some (.inl x2), some (.inl (x3 + 1)), z4, z5], [], M)) sm_a158_158 rfl rfl (st_goto (pc := 158) (by decide)) ?_
  exact h
theorem bb_158_171 {d : Nat} {M : sm_M} {Q : Option sm_V → sm_M → Prop} {a0 : Nat} {x1 : Int32} {x2 : Int32} {z3 : Option sm_V} {z4 : Option sm_V} {z5 : Option sm_V}
    (h : sm_K M a0 = 39 ∧ sm_Run (d + 1) 158 184 [some (.inr (some a0)), some (.inl x1), some (.inl x2), some (.inl 1), some (.inl 0), some (.inl 0)] [] (sm_putI M a0 46 0) Q) :
    sm_Run (d + 1) 158 171 [some (.inr (some a0)), some (.inl x1), some (.inl x2), z3, z4, z5] [] M Q := by
  refine ru_go (t := (172, [some (.inr (some a0)), some (.inl x1), some (.inl x2), z3, z4, z5], [.inr (some a0)], M)) sm_a158_171 rfl rfl rfl ?_
  refine ru_go (t := (173, [some (.inr (some a0)), some (.inl x1), some (.inl x2), z3, z4, z5], [.inl 0, .inr (some a0)], M)) sm_a158_172 rfl rfl (st_iconst (by decide)) ?_
  obtain ⟨h_1, h⟩ := h
  refine ru_go (t := (176, [some (.inr (some a0)), some (.inl x1), some (.inl x2), z3, z4, z5], [], sm_putI M a0 46 0)) sm_a158_173 rfl rfl (st_putI h_1 rfl) ?_
  refine ru_go (t := (177, [some (.inr (some a0)), some (.inl x1), some (.inl x2), z3, z4, z5], [.inl 1], sm_putI M a0 46 0)) sm_a158_176 rfl rfl (st_iconst (by decide)) ?_
  refine ru_go (t := (178, [some (.inr (some a0)), some (.inl x1), some (.inl x2), some (.inl 1), z4, z5], [], sm_putI M a0 46 0)) sm_a158_177 rfl rfl rfl ?_
  refine ru_go (t := (179, [some (.inr (some a0)), some (.inl x1), some (.inl x2), some (.inl 1), z4, z5], [.inl 0], sm_putI M a0 46 0)) sm_a158_178 rfl rfl (st_iconst (by decide)) ?_
  refine ru_go (t := (181, [some (.inr (some a0)), some (.inl x1), some (.inl x2), some (.inl 1), some (.inl 0), z5], [], sm_putI M a0 46 0)) sm_a158_179 rfl rfl rfl ?_
  refine ru_go (t := (182, [some (.inr (some a0)), some (.inl x1), some (.inl x2), some (.inl 1), some (.inl 0), z5], [.inl 0], sm_putI M a0 46 0)) sm_a158_181 rfl rfl (st_iconst (by decide)) ?_
  refine ru_go (t := (184, [some (.inr (some a0)), some (.inl x1), some (.inl x2), some (.inl 1), some (.inl 0), some (.inl 0)], [], sm_putI M a0 46 0)) sm_a158_182 rfl rfl rfl ?_
  exact h
theorem bb_158_184 {d : Nat} {M : sm_M} {Q : Option sm_V → sm_M → Prop} {a0 : Nat} {x1 : Int32} {x2 : Int32} {x3 : Int32} {x4 : Int32} {x5 : Int32}
    (h : sm_K M a0 = 39 ∧ (((sm_I M a0 48) ≤ x5 → ∃ b_3, sm_R M a0 47 = some b_3 ∧ sm_wA 1 M b_3 ∧ sm_in_ M b_3 (sm_I M a0 46) ∧ ∃ b_7, sm_R (sm_putI M b_3 (sm_I M a0 46).toNatClampNeg 2) a0 47 = some b_7 ∧ sm_wA 1 M b_7 ∧ sm_in_ M b_7 ((sm_I (sm_putI M b_3 (sm_I M a0 46).toNatClampNeg 2) a0 46) + 1) ∧ ∃ b_11, sm_R (sm_putI (sm_putI M b_3 (sm_I M a0 46).toNatClampNeg 2) b_7 ((sm_I (sm_putI M b_3 (sm_I M a0 46).toNatClampNeg 2) a0 46) + 1).toNatClampNeg 2) a0 47 = some b_11 ∧ sm_wA 1 M b_11 ∧ sm_in_ M b_11 ((sm_I (sm_putI (sm_putI M b_3 (sm_I M a0 46).toNatClampNeg 2) b_7 ((sm_I (sm_putI M b_3 (sm_I M a0 46).toNatClampNeg 2) a0 46) + 1).toNatClampNeg 2) a0 46) + 2) ∧ sm_Run (d + 1) 158 335 [some (.inr (some a0)), some (.inl x1), some (.inl x2), some (.inl x3), some (.inl x4), some (.inl x5)] [] (sm_putI (sm_putI (sm_putI (sm_putI M b_3 (sm_I M a0 46).toNatClampNeg 2) b_7 ((sm_I (sm_putI M b_3 (sm_I M a0 46).toNatClampNeg 2) a0 46) + 1).toNatClampNeg 2) b_11 ((sm_I (sm_putI (sm_putI M b_3 (sm_I M a0 46).toNatClampNeg 2) b_7 ((sm_I (sm_putI M b_3 (sm_I M a0 46).toNatClampNeg 2) a0 46) + 1).toNatClampNeg 2) a0 46) + 2).toNatClampNeg 1) a0 46 ((sm_I (sm_putI (sm_putI (sm_putI M b_3 (sm_I M a0 46).toNatClampNeg 2) b_7 ((sm_I (sm_putI M b_3 (sm_I M a0 46).toNatClampNeg 2) a0 46) + 1).toNatClampNeg 2) b_11 ((sm_I (sm_putI (sm_putI M b_3 (sm_I M a0 46).toNatClampNeg 2) b_7 ((sm_I (sm_putI M b_3 (sm_I M a0 46).toNatClampNeg 2) a0 46) + 1).toNatClampNeg 2) a0 46) + 2).toNatClampNeg 1) a0 46) + 3)) Q) ∧ (¬ ((sm_I M a0 48) ≤ x5) → ∃ b_15, sm_R M a0 49 = some b_15 ∧ sm_iA M b_15 ∧ sm_in_ M b_15 x5 ∧ ((¬ (sm_I M b_15 (x5).toNatClampNeg) = 0 → ∃ b_20, sm_R M a0 47 = some b_20 ∧ sm_wA 1 M b_20 ∧ sm_in_ M b_20 (sm_I M a0 46) ∧ ∃ b_24, sm_R (sm_putI (sm_putI M b_20 (sm_I M a0 46).toNatClampNeg x3) a0 46 ((sm_I (sm_putI M b_20 (sm_I M a0 46).toNatClampNeg x3) a0 46) + 1)) a0 49 = some b_24 ∧ sm_iA M b_24 ∧ sm_in_ M b_24 x5 ∧ ((¬ (sm_I (sm_putI (sm_putI M b_20 (sm_I M a0 46).toNatClampNeg x3) a0 46 ((sm_I (sm_putI M b_20 (sm_I M a0 46).toNatClampNeg x3) a0 46) + 1)) b_24 (x5).toNatClampNeg) = 0 → ((¬ (x4 + 1) = 6 → sm_Run (d + 1) 158 184 [some (.inr (some a0)), some (.inl x1), some (.inl x2), some (.inl x3), some (.inl (x4 + 1)), some (.inl (x5 + 1))] [] (sm_putI (sm_putI M b_20 (sm_I M a0 46).toNatClampNeg x3) a0 46 ((sm_I (sm_putI M b_20 (sm_I M a0 46).toNatClampNeg x3) a0 46) + 1)) Q) ∧ (¬ (¬ (x4 + 1) = 6) → ∃ b_30, sm_R (sm_putI (sm_putI M b_20 (sm_I M a0 46).toNatClampNeg x3) a0 46 ((sm_I (sm_putI M b_20 (sm_I M a0 46).toNatClampNeg x3) a0 46) + 1)) a0 47 = some b_30 ∧ sm_wA 1 M b_30 ∧ sm_in_ M b_30 (sm_I (sm_putI (sm_putI M b_20 (sm_I M a0 46).toNatClampNeg x3) a0 46 ((sm_I (sm_putI M b_20 (sm_I M a0 46).toNatClampNeg x3) a0 46) + 1)) a0 46) ∧ sm_Run (d + 1) 158 282 [some (.inr (some a0)), some (.inl x1), some (.inl x2), some (.inl (1 - x3)), some (.inl (x4 + 1)), some (.inl x5)] [] (sm_putI (sm_putI (sm_putI (sm_putI M b_20 (sm_I M a0 46).toNatClampNeg x3) a0 46 ((sm_I (sm_putI M b_20 (sm_I M a0 46).toNatClampNeg x3) a0 46) + 1)) b_30 (sm_I (sm_putI (sm_putI M b_20 (sm_I M a0 46).toNatClampNeg x3) a0 46 ((sm_I (sm_putI M b_20 (sm_I M a0 46).toNatClampNeg x3) a0 46) + 1)) a0 46).toNatClampNeg (1 - x3)) a0 46 ((sm_I (sm_putI (sm_putI (sm_putI M b_20 (sm_I M a0 46).toNatClampNeg x3) a0 46 ((sm_I (sm_putI M b_20 (sm_I M a0 46).toNatClampNeg x3) a0 46) + 1)) b_30 (sm_I (sm_putI (sm_putI M b_20 (sm_I M a0 46).toNatClampNeg x3) a0 46 ((sm_I (sm_putI M b_20 (sm_I M a0 46).toNatClampNeg x3) a0 46) + 1)) a0 46).toNatClampNeg (1 - x3)) a0 46) + 1)) Q))) ∧ (¬ (¬ (sm_I (sm_putI (sm_putI M b_20 (sm_I M a0 46).toNatClampNeg x3) a0 46 ((sm_I (sm_putI M b_20 (sm_I M a0 46).toNatClampNeg x3) a0 46) + 1)) b_24 (x5).toNatClampNeg) = 0) → sm_Run (d + 1) 158 184 [some (.inr (some a0)), some (.inl x1), some (.inl x2), some (.inl x3), some (.inl 0), some (.inl (x5 + 1))] [] (sm_putI (sm_putI M b_20 (sm_I M a0 46).toNatClampNeg x3) a0 46 ((sm_I (sm_putI M b_20 (sm_I M a0 46).toNatClampNeg x3) a0 46) + 1)) Q))) ∧ (¬ (¬ (sm_I M b_15 (x5).toNatClampNeg) = 0) → ∃ b_34, sm_R M a0 47 = some b_34 ∧ sm_wA 1 M b_34 ∧ sm_in_ M b_34 (sm_I M a0 46) ∧ ∃ b_38, sm_R (sm_putI (sm_putI M b_34 (sm_I M a0 46).toNatClampNeg (1 - x3)) a0 46 ((sm_I (sm_putI M b_34 (sm_I M a0 46).toNatClampNeg (1 - x3)) a0 46) + 1)) a0 49 = some b_38 ∧ sm_iA M b_38 ∧ sm_in_ M b_38 x5 ∧ ((¬ (sm_I (sm_putI (sm_putI M b_34 (sm_I M a0 46).toNatClampNeg (1 - x3)) a0 46 ((sm_I (sm_putI M b_34 (sm_I M a0 46).toNatClampNeg (1 - x3)) a0 46) + 1)) b_38 (x5).toNatClampNeg) = 0 → ((¬ (x4 + 1) = 6 → sm_Run (d + 1) 158 184 [some (.inr (some a0)), some (.inl x1), some (.inl x2), some (.inl (1 - x3)), some (.inl (x4 + 1)), some (.inl (x5 + 1))] [] (sm_putI (sm_putI M b_34 (sm_I M a0 46).toNatClampNeg (1 - x3)) a0 46 ((sm_I (sm_putI M b_34 (sm_I M a0 46).toNatClampNeg (1 - x3)) a0 46) + 1)) Q) ∧ (¬ (¬ (x4 + 1) = 6) → ∃ b_44, sm_R (sm_putI (sm_putI M b_34 (sm_I M a0 46).toNatClampNeg (1 - x3)) a0 46 ((sm_I (sm_putI M b_34 (sm_I M a0 46).toNatClampNeg (1 - x3)) a0 46) + 1)) a0 47 = some b_44 ∧ sm_wA 1 M b_44 ∧ sm_in_ M b_44 (sm_I (sm_putI (sm_putI M b_34 (sm_I M a0 46).toNatClampNeg (1 - x3)) a0 46 ((sm_I (sm_putI M b_34 (sm_I M a0 46).toNatClampNeg (1 - x3)) a0 46) + 1)) a0 46) ∧ sm_Run (d + 1) 158 282 [some (.inr (some a0)), some (.inl x1), some (.inl x2), some (.inl (1 - (1 - x3))), some (.inl (x4 + 1)), some (.inl x5)] [] (sm_putI (sm_putI (sm_putI (sm_putI M b_34 (sm_I M a0 46).toNatClampNeg (1 - x3)) a0 46 ((sm_I (sm_putI M b_34 (sm_I M a0 46).toNatClampNeg (1 - x3)) a0 46) + 1)) b_44 (sm_I (sm_putI (sm_putI M b_34 (sm_I M a0 46).toNatClampNeg (1 - x3)) a0 46 ((sm_I (sm_putI M b_34 (sm_I M a0 46).toNatClampNeg (1 - x3)) a0 46) + 1)) a0 46).toNatClampNeg (1 - (1 - x3))) a0 46 ((sm_I (sm_putI (sm_putI (sm_putI M b_34 (sm_I M a0 46).toNatClampNeg (1 - x3)) a0 46 ((sm_I (sm_putI M b_34 (sm_I M a0 46).toNatClampNeg (1 - x3)) a0 46) + 1)) b_44 (sm_I (sm_putI (sm_putI M b_34 (sm_I M a0 46).toNatClampNeg (1 - x3)) a0 46 ((sm_I (sm_putI M b_34 (sm_I M a0 46).toNatClampNeg (1 - x3)) a0 46) + 1)) a0 46).toNatClampNeg (1 - (1 - x3))) a0 46) + 1)) Q))) ∧ (¬ (¬ (sm_I (sm_putI (sm_putI M b_34 (sm_I M a0 46).toNatClampNeg (1 - x3)) a0 46 ((sm_I (sm_putI M b_34 (sm_I M a0 46).toNatClampNeg (1 - x3)) a0 46) + 1)) b_38 (x5).toNatClampNeg) = 0) → sm_Run (d + 1) 158 184 [some (.inr (some a0)), some (.inl x1), some (.inl x2), some (.inl (1 - x3)), some (.inl 0), some (.inl (x5 + 1))] [] (sm_putI (sm_putI M b_34 (sm_I M a0 46).toNatClampNeg (1 - x3)) a0 46 ((sm_I (sm_putI M b_34 (sm_I M a0 46).toNatClampNeg (1 - x3)) a0 46) + 1)) Q))))))) :
    sm_Run (d + 1) 158 184 [some (.inr (some a0)), some (.inl x1), some (.inl x2), some (.inl x3), some (.inl x4), some (.inl x5)] [] M Q := by
  refine ru_go (t := (186, [some (.inr (some a0)), some (.inl x1), some (.inl x2), some (.inl x3), some (.inl x4), some (.inl x5)], [.inl x5], M)) sm_a158_184 rfl rfl rfl ?_
  refine ru_go (t := (187, [some (.inr (some a0)), some (.inl x1), some (.inl x2), some (.inl x3), some (.inl x4), some (.inl x5)], [.inr (some a0), .inl x5], M)) sm_a158_186 rfl rfl rfl ?_
  obtain ⟨h_1, h⟩ := h
  refine ru_go (t := (190, [some (.inr (some a0)), some (.inl x1), some (.inl x2), some (.inl x3), some (.inl x4), some (.inl x5)], [.inl (sm_I M a0 48), .inl x5], M)) sm_a158_187 rfl rfl (st_getI h_1 rfl) ?_
  refine ru_icmp (pc := 190) (p := 291) (p2 := 193) sm_a158_190 (by decide) rfl ⟨fun hc_2 => ?_, fun hc_2 => ?_⟩
  · have h := h.1 hc_2
    refine ru_go (t := (292, [some (.inr (some a0)), some (.inl x1), some (.inl x2), some (.inl x3), some (.inl x4), some (.inl x5)], [.inr (some a0)], M)) sm_a158_291 rfl rfl rfl ?_
    refine ru_go (t := (295, [some (.inr (some a0)), some (.inl x1), some (.inl x2), some (.inl x3), some (.inl x4), some (.inl x5)], [.inr (sm_R M a0 47)], M)) sm_a158_292 rfl rfl (st_getR h_1 rfl rfl) ?_
    refine ru_go (t := (296, [some (.inr (some a0)), some (.inl x1), some (.inl x2), some (.inl x3), some (.inl x4), some (.inl x5)], [.inr (some a0), .inr (sm_R M a0 47)], M)) sm_a158_295 rfl rfl rfl ?_
    refine ru_go (t := (299, [some (.inr (some a0)), some (.inl x1), some (.inl x2), some (.inl x3), some (.inl x4), some (.inl x5)], [.inl (sm_I M a0 46), .inr (sm_R M a0 47)], M)) sm_a158_296 rfl rfl (st_getI h_1 rfl) ?_
    refine ru_go (t := (300, [some (.inr (some a0)), some (.inl x1), some (.inl x2), some (.inl x3), some (.inl x4), some (.inl x5)], [.inl 2, .inl (sm_I M a0 46), .inr (sm_R M a0 47)], M)) sm_a158_299 rfl rfl (st_iconst (by decide)) ?_
    obtain ⟨b_3, hb_4, h⟩ := h
    rw [hb_4]
    obtain ⟨h_5, h⟩ := h
    obtain ⟨h_6, h⟩ := h
    refine ru_go (t := (301, [some (.inr (some a0)), some (.inl x1), some (.inl x2), some (.inl x3), some (.inl x4), some (.inl x5)], [], sm_putI M b_3 (sm_I M a0 46).toNatClampNeg 2)) sm_a158_300 rfl rfl (st_iast h_5 h_6) ?_
    refine ru_go (t := (302, [some (.inr (some a0)), some (.inl x1), some (.inl x2), some (.inl x3), some (.inl x4), some (.inl x5)], [.inr (some a0)], sm_putI M b_3 (sm_I M a0 46).toNatClampNeg 2)) sm_a158_301 rfl rfl rfl ?_
    refine ru_go (t := (305, [some (.inr (some a0)), some (.inl x1), some (.inl x2), some (.inl x3), some (.inl x4), some (.inl x5)], [.inr (sm_R (sm_putI M b_3 (sm_I M a0 46).toNatClampNeg 2) a0 47)], sm_putI M b_3 (sm_I M a0 46).toNatClampNeg 2)) sm_a158_302 rfl rfl (st_getR h_1 rfl rfl) ?_
    refine ru_go (t := (306, [some (.inr (some a0)), some (.inl x1), some (.inl x2), some (.inl x3), some (.inl x4), some (.inl x5)], [.inr (some a0), .inr (sm_R (sm_putI M b_3 (sm_I M a0 46).toNatClampNeg 2) a0 47)], sm_putI M b_3 (sm_I M a0 46).toNatClampNeg 2)) sm_a158_305 rfl rfl rfl ?_
    refine ru_go (t := (309, [some (.inr (some a0)), some (.inl x1), some (.inl x2), some (.inl x3), some (.inl x4), some (.inl x5)], [.inl (sm_I (sm_putI M b_3 (sm_I M a0 46).toNatClampNeg 2) a0 46), .inr (sm_R (sm_putI M b_3 (sm_I M a0 46).toNatClampNeg 2) a0 47)], sm_putI M b_3 (sm_I M a0 46).toNatClampNeg 2)) sm_a158_306 rfl rfl (st_getI h_1 rfl) ?_
    refine ru_go (t := (310, [some (.inr (some a0)), some (.inl x1), some (.inl x2), some (.inl x3), some (.inl x4), some (.inl x5)], [.inl 1, .inl (sm_I (sm_putI M b_3 (sm_I M a0 46).toNatClampNeg 2) a0 46), .inr (sm_R (sm_putI M b_3 (sm_I M a0 46).toNatClampNeg 2) a0 47)], sm_putI M b_3 (sm_I M a0 46).toNatClampNeg 2)) sm_a158_309 rfl rfl (st_iconst (by decide)) ?_
    refine ru_go (t := (311, [some (.inr (some a0)), some (.inl x1), some (.inl x2), some (.inl x3), some (.inl x4), some (.inl x5)], [.inl ((sm_I (sm_putI M b_3 (sm_I M a0 46).toNatClampNeg 2) a0 46) + 1), .inr (sm_R (sm_putI M b_3 (sm_I M a0 46).toNatClampNeg 2) a0 47)], sm_putI M b_3 (sm_I M a0 46).toNatClampNeg 2)) sm_a158_310 rfl rfl rfl ?_
    refine ru_go (t := (312, [some (.inr (some a0)), some (.inl x1), some (.inl x2), some (.inl x3), some (.inl x4), some (.inl x5)], [.inl 2, .inl ((sm_I (sm_putI M b_3 (sm_I M a0 46).toNatClampNeg 2) a0 46) + 1), .inr (sm_R (sm_putI M b_3 (sm_I M a0 46).toNatClampNeg 2) a0 47)], sm_putI M b_3 (sm_I M a0 46).toNatClampNeg 2)) sm_a158_311 rfl rfl (st_iconst (by decide)) ?_
    obtain ⟨b_7, hb_8, h⟩ := h
    rw [hb_8]
    obtain ⟨h_9, h⟩ := h
    obtain ⟨h_10, h⟩ := h
    refine ru_go (t := (313, [some (.inr (some a0)), some (.inl x1), some (.inl x2), some (.inl x3), some (.inl x4), some (.inl x5)], [], sm_putI (sm_putI M b_3 (sm_I M a0 46).toNatClampNeg 2) b_7 ((sm_I (sm_putI M b_3 (sm_I M a0 46).toNatClampNeg 2) a0 46) + 1).toNatClampNeg 2)) sm_a158_312 rfl rfl (st_iast h_9 h_10) ?_
    refine ru_go (t := (314, [some (.inr (some a0)), some (.inl x1), some (.inl x2), some (.inl x3), some (.inl x4), some (.inl x5)], [.inr (some a0)], sm_putI (sm_putI M b_3 (sm_I M a0 46).toNatClampNeg 2) b_7 ((sm_I (sm_putI M b_3 (sm_I M a0 46).toNatClampNeg 2) a0 46) + 1).toNatClampNeg 2)) sm_a158_313 rfl rfl rfl ?_
    refine ru_go (t := (317, [some (.inr (some a0)), some (.inl x1), some (.inl x2), some (.inl x3), some (.inl x4), some (.inl x5)], [.inr (sm_R (sm_putI (sm_putI M b_3 (sm_I M a0 46).toNatClampNeg 2) b_7 ((sm_I (sm_putI M b_3 (sm_I M a0 46).toNatClampNeg 2) a0 46) + 1).toNatClampNeg 2) a0 47)], sm_putI (sm_putI M b_3 (sm_I M a0 46).toNatClampNeg 2) b_7 ((sm_I (sm_putI M b_3 (sm_I M a0 46).toNatClampNeg 2) a0 46) + 1).toNatClampNeg 2)) sm_a158_314 rfl rfl (st_getR h_1 rfl rfl) ?_
    refine ru_go (t := (318, [some (.inr (some a0)), some (.inl x1), some (.inl x2), some (.inl x3), some (.inl x4), some (.inl x5)], [.inr (some a0), .inr (sm_R (sm_putI (sm_putI M b_3 (sm_I M a0 46).toNatClampNeg 2) b_7 ((sm_I (sm_putI M b_3 (sm_I M a0 46).toNatClampNeg 2) a0 46) + 1).toNatClampNeg 2) a0 47)], sm_putI (sm_putI M b_3 (sm_I M a0 46).toNatClampNeg 2) b_7 ((sm_I (sm_putI M b_3 (sm_I M a0 46).toNatClampNeg 2) a0 46) + 1).toNatClampNeg 2)) sm_a158_317 rfl rfl rfl ?_
    refine ru_go (t := (321, [some (.inr (some a0)), some (.inl x1), some (.inl x2), some (.inl x3), some (.inl x4), some (.inl x5)], [.inl (sm_I (sm_putI (sm_putI M b_3 (sm_I M a0 46).toNatClampNeg 2) b_7 ((sm_I (sm_putI M b_3 (sm_I M a0 46).toNatClampNeg 2) a0 46) + 1).toNatClampNeg 2) a0 46), .inr (sm_R (sm_putI (sm_putI M b_3 (sm_I M a0 46).toNatClampNeg 2) b_7 ((sm_I (sm_putI M b_3 (sm_I M a0 46).toNatClampNeg 2) a0 46) + 1).toNatClampNeg 2) a0 47)], sm_putI (sm_putI M b_3 (sm_I M a0 46).toNatClampNeg 2) b_7 ((sm_I (sm_putI M b_3 (sm_I M a0 46).toNatClampNeg 2) a0 46) + 1).toNatClampNeg 2)) sm_a158_318 rfl rfl (st_getI h_1 rfl) ?_
    refine ru_go (t := (322, [some (.inr (some a0)), some (.inl x1), some (.inl x2), some (.inl x3), some (.inl x4), some (.inl x5)], [.inl 2, .inl (sm_I (sm_putI (sm_putI M b_3 (sm_I M a0 46).toNatClampNeg 2) b_7 ((sm_I (sm_putI M b_3 (sm_I M a0 46).toNatClampNeg 2) a0 46) + 1).toNatClampNeg 2) a0 46), .inr (sm_R (sm_putI (sm_putI M b_3 (sm_I M a0 46).toNatClampNeg 2) b_7 ((sm_I (sm_putI M b_3 (sm_I M a0 46).toNatClampNeg 2) a0 46) + 1).toNatClampNeg 2) a0 47)], sm_putI (sm_putI M b_3 (sm_I M a0 46).toNatClampNeg 2) b_7 ((sm_I (sm_putI M b_3 (sm_I M a0 46).toNatClampNeg 2) a0 46) + 1).toNatClampNeg 2)) sm_a158_321 rfl rfl (st_iconst (by decide)) ?_
    refine ru_go (t := (323, [some (.inr (some a0)), some (.inl x1), some (.inl x2), some (.inl x3), some (.inl x4), some (.inl x5)], [.inl ((sm_I (sm_putI (sm_putI M b_3 (sm_I M a0 46).toNatClampNeg 2) b_7 ((sm_I (sm_putI M b_3 (sm_I M a0 46).toNatClampNeg 2) a0 46) + 1).toNatClampNeg 2) a0 46) + 2), .inr (sm_R (sm_putI (sm_putI M b_3 (sm_I M a0 46).toNatClampNeg 2) b_7 ((sm_I (sm_putI M b_3 (sm_I M a0 46).toNatClampNeg 2) a0 46) + 1).toNatClampNeg 2) a0 47)], sm_putI (sm_putI M b_3 (sm_I M a0 46).toNatClampNeg 2) b_7 ((sm_I (sm_putI M b_3 (sm_I M a0 46).toNatClampNeg 2) a0 46) + 1).toNatClampNeg 2)) sm_a158_322 rfl rfl rfl ?_
    refine ru_go (t := (324, [some (.inr (some a0)), some (.inl x1), some (.inl x2), some (.inl x3), some (.inl x4), some (.inl x5)], [.inl 1, .inl ((sm_I (sm_putI (sm_putI M b_3 (sm_I M a0 46).toNatClampNeg 2) b_7 ((sm_I (sm_putI M b_3 (sm_I M a0 46).toNatClampNeg 2) a0 46) + 1).toNatClampNeg 2) a0 46) + 2), .inr (sm_R (sm_putI (sm_putI M b_3 (sm_I M a0 46).toNatClampNeg 2) b_7 ((sm_I (sm_putI M b_3 (sm_I M a0 46).toNatClampNeg 2) a0 46) + 1).toNatClampNeg 2) a0 47)], sm_putI (sm_putI M b_3 (sm_I M a0 46).toNatClampNeg 2) b_7 ((sm_I (sm_putI M b_3 (sm_I M a0 46).toNatClampNeg 2) a0 46) + 1).toNatClampNeg 2)) sm_a158_323 rfl rfl (st_iconst (by decide)) ?_
    obtain ⟨b_11, hb_12, h⟩ := h
    rw [hb_12]
    obtain ⟨h_13, h⟩ := h
    obtain ⟨h_14, h⟩ := h
    refine ru_go (t := (325, [some (.inr (some a0)), some (.inl x1), some (.inl x2), some (.inl x3), some (.inl x4), some (.inl x5)], [], sm_putI (sm_putI (sm_putI M b_3 (sm_I M a0 46).toNatClampNeg 2) b_7 ((sm_I (sm_putI M b_3 (sm_I M a0 46).toNatClampNeg 2) a0 46) + 1).toNatClampNeg 2) b_11 ((sm_I (sm_putI (sm_putI M b_3 (sm_I M a0 46).toNatClampNeg 2) b_7 ((sm_I (sm_putI M b_3 (sm_I M a0 46).toNatClampNeg 2) a0 46) + 1).toNatClampNeg 2) a0 46) + 2).toNatClampNeg 1)) sm_a158_324 rfl rfl (st_iast h_13 h_14) ?_
    refine ru_go (t := (326, [some (.inr (some a0)), some (.inl x1), some (.inl x2), some (.inl x3), some (.inl x4), some (.inl x5)], [.inr (some a0)], sm_putI (sm_putI (sm_putI M b_3 (sm_I M a0 46).toNatClampNeg 2) b_7 ((sm_I (sm_putI M b_3 (sm_I M a0 46).toNatClampNeg 2) a0 46) + 1).toNatClampNeg 2) b_11 ((sm_I (sm_putI (sm_putI M b_3 (sm_I M a0 46).toNatClampNeg 2) b_7 ((sm_I (sm_putI M b_3 (sm_I M a0 46).toNatClampNeg 2) a0 46) + 1).toNatClampNeg 2) a0 46) + 2).toNatClampNeg 1)) sm_a158_325 rfl rfl rfl ?_
    refine ru_go (t := (327, [some (.inr (some a0)), some (.inl x1), some (.inl x2), some (.inl x3), some (.inl x4), some (.inl x5)], [.inr (some a0), .inr (some a0)], sm_putI (sm_putI (sm_putI M b_3 (sm_I M a0 46).toNatClampNeg 2) b_7 ((sm_I (sm_putI M b_3 (sm_I M a0 46).toNatClampNeg 2) a0 46) + 1).toNatClampNeg 2) b_11 ((sm_I (sm_putI (sm_putI M b_3 (sm_I M a0 46).toNatClampNeg 2) b_7 ((sm_I (sm_putI M b_3 (sm_I M a0 46).toNatClampNeg 2) a0 46) + 1).toNatClampNeg 2) a0 46) + 2).toNatClampNeg 1)) sm_a158_326 rfl rfl rfl ?_
    refine ru_go (t := (330, [some (.inr (some a0)), some (.inl x1), some (.inl x2), some (.inl x3), some (.inl x4), some (.inl x5)], [.inl (sm_I (sm_putI (sm_putI (sm_putI M b_3 (sm_I M a0 46).toNatClampNeg 2) b_7 ((sm_I (sm_putI M b_3 (sm_I M a0 46).toNatClampNeg 2) a0 46) + 1).toNatClampNeg 2) b_11 ((sm_I (sm_putI (sm_putI M b_3 (sm_I M a0 46).toNatClampNeg 2) b_7 ((sm_I (sm_putI M b_3 (sm_I M a0 46).toNatClampNeg 2) a0 46) + 1).toNatClampNeg 2) a0 46) + 2).toNatClampNeg 1) a0 46), .inr (some a0)], sm_putI (sm_putI (sm_putI M b_3 (sm_I M a0 46).toNatClampNeg 2) b_7 ((sm_I (sm_putI M b_3 (sm_I M a0 46).toNatClampNeg 2) a0 46) + 1).toNatClampNeg 2) b_11 ((sm_I (sm_putI (sm_putI M b_3 (sm_I M a0 46).toNatClampNeg 2) b_7 ((sm_I (sm_putI M b_3 (sm_I M a0 46).toNatClampNeg 2) a0 46) + 1).toNatClampNeg 2) a0 46) + 2).toNatClampNeg 1)) sm_a158_327 rfl rfl (st_getI h_1 rfl) ?_
    refine ru_go (t := (331, [some (.inr (some a0)), some (.inl x1), some (.inl x2), some (.inl x3), some (.inl x4), some (.inl x5)], [.inl 3, .inl (sm_I (sm_putI (sm_putI (sm_putI M b_3 (sm_I M a0 46).toNatClampNeg 2) b_7 ((sm_I (sm_putI M b_3 (sm_I M a0 46).toNatClampNeg 2) a0 46) + 1).toNatClampNeg 2) b_11 ((sm_I (sm_putI (sm_putI M b_3 (sm_I M a0 46).toNatClampNeg 2) b_7 ((sm_I (sm_putI M b_3 (sm_I M a0 46).toNatClampNeg 2) a0 46) + 1).toNatClampNeg 2) a0 46) + 2).toNatClampNeg 1) a0 46), .inr (some a0)], sm_putI (sm_putI (sm_putI M b_3 (sm_I M a0 46).toNatClampNeg 2) b_7 ((sm_I (sm_putI M b_3 (sm_I M a0 46).toNatClampNeg 2) a0 46) + 1).toNatClampNeg 2) b_11 ((sm_I (sm_putI (sm_putI M b_3 (sm_I M a0 46).toNatClampNeg 2) b_7 ((sm_I (sm_putI M b_3 (sm_I M a0 46).toNatClampNeg 2) a0 46) + 1).toNatClampNeg 2) a0 46) + 2).toNatClampNeg 1)) sm_a158_330 rfl rfl (st_iconst (by decide)) ?_
    refine ru_go (t := (332, [some (.inr (some a0)), some (.inl x1), some (.inl x2), some (.inl x3), some (.inl x4), some (.inl x5)], [.inl ((sm_I (sm_putI (sm_putI (sm_putI M b_3 (sm_I M a0 46).toNatClampNeg 2) b_7 ((sm_I (sm_putI M b_3 (sm_I M a0 46).toNatClampNeg 2) a0 46) + 1).toNatClampNeg 2) b_11 ((sm_I (sm_putI (sm_putI M b_3 (sm_I M a0 46).toNatClampNeg 2) b_7 ((sm_I (sm_putI M b_3 (sm_I M a0 46).toNatClampNeg 2) a0 46) + 1).toNatClampNeg 2) a0 46) + 2).toNatClampNeg 1) a0 46) + 3), .inr (some a0)], sm_putI (sm_putI (sm_putI M b_3 (sm_I M a0 46).toNatClampNeg 2) b_7 ((sm_I (sm_putI M b_3 (sm_I M a0 46).toNatClampNeg 2) a0 46) + 1).toNatClampNeg 2) b_11 ((sm_I (sm_putI (sm_putI M b_3 (sm_I M a0 46).toNatClampNeg 2) b_7 ((sm_I (sm_putI M b_3 (sm_I M a0 46).toNatClampNeg 2) a0 46) + 1).toNatClampNeg 2) a0 46) + 2).toNatClampNeg 1)) sm_a158_331 rfl rfl rfl ?_
    refine ru_go (t := (335, [some (.inr (some a0)), some (.inl x1), some (.inl x2), some (.inl x3), some (.inl x4), some (.inl x5)], [], sm_putI (sm_putI (sm_putI (sm_putI M b_3 (sm_I M a0 46).toNatClampNeg 2) b_7 ((sm_I (sm_putI M b_3 (sm_I M a0 46).toNatClampNeg 2) a0 46) + 1).toNatClampNeg 2) b_11 ((sm_I (sm_putI (sm_putI M b_3 (sm_I M a0 46).toNatClampNeg 2) b_7 ((sm_I (sm_putI M b_3 (sm_I M a0 46).toNatClampNeg 2) a0 46) + 1).toNatClampNeg 2) a0 46) + 2).toNatClampNeg 1) a0 46 ((sm_I (sm_putI (sm_putI (sm_putI M b_3 (sm_I M a0 46).toNatClampNeg 2) b_7 ((sm_I (sm_putI M b_3 (sm_I M a0 46).toNatClampNeg 2) a0 46) + 1).toNatClampNeg 2) b_11 ((sm_I (sm_putI (sm_putI M b_3 (sm_I M a0 46).toNatClampNeg 2) b_7 ((sm_I (sm_putI M b_3 (sm_I M a0 46).toNatClampNeg 2) a0 46) + 1).toNatClampNeg 2) a0 46) + 2).toNatClampNeg 1) a0 46) + 3))) sm_a158_332 rfl rfl (st_putI h_1 rfl) ?_
    exact h
  · have h := h.2 hc_2
    refine ru_go (t := (194, [some (.inr (some a0)), some (.inl x1), some (.inl x2), some (.inl x3), some (.inl x4), some (.inl x5)], [.inr (some a0)], M)) sm_a158_193 rfl rfl rfl ?_
    refine ru_go (t := (197, [some (.inr (some a0)), some (.inl x1), some (.inl x2), some (.inl x3), some (.inl x4), some (.inl x5)], [.inr (sm_R M a0 49)], M)) sm_a158_194 rfl rfl (st_getR h_1 rfl rfl) ?_
    refine ru_go (t := (199, [some (.inr (some a0)), some (.inl x1), some (.inl x2), some (.inl x3), some (.inl x4), some (.inl x5)], [.inl x5, .inr (sm_R M a0 49)], M)) sm_a158_197 rfl rfl rfl ?_
    obtain ⟨b_15, hb_16, h⟩ := h
    rw [hb_16]
    obtain ⟨h_17, h⟩ := h
    obtain ⟨h_18, h⟩ := h
    refine ru_go (t := (200, [some (.inr (some a0)), some (.inl x1), some (.inl x2), some (.inl x3), some (.inl x4), some (.inl x5)], [.inl (sm_I M b_15 (x5).toNatClampNeg)], M)) sm_a158_199 rfl rfl (st_iald h_17 h_18) ?_
    refine ru_if (pc := 200) (p := 209) (p2 := 203) sm_a158_200 (by decide) rfl ⟨fun hc_19 => ?_, fun hc_19 => ?_⟩
    · have h := h.1 hc_19
      refine ru_go (t := (210, [some (.inr (some a0)), some (.inl x1), some (.inl x2), some (.inl x3), some (.inl x4), some (.inl x5)], [.inl x3], M)) sm_a158_209 rfl rfl rfl ?_
      refine ru_go (t := (211, [some (.inr (some a0)), some (.inl x1), some (.inl x2), some (.inl x3), some (.inl x4), some (.inl x5)], [], M)) sm_a158_210 rfl rfl rfl ?_
      refine ru_go (t := (212, [some (.inr (some a0)), some (.inl x1), some (.inl x2), some (.inl x3), some (.inl x4), some (.inl x5)], [.inr (some a0)], M)) sm_a158_211 rfl rfl rfl ?_
      refine ru_go (t := (215, [some (.inr (some a0)), some (.inl x1), some (.inl x2), some (.inl x3), some (.inl x4), some (.inl x5)], [.inr (sm_R M a0 47)], M)) sm_a158_212 rfl rfl (st_getR h_1 rfl rfl) ?_
      refine ru_go (t := (216, [some (.inr (some a0)), some (.inl x1), some (.inl x2), some (.inl x3), some (.inl x4), some (.inl x5)], [.inr (some a0), .inr (sm_R M a0 47)], M)) sm_a158_215 rfl rfl rfl ?_
      refine ru_go (t := (219, [some (.inr (some a0)), some (.inl x1), some (.inl x2), some (.inl x3), some (.inl x4), some (.inl x5)], [.inl (sm_I M a0 46), .inr (sm_R M a0 47)], M)) sm_a158_216 rfl rfl (st_getI h_1 rfl) ?_
      refine ru_go (t := (220, [some (.inr (some a0)), some (.inl x1), some (.inl x2), some (.inl x3), some (.inl x4), some (.inl x5)], [.inl x3, .inl (sm_I M a0 46), .inr (sm_R M a0 47)], M)) sm_a158_219 rfl rfl rfl ?_
      obtain ⟨b_20, hb_21, h⟩ := h
      rw [hb_21]
      obtain ⟨h_22, h⟩ := h
      obtain ⟨h_23, h⟩ := h
      refine ru_go (t := (221, [some (.inr (some a0)), some (.inl x1), some (.inl x2), some (.inl x3), some (.inl x4), some (.inl x5)], [], sm_putI M b_20 (sm_I M a0 46).toNatClampNeg x3)) sm_a158_220 rfl rfl (st_iast h_22 h_23) ?_
      refine ru_go (t := (222, [some (.inr (some a0)), some (.inl x1), some (.inl x2), some (.inl x3), some (.inl x4), some (.inl x5)], [.inr (some a0)], sm_putI M b_20 (sm_I M a0 46).toNatClampNeg x3)) sm_a158_221 rfl rfl rfl ?_
      refine ru_go (t := (223, [some (.inr (some a0)), some (.inl x1), some (.inl x2), some (.inl x3), some (.inl x4), some (.inl x5)], [.inr (some a0), .inr (some a0)], sm_putI M b_20 (sm_I M a0 46).toNatClampNeg x3)) sm_a158_222 rfl rfl rfl ?_
      refine ru_go (t := (226, [some (.inr (some a0)), some (.inl x1), some (.inl x2), some (.inl x3), some (.inl x4), some (.inl x5)], [.inl (sm_I (sm_putI M b_20 (sm_I M a0 46).toNatClampNeg x3) a0 46), .inr (some a0)], sm_putI M b_20 (sm_I M a0 46).toNatClampNeg x3)) sm_a158_223 rfl rfl (st_getI h_1 rfl) ?_
      refine ru_go (t := (227, [some (.inr (some a0)), some (.inl x1), some (.inl x2), some (.inl x3), some (.inl x4), some (.inl x5)], [.inl 1, .inl (sm_I (sm_putI M b_20 (sm_I M a0 46).toNatClampNeg x3) a0 46), .inr (some a0)], sm_putI M b_20 (sm_I M a0 46).toNatClampNeg x3)) sm_a158_226 rfl rfl (st_iconst (by decide)) ?_
      refine ru_go (t := (228, [some (.inr (some a0)), some (.inl x1), some (.inl x2), some (.inl x3), some (.inl x4), some (.inl x5)], [.inl ((sm_I (sm_putI M b_20 (sm_I M a0 46).toNatClampNeg x3) a0 46) + 1), .inr (some a0)], sm_putI M b_20 (sm_I M a0 46).toNatClampNeg x3)) sm_a158_227 rfl rfl rfl ?_
      refine ru_go (t := (231, [some (.inr (some a0)), some (.inl x1), some (.inl x2), some (.inl x3), some (.inl x4), some (.inl x5)], [], sm_putI (sm_putI M b_20 (sm_I M a0 46).toNatClampNeg x3) a0 46 ((sm_I (sm_putI M b_20 (sm_I M a0 46).toNatClampNeg x3) a0 46) + 1))) sm_a158_228 rfl rfl (st_putI h_1 rfl) ?_
      refine ru_go (t := (232, [some (.inr (some a0)), some (.inl x1), some (.inl x2), some (.inl x3), some (.inl x4), some (.inl x5)], [.inr (some a0)], sm_putI (sm_putI M b_20 (sm_I M a0 46).toNatClampNeg x3) a0 46 ((sm_I (sm_putI M b_20 (sm_I M a0 46).toNatClampNeg x3) a0 46) + 1))) sm_a158_231 rfl rfl rfl ?_
      refine ru_go (t := (235, [some (.inr (some a0)), some (.inl x1), some (.inl x2), some (.inl x3), some (.inl x4), some (.inl x5)], [.inr (sm_R (sm_putI (sm_putI M b_20 (sm_I M a0 46).toNatClampNeg x3) a0 46 ((sm_I (sm_putI M b_20 (sm_I M a0 46).toNatClampNeg x3) a0 46) + 1)) a0 49)], sm_putI (sm_putI M b_20 (sm_I M a0 46).toNatClampNeg x3) a0 46 ((sm_I (sm_putI M b_20 (sm_I M a0 46).toNatClampNeg x3) a0 46) + 1))) sm_a158_232 rfl rfl (st_getR h_1 rfl rfl) ?_
      refine ru_go (t := (237, [some (.inr (some a0)), some (.inl x1), some (.inl x2), some (.inl x3), some (.inl x4), some (.inl x5)], [.inl x5, .inr (sm_R (sm_putI (sm_putI M b_20 (sm_I M a0 46).toNatClampNeg x3) a0 46 ((sm_I (sm_putI M b_20 (sm_I M a0 46).toNatClampNeg x3) a0 46) + 1)) a0 49)], sm_putI (sm_putI M b_20 (sm_I M a0 46).toNatClampNeg x3) a0 46 ((sm_I (sm_putI M b_20 (sm_I M a0 46).toNatClampNeg x3) a0 46) + 1))) sm_a158_235 rfl rfl rfl ?_
      obtain ⟨b_24, hb_25, h⟩ := h
      rw [hb_25]
      obtain ⟨h_26, h⟩ := h
      obtain ⟨h_27, h⟩ := h
      refine ru_go (t := (238, [some (.inr (some a0)), some (.inl x1), some (.inl x2), some (.inl x3), some (.inl x4), some (.inl x5)], [.inl (sm_I (sm_putI (sm_putI M b_20 (sm_I M a0 46).toNatClampNeg x3) a0 46 ((sm_I (sm_putI M b_20 (sm_I M a0 46).toNatClampNeg x3) a0 46) + 1)) b_24 (x5).toNatClampNeg)], sm_putI (sm_putI M b_20 (sm_I M a0 46).toNatClampNeg x3) a0 46 ((sm_I (sm_putI M b_20 (sm_I M a0 46).toNatClampNeg x3) a0 46) + 1))) sm_a158_237 rfl rfl (st_iald h_26 h_27) ?_
      refine ru_if (pc := 238) (p := 245) (p2 := 241) sm_a158_238 (by decide) rfl ⟨fun hc_28 => ?_, fun hc_28 => ?_⟩
      · have h := h.1 hc_28
        refine ru_go (t := (247, [some (.inr (some a0)), some (.inl x1), some (.inl x2), some (.inl x3), some (.inl x4), some (.inl x5)], [.inl x4], sm_putI (sm_putI M b_20 (sm_I M a0 46).toNatClampNeg x3) a0 46 ((sm_I (sm_putI M b_20 (sm_I M a0 46).toNatClampNeg x3) a0 46) + 1))) sm_a158_245 rfl rfl rfl ?_
        refine ru_go (t := (248, [some (.inr (some a0)), some (.inl x1), some (.inl x2), some (.inl x3), some (.inl x4), some (.inl x5)], [.inl 1, .inl x4], sm_putI (sm_putI M b_20 (sm_I M a0 46).toNatClampNeg x3) a0 46 ((sm_I (sm_putI M b_20 (sm_I M a0 46).toNatClampNeg x3) a0 46) + 1))) sm_a158_247 rfl rfl (st_iconst (by decide)) ?_
        refine ru_go (t := (249, [some (.inr (some a0)), some (.inl x1), some (.inl x2), some (.inl x3), some (.inl x4), some (.inl x5)], [.inl (x4 + 1)], sm_putI (sm_putI M b_20 (sm_I M a0 46).toNatClampNeg x3) a0 46 ((sm_I (sm_putI M b_20 (sm_I M a0 46).toNatClampNeg x3) a0 46) + 1))) sm_a158_248 rfl rfl rfl ?_
        refine ru_go (t := (251, [some (.inr (some a0)), some (.inl x1), some (.inl x2), some (.inl x3), some (.inl (x4 + 1)), some (.inl x5)], [], sm_putI (sm_putI M b_20 (sm_I M a0 46).toNatClampNeg x3) a0 46 ((sm_I (sm_putI M b_20 (sm_I M a0 46).toNatClampNeg x3) a0 46) + 1))) sm_a158_249 rfl rfl rfl ?_
        refine ru_go (t := (253, [some (.inr (some a0)), some (.inl x1), some (.inl x2), some (.inl x3), some (.inl (x4 + 1)), some (.inl x5)], [.inl (x4 + 1)], sm_putI (sm_putI M b_20 (sm_I M a0 46).toNatClampNeg x3) a0 46 ((sm_I (sm_putI M b_20 (sm_I M a0 46).toNatClampNeg x3) a0 46) + 1))) sm_a158_251 rfl rfl rfl ?_
        refine ru_go (t := (255, [some (.inr (some a0)), some (.inl x1), some (.inl x2), some (.inl x3), some (.inl (x4 + 1)), some (.inl x5)], [.inl 6, .inl (x4 + 1)], sm_putI (sm_putI M b_20 (sm_I M a0 46).toNatClampNeg x3) a0 46 ((sm_I (sm_putI M b_20 (sm_I M a0 46).toNatClampNeg x3) a0 46) + 1))) sm_a158_253 rfl rfl (st_bipush (by decide)) ?_
        refine ru_icmp (pc := 255) (p := 285) (p2 := 258) sm_a158_255 (by decide) rfl ⟨fun hc_29 => ?_, fun hc_29 => ?_⟩
        · have h := h.1 hc_29
          refine ru_go (t := (288, [some (.inr (some a0)), some (.inl x1), some (.inl x2), some (.inl x3), some (.inl (x4 + 1)), some (.inl (x5 + 1))], [], sm_putI (sm_putI M b_20 (sm_I M a0 46).toNatClampNeg x3) a0 46 ((sm_I (sm_putI M b_20 (sm_I M a0 46).toNatClampNeg x3) a0 46) + 1))) sm_a158_285 rfl rfl (st_iinc rfl (by decide)) ?_
          refine ru_go (t := (184, [some (.inr (some a0)), some (.inl x1), some (.inl x2), some (.inl x3), some (.inl (x4 + 1)), some (.inl (x5 + 1))], [], sm_putI (sm_putI M b_20 (sm_I M a0 46).toNatClampNeg x3) a0 46 ((sm_I (sm_putI M b_20 (sm_I M a0 46).toNatClampNeg x3) a0 46) + 1))) sm_a158_288 rfl rfl (st_goto (pc := 288) (by decide)) ?_
          exact h
        · have h := h.2 hc_29
          refine ru_go (t := (259, [some (.inr (some a0)), some (.inl x1), some (.inl x2), some (.inl x3), some (.inl (x4 + 1)), some (.inl x5)], [.inl 1], sm_putI (sm_putI M b_20 (sm_I M a0 46).toNatClampNeg x3) a0 46 ((sm_I (sm_putI M b_20 (sm_I M a0 46).toNatClampNeg x3) a0 46) + 1))) sm_a158_258 rfl rfl (st_iconst (by decide)) ?_
          refine ru_go (t := (260, [some (.inr (some a0)), some (.inl x1), some (.inl x2), some (.inl x3), some (.inl (x4 + 1)), some (.inl x5)], [.inl x3, .inl 1], sm_putI (sm_putI M b_20 (sm_I M a0 46).toNatClampNeg x3) a0 46 ((sm_I (sm_putI M b_20 (sm_I M a0 46).toNatClampNeg x3) a0 46) + 1))) sm_a158_259 rfl rfl rfl ?_
          refine ru_go (t := (261, [some (.inr (some a0)), some (.inl x1), some (.inl x2), some (.inl x3), some (.inl (x4 + 1)), some (.inl x5)], [.inl (1 - x3)], sm_putI (sm_putI M b_20 (sm_I M a0 46).toNatClampNeg x3) a0 46 ((sm_I (sm_putI M b_20 (sm_I M a0 46).toNatClampNeg x3) a0 46) + 1))) sm_a158_260 rfl rfl rfl ?_
          refine ru_go (t := (262, [some (.inr (some a0)), some (.inl x1), some (.inl x2), some (.inl (1 - x3)), some (.inl (x4 + 1)), some (.inl x5)], [], sm_putI (sm_putI M b_20 (sm_I M a0 46).toNatClampNeg x3) a0 46 ((sm_I (sm_putI M b_20 (sm_I M a0 46).toNatClampNeg x3) a0 46) + 1))) sm_a158_261 rfl rfl rfl ?_
          refine ru_go (t := (263, [some (.inr (some a0)), some (.inl x1), some (.inl x2), some (.inl (1 - x3)), some (.inl (x4 + 1)), some (.inl x5)], [.inr (some a0)], sm_putI (sm_putI M b_20 (sm_I M a0 46).toNatClampNeg x3) a0 46 ((sm_I (sm_putI M b_20 (sm_I M a0 46).toNatClampNeg x3) a0 46) + 1))) sm_a158_262 rfl rfl rfl ?_
          refine ru_go (t := (266, [some (.inr (some a0)), some (.inl x1), some (.inl x2), some (.inl (1 - x3)), some (.inl (x4 + 1)), some (.inl x5)], [.inr (sm_R (sm_putI (sm_putI M b_20 (sm_I M a0 46).toNatClampNeg x3) a0 46 ((sm_I (sm_putI M b_20 (sm_I M a0 46).toNatClampNeg x3) a0 46) + 1)) a0 47)], sm_putI (sm_putI M b_20 (sm_I M a0 46).toNatClampNeg x3) a0 46 ((sm_I (sm_putI M b_20 (sm_I M a0 46).toNatClampNeg x3) a0 46) + 1))) sm_a158_263 rfl rfl (st_getR h_1 rfl rfl) ?_
          refine ru_go (t := (267, [some (.inr (some a0)), some (.inl x1), some (.inl x2), some (.inl (1 - x3)), some (.inl (x4 + 1)), some (.inl x5)], [.inr (some a0), .inr (sm_R (sm_putI (sm_putI M b_20 (sm_I M a0 46).toNatClampNeg x3) a0 46 ((sm_I (sm_putI M b_20 (sm_I M a0 46).toNatClampNeg x3) a0 46) + 1)) a0 47)], sm_putI (sm_putI M b_20 (sm_I M a0 46).toNatClampNeg x3) a0 46 ((sm_I (sm_putI M b_20 (sm_I M a0 46).toNatClampNeg x3) a0 46) + 1))) sm_a158_266 rfl rfl rfl ?_
          refine ru_go (t := (270, [some (.inr (some a0)), some (.inl x1), some (.inl x2), some (.inl (1 - x3)), some (.inl (x4 + 1)), some (.inl x5)], [.inl (sm_I (sm_putI (sm_putI M b_20 (sm_I M a0 46).toNatClampNeg x3) a0 46 ((sm_I (sm_putI M b_20 (sm_I M a0 46).toNatClampNeg x3) a0 46) + 1)) a0 46), .inr (sm_R (sm_putI (sm_putI M b_20 (sm_I M a0 46).toNatClampNeg x3) a0 46 ((sm_I (sm_putI M b_20 (sm_I M a0 46).toNatClampNeg x3) a0 46) + 1)) a0 47)], sm_putI (sm_putI M b_20 (sm_I M a0 46).toNatClampNeg x3) a0 46 ((sm_I (sm_putI M b_20 (sm_I M a0 46).toNatClampNeg x3) a0 46) + 1))) sm_a158_267 rfl rfl (st_getI h_1 rfl) ?_
          refine ru_go (t := (271, [some (.inr (some a0)), some (.inl x1), some (.inl x2), some (.inl (1 - x3)), some (.inl (x4 + 1)), some (.inl x5)], [.inl (1 - x3), .inl (sm_I (sm_putI (sm_putI M b_20 (sm_I M a0 46).toNatClampNeg x3) a0 46 ((sm_I (sm_putI M b_20 (sm_I M a0 46).toNatClampNeg x3) a0 46) + 1)) a0 46), .inr (sm_R (sm_putI (sm_putI M b_20 (sm_I M a0 46).toNatClampNeg x3) a0 46 ((sm_I (sm_putI M b_20 (sm_I M a0 46).toNatClampNeg x3) a0 46) + 1)) a0 47)], sm_putI (sm_putI M b_20 (sm_I M a0 46).toNatClampNeg x3) a0 46 ((sm_I (sm_putI M b_20 (sm_I M a0 46).toNatClampNeg x3) a0 46) + 1))) sm_a158_270 rfl rfl rfl ?_
          obtain ⟨b_30, hb_31, h⟩ := h
          rw [hb_31]
          obtain ⟨h_32, h⟩ := h
          obtain ⟨h_33, h⟩ := h
          refine ru_go (t := (272, [some (.inr (some a0)), some (.inl x1), some (.inl x2), some (.inl (1 - x3)), some (.inl (x4 + 1)), some (.inl x5)], [], sm_putI (sm_putI (sm_putI M b_20 (sm_I M a0 46).toNatClampNeg x3) a0 46 ((sm_I (sm_putI M b_20 (sm_I M a0 46).toNatClampNeg x3) a0 46) + 1)) b_30 (sm_I (sm_putI (sm_putI M b_20 (sm_I M a0 46).toNatClampNeg x3) a0 46 ((sm_I (sm_putI M b_20 (sm_I M a0 46).toNatClampNeg x3) a0 46) + 1)) a0 46).toNatClampNeg (1 - x3))) sm_a158_271 rfl rfl (st_iast h_32 h_33) ?_
          refine ru_go (t := (273, [some (.inr (some a0)), some (.inl x1), some (.inl x2), some (.inl (1 - x3)), some (.inl (x4 + 1)), some (.inl x5)], [.inr (some a0)], sm_putI (sm_putI (sm_putI M b_20 (sm_I M a0 46).toNatClampNeg x3) a0 46 ((sm_I (sm_putI M b_20 (sm_I M a0 46).toNatClampNeg x3) a0 46) + 1)) b_30 (sm_I (sm_putI (sm_putI M b_20 (sm_I M a0 46).toNatClampNeg x3) a0 46 ((sm_I (sm_putI M b_20 (sm_I M a0 46).toNatClampNeg x3) a0 46) + 1)) a0 46).toNatClampNeg (1 - x3))) sm_a158_272 rfl rfl rfl ?_
          refine ru_go (t := (274, [some (.inr (some a0)), some (.inl x1), some (.inl x2), some (.inl (1 - x3)), some (.inl (x4 + 1)), some (.inl x5)], [.inr (some a0), .inr (some a0)], sm_putI (sm_putI (sm_putI M b_20 (sm_I M a0 46).toNatClampNeg x3) a0 46 ((sm_I (sm_putI M b_20 (sm_I M a0 46).toNatClampNeg x3) a0 46) + 1)) b_30 (sm_I (sm_putI (sm_putI M b_20 (sm_I M a0 46).toNatClampNeg x3) a0 46 ((sm_I (sm_putI M b_20 (sm_I M a0 46).toNatClampNeg x3) a0 46) + 1)) a0 46).toNatClampNeg (1 - x3))) sm_a158_273 rfl rfl rfl ?_
          refine ru_go (t := (277, [some (.inr (some a0)), some (.inl x1), some (.inl x2), some (.inl (1 - x3)), some (.inl (x4 + 1)), some (.inl x5)], [.inl (sm_I (sm_putI (sm_putI (sm_putI M b_20 (sm_I M a0 46).toNatClampNeg x3) a0 46 ((sm_I (sm_putI M b_20 (sm_I M a0 46).toNatClampNeg x3) a0 46) + 1)) b_30 (sm_I (sm_putI (sm_putI M b_20 (sm_I M a0 46).toNatClampNeg x3) a0 46 ((sm_I (sm_putI M b_20 (sm_I M a0 46).toNatClampNeg x3) a0 46) + 1)) a0 46).toNatClampNeg (1 - x3)) a0 46), .inr (some a0)], sm_putI (sm_putI (sm_putI M b_20 (sm_I M a0 46).toNatClampNeg x3) a0 46 ((sm_I (sm_putI M b_20 (sm_I M a0 46).toNatClampNeg x3) a0 46) + 1)) b_30 (sm_I (sm_putI (sm_putI M b_20 (sm_I M a0 46).toNatClampNeg x3) a0 46 ((sm_I (sm_putI M b_20 (sm_I M a0 46).toNatClampNeg x3) a0 46) + 1)) a0 46).toNatClampNeg (1 - x3))) sm_a158_274 rfl rfl (st_getI h_1 rfl) ?_
          refine ru_go (t := (278, [some (.inr (some a0)), some (.inl x1), some (.inl x2), some (.inl (1 - x3)), some (.inl (x4 + 1)), some (.inl x5)], [.inl 1, .inl (sm_I (sm_putI (sm_putI (sm_putI M b_20 (sm_I M a0 46).toNatClampNeg x3) a0 46 ((sm_I (sm_putI M b_20 (sm_I M a0 46).toNatClampNeg x3) a0 46) + 1)) b_30 (sm_I (sm_putI (sm_putI M b_20 (sm_I M a0 46).toNatClampNeg x3) a0 46 ((sm_I (sm_putI M b_20 (sm_I M a0 46).toNatClampNeg x3) a0 46) + 1)) a0 46).toNatClampNeg (1 - x3)) a0 46), .inr (some a0)], sm_putI (sm_putI (sm_putI M b_20 (sm_I M a0 46).toNatClampNeg x3) a0 46 ((sm_I (sm_putI M b_20 (sm_I M a0 46).toNatClampNeg x3) a0 46) + 1)) b_30 (sm_I (sm_putI (sm_putI M b_20 (sm_I M a0 46).toNatClampNeg x3) a0 46 ((sm_I (sm_putI M b_20 (sm_I M a0 46).toNatClampNeg x3) a0 46) + 1)) a0 46).toNatClampNeg (1 - x3))) sm_a158_277 rfl rfl (st_iconst (by decide)) ?_
          refine ru_go (t := (279, [some (.inr (some a0)), some (.inl x1), some (.inl x2), some (.inl (1 - x3)), some (.inl (x4 + 1)), some (.inl x5)], [.inl ((sm_I (sm_putI (sm_putI (sm_putI M b_20 (sm_I M a0 46).toNatClampNeg x3) a0 46 ((sm_I (sm_putI M b_20 (sm_I M a0 46).toNatClampNeg x3) a0 46) + 1)) b_30 (sm_I (sm_putI (sm_putI M b_20 (sm_I M a0 46).toNatClampNeg x3) a0 46 ((sm_I (sm_putI M b_20 (sm_I M a0 46).toNatClampNeg x3) a0 46) + 1)) a0 46).toNatClampNeg (1 - x3)) a0 46) + 1), .inr (some a0)], sm_putI (sm_putI (sm_putI M b_20 (sm_I M a0 46).toNatClampNeg x3) a0 46 ((sm_I (sm_putI M b_20 (sm_I M a0 46).toNatClampNeg x3) a0 46) + 1)) b_30 (sm_I (sm_putI (sm_putI M b_20 (sm_I M a0 46).toNatClampNeg x3) a0 46 ((sm_I (sm_putI M b_20 (sm_I M a0 46).toNatClampNeg x3) a0 46) + 1)) a0 46).toNatClampNeg (1 - x3))) sm_a158_278 rfl rfl rfl ?_
          refine ru_go (t := (282, [some (.inr (some a0)), some (.inl x1), some (.inl x2), some (.inl (1 - x3)), some (.inl (x4 + 1)), some (.inl x5)], [], sm_putI (sm_putI (sm_putI (sm_putI M b_20 (sm_I M a0 46).toNatClampNeg x3) a0 46 ((sm_I (sm_putI M b_20 (sm_I M a0 46).toNatClampNeg x3) a0 46) + 1)) b_30 (sm_I (sm_putI (sm_putI M b_20 (sm_I M a0 46).toNatClampNeg x3) a0 46 ((sm_I (sm_putI M b_20 (sm_I M a0 46).toNatClampNeg x3) a0 46) + 1)) a0 46).toNatClampNeg (1 - x3)) a0 46 ((sm_I (sm_putI (sm_putI (sm_putI M b_20 (sm_I M a0 46).toNatClampNeg x3) a0 46 ((sm_I (sm_putI M b_20 (sm_I M a0 46).toNatClampNeg x3) a0 46) + 1)) b_30 (sm_I (sm_putI (sm_putI M b_20 (sm_I M a0 46).toNatClampNeg x3) a0 46 ((sm_I (sm_putI M b_20 (sm_I M a0 46).toNatClampNeg x3) a0 46) + 1)) a0 46).toNatClampNeg (1 - x3)) a0 46) + 1))) sm_a158_279 rfl rfl (st_putI h_1 rfl) ?_
          exact h
      · have h := h.2 hc_28
        refine ru_go (t := (242, [some (.inr (some a0)), some (.inl x1), some (.inl x2), some (.inl x3), some (.inl x4), some (.inl x5)], [.inl 0], sm_putI (sm_putI M b_20 (sm_I M a0 46).toNatClampNeg x3) a0 46 ((sm_I (sm_putI M b_20 (sm_I M a0 46).toNatClampNeg x3) a0 46) + 1))) sm_a158_241 rfl rfl (st_iconst (by decide)) ?_
        refine ru_go (t := (249, [some (.inr (some a0)), some (.inl x1), some (.inl x2), some (.inl x3), some (.inl x4), some (.inl x5)], [.inl 0], sm_putI (sm_putI M b_20 (sm_I M a0 46).toNatClampNeg x3) a0 46 ((sm_I (sm_putI M b_20 (sm_I M a0 46).toNatClampNeg x3) a0 46) + 1))) sm_a158_242 rfl rfl (st_goto (pc := 242) (by decide)) ?_
        refine ru_go (t := (251, [some (.inr (some a0)), some (.inl x1), some (.inl x2), some (.inl x3), some (.inl 0), some (.inl x5)], [], sm_putI (sm_putI M b_20 (sm_I M a0 46).toNatClampNeg x3) a0 46 ((sm_I (sm_putI M b_20 (sm_I M a0 46).toNatClampNeg x3) a0 46) + 1))) sm_a158_249 rfl rfl rfl ?_
        refine ru_go (t := (253, [some (.inr (some a0)), some (.inl x1), some (.inl x2), some (.inl x3), some (.inl 0), some (.inl x5)], [.inl 0], sm_putI (sm_putI M b_20 (sm_I M a0 46).toNatClampNeg x3) a0 46 ((sm_I (sm_putI M b_20 (sm_I M a0 46).toNatClampNeg x3) a0 46) + 1))) sm_a158_251 rfl rfl rfl ?_
        refine ru_go (t := (255, [some (.inr (some a0)), some (.inl x1), some (.inl x2), some (.inl x3), some (.inl 0), some (.inl x5)], [.inl 6, .inl 0], sm_putI (sm_putI M b_20 (sm_I M a0 46).toNatClampNeg x3) a0 46 ((sm_I (sm_putI M b_20 (sm_I M a0 46).toNatClampNeg x3) a0 46) + 1))) sm_a158_253 rfl rfl (st_bipush (by decide)) ?_
        refine ru_icmp (pc := 255) (p := 285) (p2 := 258) sm_a158_255 (by decide) rfl ⟨fun _ => ?_, fun hc => absurd (show sm_cP .ne 0 6 from (by show ¬ (0 : Int32) = 6; decide)) hc⟩
        refine ru_go (t := (288, [some (.inr (some a0)), some (.inl x1), some (.inl x2), some (.inl x3), some (.inl 0), some (.inl (x5 + 1))], [], sm_putI (sm_putI M b_20 (sm_I M a0 46).toNatClampNeg x3) a0 46 ((sm_I (sm_putI M b_20 (sm_I M a0 46).toNatClampNeg x3) a0 46) + 1))) sm_a158_285 rfl rfl (st_iinc rfl (by decide)) ?_
        refine ru_go (t := (184, [some (.inr (some a0)), some (.inl x1), some (.inl x2), some (.inl x3), some (.inl 0), some (.inl (x5 + 1))], [], sm_putI (sm_putI M b_20 (sm_I M a0 46).toNatClampNeg x3) a0 46 ((sm_I (sm_putI M b_20 (sm_I M a0 46).toNatClampNeg x3) a0 46) + 1))) sm_a158_288 rfl rfl (st_goto (pc := 288) (by decide)) ?_
        exact h
    · have h := h.2 hc_19
      refine ru_go (t := (204, [some (.inr (some a0)), some (.inl x1), some (.inl x2), some (.inl x3), some (.inl x4), some (.inl x5)], [.inl 1], M)) sm_a158_203 rfl rfl (st_iconst (by decide)) ?_
      refine ru_go (t := (205, [some (.inr (some a0)), some (.inl x1), some (.inl x2), some (.inl x3), some (.inl x4), some (.inl x5)], [.inl x3, .inl 1], M)) sm_a158_204 rfl rfl rfl ?_
      refine ru_go (t := (206, [some (.inr (some a0)), some (.inl x1), some (.inl x2), some (.inl x3), some (.inl x4), some (.inl x5)], [.inl (1 - x3)], M)) sm_a158_205 rfl rfl rfl ?_
      refine ru_go (t := (210, [some (.inr (some a0)), some (.inl x1), some (.inl x2), some (.inl x3), some (.inl x4), some (.inl x5)], [.inl (1 - x3)], M)) sm_a158_206 rfl rfl (st_goto (pc := 206) (by decide)) ?_
      refine ru_go (t := (211, [some (.inr (some a0)), some (.inl x1), some (.inl x2), some (.inl (1 - x3)), some (.inl x4), some (.inl x5)], [], M)) sm_a158_210 rfl rfl rfl ?_
      refine ru_go (t := (212, [some (.inr (some a0)), some (.inl x1), some (.inl x2), some (.inl (1 - x3)), some (.inl x4), some (.inl x5)], [.inr (some a0)], M)) sm_a158_211 rfl rfl rfl ?_
      refine ru_go (t := (215, [some (.inr (some a0)), some (.inl x1), some (.inl x2), some (.inl (1 - x3)), some (.inl x4), some (.inl x5)], [.inr (sm_R M a0 47)], M)) sm_a158_212 rfl rfl (st_getR h_1 rfl rfl) ?_
      refine ru_go (t := (216, [some (.inr (some a0)), some (.inl x1), some (.inl x2), some (.inl (1 - x3)), some (.inl x4), some (.inl x5)], [.inr (some a0), .inr (sm_R M a0 47)], M)) sm_a158_215 rfl rfl rfl ?_
      refine ru_go (t := (219, [some (.inr (some a0)), some (.inl x1), some (.inl x2), some (.inl (1 - x3)), some (.inl x4), some (.inl x5)], [.inl (sm_I M a0 46), .inr (sm_R M a0 47)], M)) sm_a158_216 rfl rfl (st_getI h_1 rfl) ?_
      refine ru_go (t := (220, [some (.inr (some a0)), some (.inl x1), some (.inl x2), some (.inl (1 - x3)), some (.inl x4), some (.inl x5)], [.inl (1 - x3), .inl (sm_I M a0 46), .inr (sm_R M a0 47)], M)) sm_a158_219 rfl rfl rfl ?_
      obtain ⟨b_34, hb_35, h⟩ := h
      rw [hb_35]
      obtain ⟨h_36, h⟩ := h
      obtain ⟨h_37, h⟩ := h
      refine ru_go (t := (221, [some (.inr (some a0)), some (.inl x1), some (.inl x2), some (.inl (1 - x3)), some (.inl x4), some (.inl x5)], [], sm_putI M b_34 (sm_I M a0 46).toNatClampNeg (1 - x3))) sm_a158_220 rfl rfl (st_iast h_36 h_37) ?_
      refine ru_go (t := (222, [some (.inr (some a0)), some (.inl x1), some (.inl x2), some (.inl (1 - x3)), some (.inl x4), some (.inl x5)], [.inr (some a0)], sm_putI M b_34 (sm_I M a0 46).toNatClampNeg (1 - x3))) sm_a158_221 rfl rfl rfl ?_
      refine ru_go (t := (223, [some (.inr (some a0)), some (.inl x1), some (.inl x2), some (.inl (1 - x3)), some (.inl x4), some (.inl x5)], [.inr (some a0), .inr (some a0)], sm_putI M b_34 (sm_I M a0 46).toNatClampNeg (1 - x3))) sm_a158_222 rfl rfl rfl ?_
      refine ru_go (t := (226, [some (.inr (some a0)), some (.inl x1), some (.inl x2), some (.inl (1 - x3)), some (.inl x4), some (.inl x5)], [.inl (sm_I (sm_putI M b_34 (sm_I M a0 46).toNatClampNeg (1 - x3)) a0 46), .inr (some a0)], sm_putI M b_34 (sm_I M a0 46).toNatClampNeg (1 - x3))) sm_a158_223 rfl rfl (st_getI h_1 rfl) ?_
      refine ru_go (t := (227, [some (.inr (some a0)), some (.inl x1), some (.inl x2), some (.inl (1 - x3)), some (.inl x4), some (.inl x5)], [.inl 1, .inl (sm_I (sm_putI M b_34 (sm_I M a0 46).toNatClampNeg (1 - x3)) a0 46), .inr (some a0)], sm_putI M b_34 (sm_I M a0 46).toNatClampNeg (1 - x3))) sm_a158_226 rfl rfl (st_iconst (by decide)) ?_
      refine ru_go (t := (228, [some (.inr (some a0)), some (.inl x1), some (.inl x2), some (.inl (1 - x3)), some (.inl x4), some (.inl x5)], [.inl ((sm_I (sm_putI M b_34 (sm_I M a0 46).toNatClampNeg (1 - x3)) a0 46) + 1), .inr (some a0)], sm_putI M b_34 (sm_I M a0 46).toNatClampNeg (1 - x3))) sm_a158_227 rfl rfl rfl ?_
      refine ru_go (t := (231, [some (.inr (some a0)), some (.inl x1), some (.inl x2), some (.inl (1 - x3)), some (.inl x4), some (.inl x5)], [], sm_putI (sm_putI M b_34 (sm_I M a0 46).toNatClampNeg (1 - x3)) a0 46 ((sm_I (sm_putI M b_34 (sm_I M a0 46).toNatClampNeg (1 - x3)) a0 46) + 1))) sm_a158_228 rfl rfl (st_putI h_1 rfl) ?_
      refine ru_go (t := (232, [some (.inr (some a0)), some (.inl x1), some (.inl x2), some (.inl (1 - x3)), some (.inl x4), some (.inl x5)], [.inr (some a0)], sm_putI (sm_putI M b_34 (sm_I M a0 46).toNatClampNeg (1 - x3)) a0 46 ((sm_I (sm_putI M b_34 (sm_I M a0 46).toNatClampNeg (1 - x3)) a0 46) + 1))) sm_a158_231 rfl rfl rfl ?_
      refine ru_go (t := (235, [some (.inr (some a0)), some (.inl x1), some (.inl x2), some (.inl (1 - x3)), some (.inl x4), some (.inl x5)], [.inr (sm_R (sm_putI (sm_putI M b_34 (sm_I M a0 46).toNatClampNeg (1 - x3)) a0 46 ((sm_I (sm_putI M b_34 (sm_I M a0 46).toNatClampNeg (1 - x3)) a0 46) + 1)) a0 49)], sm_putI (sm_putI M b_34 (sm_I M a0 46).toNatClampNeg (1 - x3)) a0 46 ((sm_I (sm_putI M b_34 (sm_I M a0 46).toNatClampNeg (1 - x3)) a0 46) + 1))) sm_a158_232 rfl rfl (st_getR h_1 rfl rfl) ?_
      refine ru_go (t := (237, [some (.inr (some a0)), some (.inl x1), some (.inl x2), some (.inl (1 - x3)), some (.inl x4), some (.inl x5)], [.inl x5, .inr (sm_R (sm_putI (sm_putI M b_34 (sm_I M a0 46).toNatClampNeg (1 - x3)) a0 46 ((sm_I (sm_putI M b_34 (sm_I M a0 46).toNatClampNeg (1 - x3)) a0 46) + 1)) a0 49)], sm_putI (sm_putI M b_34 (sm_I M a0 46).toNatClampNeg (1 - x3)) a0 46 ((sm_I (sm_putI M b_34 (sm_I M a0 46).toNatClampNeg (1 - x3)) a0 46) + 1))) sm_a158_235 rfl rfl rfl ?_
      obtain ⟨b_38, hb_39, h⟩ := h
      rw [hb_39]
      obtain ⟨h_40, h⟩ := h
      obtain ⟨h_41, h⟩ := h
      refine ru_go (t := (238, [some (.inr (some a0)), some (.inl x1), some (.inl x2), some (.inl (1 - x3)), some (.inl x4), some (.inl x5)], [.inl (sm_I (sm_putI (sm_putI M b_34 (sm_I M a0 46).toNatClampNeg (1 - x3)) a0 46 ((sm_I (sm_putI M b_34 (sm_I M a0 46).toNatClampNeg (1 - x3)) a0 46) + 1)) b_38 (x5).toNatClampNeg)], sm_putI (sm_putI M b_34 (sm_I M a0 46).toNatClampNeg (1 - x3)) a0 46 ((sm_I (sm_putI M b_34 (sm_I M a0 46).toNatClampNeg (1 - x3)) a0 46) + 1))) sm_a158_237 rfl rfl (st_iald h_40 h_41) ?_
      refine ru_if (pc := 238) (p := 245) (p2 := 241) sm_a158_238 (by decide) rfl ⟨fun hc_42 => ?_, fun hc_42 => ?_⟩
      · have h := h.1 hc_42
        refine ru_go (t := (247, [some (.inr (some a0)), some (.inl x1), some (.inl x2), some (.inl (1 - x3)), some (.inl x4), some (.inl x5)], [.inl x4], sm_putI (sm_putI M b_34 (sm_I M a0 46).toNatClampNeg (1 - x3)) a0 46 ((sm_I (sm_putI M b_34 (sm_I M a0 46).toNatClampNeg (1 - x3)) a0 46) + 1))) sm_a158_245 rfl rfl rfl ?_
        refine ru_go (t := (248, [some (.inr (some a0)), some (.inl x1), some (.inl x2), some (.inl (1 - x3)), some (.inl x4), some (.inl x5)], [.inl 1, .inl x4], sm_putI (sm_putI M b_34 (sm_I M a0 46).toNatClampNeg (1 - x3)) a0 46 ((sm_I (sm_putI M b_34 (sm_I M a0 46).toNatClampNeg (1 - x3)) a0 46) + 1))) sm_a158_247 rfl rfl (st_iconst (by decide)) ?_
        refine ru_go (t := (249, [some (.inr (some a0)), some (.inl x1), some (.inl x2), some (.inl (1 - x3)), some (.inl x4), some (.inl x5)], [.inl (x4 + 1)], sm_putI (sm_putI M b_34 (sm_I M a0 46).toNatClampNeg (1 - x3)) a0 46 ((sm_I (sm_putI M b_34 (sm_I M a0 46).toNatClampNeg (1 - x3)) a0 46) + 1))) sm_a158_248 rfl rfl rfl ?_
        refine ru_go (t := (251, [some (.inr (some a0)), some (.inl x1), some (.inl x2), some (.inl (1 - x3)), some (.inl (x4 + 1)), some (.inl x5)], [], sm_putI (sm_putI M b_34 (sm_I M a0 46).toNatClampNeg (1 - x3)) a0 46 ((sm_I (sm_putI M b_34 (sm_I M a0 46).toNatClampNeg (1 - x3)) a0 46) + 1))) sm_a158_249 rfl rfl rfl ?_
        refine ru_go (t := (253, [some (.inr (some a0)), some (.inl x1), some (.inl x2), some (.inl (1 - x3)), some (.inl (x4 + 1)), some (.inl x5)], [.inl (x4 + 1)], sm_putI (sm_putI M b_34 (sm_I M a0 46).toNatClampNeg (1 - x3)) a0 46 ((sm_I (sm_putI M b_34 (sm_I M a0 46).toNatClampNeg (1 - x3)) a0 46) + 1))) sm_a158_251 rfl rfl rfl ?_
        refine ru_go (t := (255, [some (.inr (some a0)), some (.inl x1), some (.inl x2), some (.inl (1 - x3)), some (.inl (x4 + 1)), some (.inl x5)], [.inl 6, .inl (x4 + 1)], sm_putI (sm_putI M b_34 (sm_I M a0 46).toNatClampNeg (1 - x3)) a0 46 ((sm_I (sm_putI M b_34 (sm_I M a0 46).toNatClampNeg (1 - x3)) a0 46) + 1))) sm_a158_253 rfl rfl (st_bipush (by decide)) ?_
        refine ru_icmp (pc := 255) (p := 285) (p2 := 258) sm_a158_255 (by decide) rfl ⟨fun hc_43 => ?_, fun hc_43 => ?_⟩
        · have h := h.1 hc_43
          refine ru_go (t := (288, [some (.inr (some a0)), some (.inl x1), some (.inl x2), some (.inl (1 - x3)), some (.inl (x4 + 1)), some (.inl (x5 + 1))], [], sm_putI (sm_putI M b_34 (sm_I M a0 46).toNatClampNeg (1 - x3)) a0 46 ((sm_I (sm_putI M b_34 (sm_I M a0 46).toNatClampNeg (1 - x3)) a0 46) + 1))) sm_a158_285 rfl rfl (st_iinc rfl (by decide)) ?_
          refine ru_go (t := (184, [some (.inr (some a0)), some (.inl x1), some (.inl x2), some (.inl (1 - x3)), some (.inl (x4 + 1)), some (.inl (x5 + 1))], [], sm_putI (sm_putI M b_34 (sm_I M a0 46).toNatClampNeg (1 - x3)) a0 46 ((sm_I (sm_putI M b_34 (sm_I M a0 46).toNatClampNeg (1 - x3)) a0 46) + 1))) sm_a158_288 rfl rfl (st_goto (pc := 288) (by decide)) ?_
          exact h
        · have h := h.2 hc_43
          refine ru_go (t := (259, [some (.inr (some a0)), some (.inl x1), some (.inl x2), some (.inl (1 - x3)), some (.inl (x4 + 1)), some (.inl x5)], [.inl 1], sm_putI (sm_putI M b_34 (sm_I M a0 46).toNatClampNeg (1 - x3)) a0 46 ((sm_I (sm_putI M b_34 (sm_I M a0 46).toNatClampNeg (1 - x3)) a0 46) + 1))) sm_a158_258 rfl rfl (st_iconst (by decide)) ?_
          refine ru_go (t := (260, [some (.inr (some a0)), some (.inl x1), some (.inl x2), some (.inl (1 - x3)), some (.inl (x4 + 1)), some (.inl x5)], [.inl (1 - x3), .inl 1], sm_putI (sm_putI M b_34 (sm_I M a0 46).toNatClampNeg (1 - x3)) a0 46 ((sm_I (sm_putI M b_34 (sm_I M a0 46).toNatClampNeg (1 - x3)) a0 46) + 1))) sm_a158_259 rfl rfl rfl ?_
          refine ru_go (t := (261, [some (.inr (some a0)), some (.inl x1), some (.inl x2), some (.inl (1 - x3)), some (.inl (x4 + 1)), some (.inl x5)], [.inl (1 - (1 - x3))], sm_putI (sm_putI M b_34 (sm_I M a0 46).toNatClampNeg (1 - x3)) a0 46 ((sm_I (sm_putI M b_34 (sm_I M a0 46).toNatClampNeg (1 - x3)) a0 46) + 1))) sm_a158_260 rfl rfl rfl ?_
          refine ru_go (t := (262, [some (.inr (some a0)), some (.inl x1), some (.inl x2), some (.inl (1 - (1 - x3))), some (.inl (x4 + 1)), some (.inl x5)], [], sm_putI (sm_putI M b_34 (sm_I M a0 46).toNatClampNeg (1 - x3)) a0 46 ((sm_I (sm_putI M b_34 (sm_I M a0 46).toNatClampNeg (1 - x3)) a0 46) + 1))) sm_a158_261 rfl rfl rfl ?_
          refine ru_go (t := (263, [some (.inr (some a0)), some (.inl x1), some (.inl x2), some (.inl (1 - (1 - x3))), some (.inl (x4 + 1)), some (.inl x5)], [.inr (some a0)], sm_putI (sm_putI M b_34 (sm_I M a0 46).toNatClampNeg (1 - x3)) a0 46 ((sm_I (sm_putI M b_34 (sm_I M a0 46).toNatClampNeg (1 - x3)) a0 46) + 1))) sm_a158_262 rfl rfl rfl ?_
          refine ru_go (t := (266, [some (.inr (some a0)), some (.inl x1), some (.inl x2), some (.inl (1 - (1 - x3))), some (.inl (x4 + 1)), some (.inl x5)], [.inr (sm_R (sm_putI (sm_putI M b_34 (sm_I M a0 46).toNatClampNeg (1 - x3)) a0 46 ((sm_I (sm_putI M b_34 (sm_I M a0 46).toNatClampNeg (1 - x3)) a0 46) + 1)) a0 47)], sm_putI (sm_putI M b_34 (sm_I M a0 46).toNatClampNeg (1 - x3)) a0 46 ((sm_I (sm_putI M b_34 (sm_I M a0 46).toNatClampNeg (1 - x3)) a0 46) + 1))) sm_a158_263 rfl rfl (st_getR h_1 rfl rfl) ?_
          refine ru_go (t := (267, [some (.inr (some a0)), some (.inl x1), some (.inl x2), some (.inl (1 - (1 - x3))), some (.inl (x4 + 1)), some (.inl x5)], [.inr (some a0), .inr (sm_R (sm_putI (sm_putI M b_34 (sm_I M a0 46).toNatClampNeg (1 - x3)) a0 46 ((sm_I (sm_putI M b_34 (sm_I M a0 46).toNatClampNeg (1 - x3)) a0 46) + 1)) a0 47)], sm_putI (sm_putI M b_34 (sm_I M a0 46).toNatClampNeg (1 - x3)) a0 46 ((sm_I (sm_putI M b_34 (sm_I M a0 46).toNatClampNeg (1 - x3)) a0 46) + 1))) sm_a158_266 rfl rfl rfl ?_
          refine ru_go (t := (270, [some (.inr (some a0)), some (.inl x1), some (.inl x2), some (.inl (1 - (1 - x3))), some (.inl (x4 + 1)), some (.inl x5)], [.inl (sm_I (sm_putI (sm_putI M b_34 (sm_I M a0 46).toNatClampNeg (1 - x3)) a0 46 ((sm_I (sm_putI M b_34 (sm_I M a0 46).toNatClampNeg (1 - x3)) a0 46) + 1)) a0 46), .inr (sm_R (sm_putI (sm_putI M b_34 (sm_I M a0 46).toNatClampNeg (1 - x3)) a0 46 ((sm_I (sm_putI M b_34 (sm_I M a0 46).toNatClampNeg (1 - x3)) a0 46) + 1)) a0 47)], sm_putI (sm_putI M b_34 (sm_I M a0 46).toNatClampNeg (1 - x3)) a0 46 ((sm_I (sm_putI M b_34 (sm_I M a0 46).toNatClampNeg (1 - x3)) a0 46) + 1))) sm_a158_267 rfl rfl (st_getI h_1 rfl) ?_
          refine ru_go (t := (271, [some (.inr (some a0)), some (.inl x1), some (.inl x2), some (.inl (1 - (1 - x3))), some (.inl (x4 + 1)), some (.inl x5)], [.inl (1 - (1 - x3)), .inl (sm_I (sm_putI (sm_putI M b_34 (sm_I M a0 46).toNatClampNeg (1 - x3)) a0 46 ((sm_I (sm_putI M b_34 (sm_I M a0 46).toNatClampNeg (1 - x3)) a0 46) + 1)) a0 46), .inr (sm_R (sm_putI (sm_putI M b_34 (sm_I M a0 46).toNatClampNeg (1 - x3)) a0 46 ((sm_I (sm_putI M b_34 (sm_I M a0 46).toNatClampNeg (1 - x3)) a0 46) + 1)) a0 47)], sm_putI (sm_putI M b_34 (sm_I M a0 46).toNatClampNeg (1 - x3)) a0 46 ((sm_I (sm_putI M b_34 (sm_I M a0 46).toNatClampNeg (1 - x3)) a0 46) + 1))) sm_a158_270 rfl rfl rfl ?_
          obtain ⟨b_44, hb_45, h⟩ := h
          rw [hb_45]
          obtain ⟨h_46, h⟩ := h
          obtain ⟨h_47, h⟩ := h
          refine ru_go (t := (272, [some (.inr (some a0)), some (.inl x1), some (.inl x2), some (.inl (1 - (1 - x3))), some (.inl (x4 + 1)), some (.inl x5)], [], sm_putI (sm_putI (sm_putI M b_34 (sm_I M a0 46).toNatClampNeg (1 - x3)) a0 46 ((sm_I (sm_putI M b_34 (sm_I M a0 46).toNatClampNeg (1 - x3)) a0 46) + 1)) b_44 (sm_I (sm_putI (sm_putI M b_34 (sm_I M a0 46).toNatClampNeg (1 - x3)) a0 46 ((sm_I (sm_putI M b_34 (sm_I M a0 46).toNatClampNeg (1 - x3)) a0 46) + 1)) a0 46).toNatClampNeg (1 - (1 - x3)))) sm_a158_271 rfl rfl (st_iast h_46 h_47) ?_
          refine ru_go (t := (273, [some (.inr (some a0)), some (.inl x1), some (.inl x2), some (.inl (1 - (1 - x3))), some (.inl (x4 + 1)), some (.inl x5)], [.inr (some a0)], sm_putI (sm_putI (sm_putI M b_34 (sm_I M a0 46).toNatClampNeg (1 - x3)) a0 46 ((sm_I (sm_putI M b_34 (sm_I M a0 46).toNatClampNeg (1 - x3)) a0 46) + 1)) b_44 (sm_I (sm_putI (sm_putI M b_34 (sm_I M a0 46).toNatClampNeg (1 - x3)) a0 46 ((sm_I (sm_putI M b_34 (sm_I M a0 46).toNatClampNeg (1 - x3)) a0 46) + 1)) a0 46).toNatClampNeg (1 - (1 - x3)))) sm_a158_272 rfl rfl rfl ?_
          refine ru_go (t := (274, [some (.inr (some a0)), some (.inl x1), some (.inl x2), some (.inl (1 - (1 - x3))), some (.inl (x4 + 1)), some (.inl x5)], [.inr (some a0), .inr (some a0)], sm_putI (sm_putI (sm_putI M b_34 (sm_I M a0 46).toNatClampNeg (1 - x3)) a0 46 ((sm_I (sm_putI M b_34 (sm_I M a0 46).toNatClampNeg (1 - x3)) a0 46) + 1)) b_44 (sm_I (sm_putI (sm_putI M b_34 (sm_I M a0 46).toNatClampNeg (1 - x3)) a0 46 ((sm_I (sm_putI M b_34 (sm_I M a0 46).toNatClampNeg (1 - x3)) a0 46) + 1)) a0 46).toNatClampNeg (1 - (1 - x3)))) sm_a158_273 rfl rfl rfl ?_
          refine ru_go (t := (277, [some (.inr (some a0)), some (.inl x1), some (.inl x2), some (.inl (1 - (1 - x3))), some (.inl (x4 + 1)), some (.inl x5)], [.inl (sm_I (sm_putI (sm_putI (sm_putI M b_34 (sm_I M a0 46).toNatClampNeg (1 - x3)) a0 46 ((sm_I (sm_putI M b_34 (sm_I M a0 46).toNatClampNeg (1 - x3)) a0 46) + 1)) b_44 (sm_I (sm_putI (sm_putI M b_34 (sm_I M a0 46).toNatClampNeg (1 - x3)) a0 46 ((sm_I (sm_putI M b_34 (sm_I M a0 46).toNatClampNeg (1 - x3)) a0 46) + 1)) a0 46).toNatClampNeg (1 - (1 - x3))) a0 46), .inr (some a0)], sm_putI (sm_putI (sm_putI M b_34 (sm_I M a0 46).toNatClampNeg (1 - x3)) a0 46 ((sm_I (sm_putI M b_34 (sm_I M a0 46).toNatClampNeg (1 - x3)) a0 46) + 1)) b_44 (sm_I (sm_putI (sm_putI M b_34 (sm_I M a0 46).toNatClampNeg (1 - x3)) a0 46 ((sm_I (sm_putI M b_34 (sm_I M a0 46).toNatClampNeg (1 - x3)) a0 46) + 1)) a0 46).toNatClampNeg (1 - (1 - x3)))) sm_a158_274 rfl rfl (st_getI h_1 rfl) ?_
          refine ru_go (t := (278, [some (.inr (some a0)), some (.inl x1), some (.inl x2), some (.inl (1 - (1 - x3))), some (.inl (x4 + 1)), some (.inl x5)], [.inl 1, .inl (sm_I (sm_putI (sm_putI (sm_putI M b_34 (sm_I M a0 46).toNatClampNeg (1 - x3)) a0 46 ((sm_I (sm_putI M b_34 (sm_I M a0 46).toNatClampNeg (1 - x3)) a0 46) + 1)) b_44 (sm_I (sm_putI (sm_putI M b_34 (sm_I M a0 46).toNatClampNeg (1 - x3)) a0 46 ((sm_I (sm_putI M b_34 (sm_I M a0 46).toNatClampNeg (1 - x3)) a0 46) + 1)) a0 46).toNatClampNeg (1 - (1 - x3))) a0 46), .inr (some a0)], sm_putI (sm_putI (sm_putI M b_34 (sm_I M a0 46).toNatClampNeg (1 - x3)) a0 46 ((sm_I (sm_putI M b_34 (sm_I M a0 46).toNatClampNeg (1 - x3)) a0 46) + 1)) b_44 (sm_I (sm_putI (sm_putI M b_34 (sm_I M a0 46).toNatClampNeg (1 - x3)) a0 46 ((sm_I (sm_putI M b_34 (sm_I M a0 46).toNatClampNeg (1 - x3)) a0 46) + 1)) a0 46).toNatClampNeg (1 - (1 - x3)))) sm_a158_277 rfl rfl (st_iconst (by decide)) ?_
          refine ru_go (t := (279, [some (.inr (some a0)), some (.inl x1), some (.inl x2), some (.inl (1 - (1 - x3))), some (.inl (x4 + 1)), some (.inl x5)], [.inl ((sm_I (sm_putI (sm_putI (sm_putI M b_34 (sm_I M a0 46).toNatClampNeg (1 - x3)) a0 46 ((sm_I (sm_putI M b_34 (sm_I M a0 46).toNatClampNeg (1 - x3)) a0 46) + 1)) b_44 (sm_I (sm_putI (sm_putI M b_34 (sm_I M a0 46).toNatClampNeg (1 - x3)) a0 46 ((sm_I (sm_putI M b_34 (sm_I M a0 46).toNatClampNeg (1 - x3)) a0 46) + 1)) a0 46).toNatClampNeg (1 - (1 - x3))) a0 46) + 1), .inr (some a0)], sm_putI (sm_putI (sm_putI M b_34 (sm_I M a0 46).toNatClampNeg (1 - x3)) a0 46 ((sm_I (sm_putI M b_34 (sm_I M a0 46).toNatClampNeg (1 - x3)) a0 46) + 1)) b_44 (sm_I (sm_putI (sm_putI M b_34 (sm_I M a0 46).toNatClampNeg (1 - x3)) a0 46 ((sm_I (sm_putI M b_34 (sm_I M a0 46).toNatClampNeg (1 - x3)) a0 46) + 1)) a0 46).toNatClampNeg (1 - (1 - x3)))) sm_a158_278 rfl rfl rfl ?_
          refine ru_go (t := (282, [some (.inr (some a0)), some (.inl x1), some (.inl x2), some (.inl (1 - (1 - x3))), some (.inl (x4 + 1)), some (.inl x5)], [], sm_putI (sm_putI (sm_putI (sm_putI M b_34 (sm_I M a0 46).toNatClampNeg (1 - x3)) a0 46 ((sm_I (sm_putI M b_34 (sm_I M a0 46).toNatClampNeg (1 - x3)) a0 46) + 1)) b_44 (sm_I (sm_putI (sm_putI M b_34 (sm_I M a0 46).toNatClampNeg (1 - x3)) a0 46 ((sm_I (sm_putI M b_34 (sm_I M a0 46).toNatClampNeg (1 - x3)) a0 46) + 1)) a0 46).toNatClampNeg (1 - (1 - x3))) a0 46 ((sm_I (sm_putI (sm_putI (sm_putI M b_34 (sm_I M a0 46).toNatClampNeg (1 - x3)) a0 46 ((sm_I (sm_putI M b_34 (sm_I M a0 46).toNatClampNeg (1 - x3)) a0 46) + 1)) b_44 (sm_I (sm_putI (sm_putI M b_34 (sm_I M a0 46).toNatClampNeg (1 - x3)) a0 46 ((sm_I (sm_putI M b_34 (sm_I M a0 46).toNatClampNeg (1 - x3)) a0 46) + 1)) a0 46).toNatClampNeg (1 - (1 - x3))) a0 46) + 1))) sm_a158_279 rfl rfl (st_putI h_1 rfl) ?_
          exact h
      · have h := h.2 hc_42
        refine ru_go (t := (242, [some (.inr (some a0)), some (.inl x1), some (.inl x2), some (.inl (1 - x3)), some (.inl x4), some (.inl x5)], [.inl 0], sm_putI (sm_putI M b_34 (sm_I M a0 46).toNatClampNeg (1 - x3)) a0 46 ((sm_I (sm_putI M b_34 (sm_I M a0 46).toNatClampNeg (1 - x3)) a0 46) + 1))) sm_a158_241 rfl rfl (st_iconst (by decide)) ?_
        refine ru_go (t := (249, [some (.inr (some a0)), some (.inl x1), some (.inl x2), some (.inl (1 - x3)), some (.inl x4), some (.inl x5)], [.inl 0], sm_putI (sm_putI M b_34 (sm_I M a0 46).toNatClampNeg (1 - x3)) a0 46 ((sm_I (sm_putI M b_34 (sm_I M a0 46).toNatClampNeg (1 - x3)) a0 46) + 1))) sm_a158_242 rfl rfl (st_goto (pc := 242) (by decide)) ?_
        refine ru_go (t := (251, [some (.inr (some a0)), some (.inl x1), some (.inl x2), some (.inl (1 - x3)), some (.inl 0), some (.inl x5)], [], sm_putI (sm_putI M b_34 (sm_I M a0 46).toNatClampNeg (1 - x3)) a0 46 ((sm_I (sm_putI M b_34 (sm_I M a0 46).toNatClampNeg (1 - x3)) a0 46) + 1))) sm_a158_249 rfl rfl rfl ?_
        refine ru_go (t := (253, [some (.inr (some a0)), some (.inl x1), some (.inl x2), some (.inl (1 - x3)), some (.inl 0), some (.inl x5)], [.inl 0], sm_putI (sm_putI M b_34 (sm_I M a0 46).toNatClampNeg (1 - x3)) a0 46 ((sm_I (sm_putI M b_34 (sm_I M a0 46).toNatClampNeg (1 - x3)) a0 46) + 1))) sm_a158_251 rfl rfl rfl ?_
        refine ru_go (t := (255, [some (.inr (some a0)), some (.inl x1), some (.inl x2), some (.inl (1 - x3)), some (.inl 0), some (.inl x5)], [.inl 6, .inl 0], sm_putI (sm_putI M b_34 (sm_I M a0 46).toNatClampNeg (1 - x3)) a0 46 ((sm_I (sm_putI M b_34 (sm_I M a0 46).toNatClampNeg (1 - x3)) a0 46) + 1))) sm_a158_253 rfl rfl (st_bipush (by decide)) ?_
        refine ru_icmp (pc := 255) (p := 285) (p2 := 258) sm_a158_255 (by decide) rfl ⟨fun _ => ?_, fun hc => absurd (show sm_cP .ne 0 6 from (by show ¬ (0 : Int32) = 6; decide)) hc⟩
        refine ru_go (t := (288, [some (.inr (some a0)), some (.inl x1), some (.inl x2), some (.inl (1 - x3)), some (.inl 0), some (.inl (x5 + 1))], [], sm_putI (sm_putI M b_34 (sm_I M a0 46).toNatClampNeg (1 - x3)) a0 46 ((sm_I (sm_putI M b_34 (sm_I M a0 46).toNatClampNeg (1 - x3)) a0 46) + 1))) sm_a158_285 rfl rfl (st_iinc rfl (by decide)) ?_
        refine ru_go (t := (184, [some (.inr (some a0)), some (.inl x1), some (.inl x2), some (.inl (1 - x3)), some (.inl 0), some (.inl (x5 + 1))], [], sm_putI (sm_putI M b_34 (sm_I M a0 46).toNatClampNeg (1 - x3)) a0 46 ((sm_I (sm_putI M b_34 (sm_I M a0 46).toNatClampNeg (1 - x3)) a0 46) + 1))) sm_a158_288 rfl rfl (st_goto (pc := 288) (by decide)) ?_
        exact h
theorem bb_158_282 {d : Nat} {M : sm_M} {Q : Option sm_V → sm_M → Prop} {a0 : Nat} {x1 : Int32} {x2 : Int32} {x3 : Int32} {x4 : Int32} {x5 : Int32}
    (h : sm_Run (d + 1) 158 184 [some (.inr (some a0)), some (.inl x1), some (.inl x2), some (.inl x3), some (.inl 0), some (.inl (x5 + 1))] [] M Q) :
    sm_Run (d + 1) 158 282 [some (.inr (some a0)), some (.inl x1), some (.inl x2), some (.inl x3), some (.inl x4), some (.inl x5)] [] M Q := by
  refine ru_go (t := (283, [some (.inr (some a0)), some (.inl x1), some (.inl x2), some (.inl x3), some (.inl x4), some (.inl x5)], [.inl 0], M)) sm_a158_282 rfl rfl (st_iconst (by decide)) ?_
  refine ru_go (t := (285, [some (.inr (some a0)), some (.inl x1), some (.inl x2), some (.inl x3), some (.inl 0), some (.inl x5)], [], M)) sm_a158_283 rfl rfl rfl ?_
  refine ru_go (t := (288, [some (.inr (some a0)), some (.inl x1), some (.inl x2), some (.inl x3), some (.inl 0), some (.inl (x5 + 1))], [], M)) sm_a158_285 rfl rfl (st_iinc rfl (by decide)) ?_
  refine ru_go (t := (184, [some (.inr (some a0)), some (.inl x1), some (.inl x2), some (.inl x3), some (.inl 0), some (.inl (x5 + 1))], [], M)) sm_a158_288 rfl rfl (st_goto (pc := 288) (by decide)) ?_
  exact h
theorem bb_158_335 {d : Nat} {M : sm_M} {Q : Option sm_V → sm_M → Prop} {a0 : Nat} {x1 : Int32} {x2 : Int32} {x3 : Int32} {x4 : Int32} {x5 : Int32}
    (h : Q none M) :
    sm_Run (d + 1) 158 335 [some (.inr (some a0)), some (.inl x1), some (.inl x2), some (.inl x3), some (.inl x4), some (.inl x5)] [] M Q := by
  exact ru_ret sm_a158_335 (sm_rvv rfl) h

/-! WireBusModel.goes:(IIIII)Z -/
theorem sm_a159_0 : sm_at 159 0 = some (.aload_n 0, 1, (0, 0, 0, 0)) := by decide +kernel
theorem sm_a159_1 : sm_at 159 1 = some (.getfield 256, 3, (12, 32, 0, 1215)) := by decide +kernel
theorem sm_a159_4 : sm_at 159 4 = some (.bipush 60, 2, (0, 0, 0, 0)) := by decide +kernel
theorem sm_a159_6 : sm_at 159 6 = some (.irem, 1, (0, 0, 0, 0)) := by decide +kernel
theorem sm_a159_7 : sm_at 159 7 = some (.istore 6, 2, (0, 0, 0, 0)) := by decide +kernel
theorem sm_a159_9 : sm_at 159 9 = some (.aload_n 0, 1, (0, 0, 0, 0)) := by decide +kernel
theorem sm_a159_10 : sm_at 159 10 = some (.getfield 110, 3, (12, 37, 0, 1220)) := by decide +kernel
theorem sm_a159_13 : sm_at 159 13 = some (.iload 6, 2, (0, 0, 0, 0)) := by decide +kernel
theorem sm_a159_15 : sm_at 159 15 = some (.iload_n 1, 1, (0, 0, 0, 0)) := by decide +kernel
theorem sm_a159_16 : sm_at 159 16 = some (.iastore, 1, (1, 0, 0, 0)) := by decide +kernel
theorem sm_a159_17 : sm_at 159 17 = some (.aload_n 0, 1, (0, 0, 0, 0)) := by decide +kernel
theorem sm_a159_18 : sm_at 159 18 = some (.getfield 113, 3, (12, 38, 0, 1221)) := by decide +kernel
theorem sm_a159_21 : sm_at 159 21 = some (.iload 6, 2, (0, 0, 0, 0)) := by decide +kernel
theorem sm_a159_23 : sm_at 159 23 = some (.iload_n 2, 1, (0, 0, 0, 0)) := by decide +kernel
theorem sm_a159_24 : sm_at 159 24 = some (.iastore, 1, (1, 0, 0, 0)) := by decide +kernel
theorem sm_a159_25 : sm_at 159 25 = some (.aload_n 0, 1, (0, 0, 0, 0)) := by decide +kernel
theorem sm_a159_26 : sm_at 159 26 = some (.getfield 116, 3, (12, 39, 0, 1222)) := by decide +kernel
theorem sm_a159_29 : sm_at 159 29 = some (.iload 6, 2, (0, 0, 0, 0)) := by decide +kernel
theorem sm_a159_31 : sm_at 159 31 = some (.iload_n 3, 1, (0, 0, 0, 0)) := by decide +kernel
theorem sm_a159_32 : sm_at 159 32 = some (.iastore, 1, (1, 0, 0, 0)) := by decide +kernel
theorem sm_a159_33 : sm_at 159 33 = some (.aload_n 0, 1, (0, 0, 0, 0)) := by decide +kernel
theorem sm_a159_34 : sm_at 159 34 = some (.getfield 119, 3, (12, 40, 0, 1223)) := by decide +kernel
theorem sm_a159_37 : sm_at 159 37 = some (.iload 6, 2, (0, 0, 0, 0)) := by decide +kernel
theorem sm_a159_39 : sm_at 159 39 = some (.iload 4, 2, (0, 0, 0, 0)) := by decide +kernel
theorem sm_a159_41 : sm_at 159 41 = some (.iastore, 1, (1, 0, 0, 0)) := by decide +kernel
theorem sm_a159_42 : sm_at 159 42 = some (.aload_n 0, 1, (0, 0, 0, 0)) := by decide +kernel
theorem sm_a159_43 : sm_at 159 43 = some (.getfield 122, 3, (12, 41, 0, 1224)) := by decide +kernel
theorem sm_a159_46 : sm_at 159 46 = some (.iload 6, 2, (0, 0, 0, 0)) := by decide +kernel
theorem sm_a159_48 : sm_at 159 48 = some (.iload 5, 2, (0, 0, 0, 0)) := by decide +kernel
theorem sm_a159_50 : sm_at 159 50 = some (.iastore, 1, (1, 0, 0, 0)) := by decide +kernel
theorem sm_a159_51 : sm_at 159 51 = some (.aload_n 0, 1, (0, 0, 0, 0)) := by decide +kernel
theorem sm_a159_52 : sm_at 159 52 = some (.getfield 128, 3, (12, 43, 0, 1226)) := by decide +kernel
theorem sm_a159_55 : sm_at 159 55 = some (.iload 6, 2, (0, 0, 0, 0)) := by decide +kernel
theorem sm_a159_57 : sm_at 159 57 = some (.iconst 0, 1, (0, 0, 0, 0)) := by decide +kernel
theorem sm_a159_58 : sm_at 159 58 = some (.iastore, 1, (1, 0, 0, 0)) := by decide +kernel
theorem sm_a159_59 : sm_at 159 59 = some (.aload_n 0, 1, (0, 0, 0, 0)) := by decide +kernel
theorem sm_a159_60 : sm_at 159 60 = some (.getfield 131, 3, (12, 44, 0, 1227)) := by decide +kernel
theorem sm_a159_63 : sm_at 159 63 = some (.iload 6, 2, (0, 0, 0, 0)) := by decide +kernel
theorem sm_a159_65 : sm_at 159 65 = some (.iconst (-1), 1, (0, 0, 0, 0)) := by decide +kernel
theorem sm_a159_66 : sm_at 159 66 = some (.iastore, 1, (1, 0, 0, 0)) := by decide +kernel
theorem sm_a159_67 : sm_at 159 67 = some (.iconst 0, 1, (0, 0, 0, 0)) := by decide +kernel
theorem sm_a159_68 : sm_at 159 68 = some (.istore 7, 2, (0, 0, 0, 0)) := by decide +kernel
theorem sm_a159_70 : sm_at 159 70 = some (.iload 7, 2, (0, 0, 0, 0)) := by decide +kernel
theorem sm_a159_72 : sm_at 159 72 = some (.iload 5, 2, (0, 0, 0, 0)) := by decide +kernel
theorem sm_a159_74 : sm_at 159 74 = some (.if_icmp .ge 29, 3, (0, 0, 0, 0)) := by decide +kernel
theorem sm_a159_77 : sm_at 159 77 = some (.aload_n 0, 1, (0, 0, 0, 0)) := by decide +kernel
theorem sm_a159_78 : sm_at 159 78 = some (.getfield 125, 3, (12, 42, 0, 1225)) := by decide +kernel
theorem sm_a159_81 : sm_at 159 81 = some (.bipush 100, 2, (0, 0, 0, 0)) := by decide +kernel
theorem sm_a159_83 : sm_at 159 83 = some (.iload 6, 2, (0, 0, 0, 0)) := by decide +kernel
theorem sm_a159_85 : sm_at 159 85 = some (.imul, 1, (0, 0, 0, 0)) := by decide +kernel
theorem sm_a159_86 : sm_at 159 86 = some (.iload 7, 2, (0, 0, 0, 0)) := by decide +kernel
theorem sm_a159_88 : sm_at 159 88 = some (.iadd, 1, (0, 0, 0, 0)) := by decide +kernel
theorem sm_a159_89 : sm_at 159 89 = some (.aload_n 0, 1, (0, 0, 0, 0)) := by decide +kernel
theorem sm_a159_90 : sm_at 159 90 = some (.getfield 143, 3, (12, 52, 0, 1235)) := by decide +kernel
theorem sm_a159_93 : sm_at 159 93 = some (.iload 7, 2, (0, 0, 0, 0)) := by decide +kernel
theorem sm_a159_95 : sm_at 159 95 = some (.iaload, 1, (0, 0, 0, 0)) := by decide +kernel
theorem sm_a159_96 : sm_at 159 96 = some (.iastore, 1, (1, 0, 0, 0)) := by decide +kernel
theorem sm_a159_97 : sm_at 159 97 = some (.iinc 7 1, 3, (0, 0, 0, 0)) := by decide +kernel
theorem sm_a159_100 : sm_at 159 100 = some (.goto (-30), 3, (0, 0, 0, 0)) := by decide +kernel
theorem sm_a159_103 : sm_at 159 103 = some (.iconst (-1), 1, (0, 0, 0, 0)) := by decide +kernel
theorem sm_a159_104 : sm_at 159 104 = some (.istore 7, 2, (0, 0, 0, 0)) := by decide +kernel
theorem sm_a159_106 : sm_at 159 106 = some (.iconst 0, 1, (0, 0, 0, 0)) := by decide +kernel
theorem sm_a159_107 : sm_at 159 107 = some (.istore 8, 2, (0, 0, 0, 0)) := by decide +kernel
theorem sm_a159_109 : sm_at 159 109 = some (.iload 8, 2, (0, 0, 0, 0)) := by decide +kernel
theorem sm_a159_111 : sm_at 159 111 = some (.aload_n 0, 1, (0, 0, 0, 0)) := by decide +kernel
theorem sm_a159_112 : sm_at 159 112 = some (.getfield 259, 3, (12, 33, 0, 1216)) := by decide +kernel
theorem sm_a159_115 : sm_at 159 115 = some (.if_icmp .ge 32, 3, (0, 0, 0, 0)) := by decide +kernel
theorem sm_a159_118 : sm_at 159 118 = some (.aload_n 0, 1, (0, 0, 0, 0)) := by decide +kernel
theorem sm_a159_119 : sm_at 159 119 = some (.getfield 101, 3, (12, 34, 0, 1217)) := by decide +kernel
theorem sm_a159_122 : sm_at 159 122 = some (.iload 8, 2, (0, 0, 0, 0)) := by decide +kernel
theorem sm_a159_124 : sm_at 159 124 = some (.iaload, 1, (0, 0, 0, 0)) := by decide +kernel
theorem sm_a159_125 : sm_at 159 125 = some (.aload_n 0, 1, (0, 0, 0, 0)) := by decide +kernel
theorem sm_a159_126 : sm_at 159 126 = some (.getfield 256, 3, (12, 32, 0, 1215)) := by decide +kernel
theorem sm_a159_129 : sm_at 159 129 = some (.if_icmp .ne 8, 3, (0, 0, 0, 0)) := by decide +kernel
theorem sm_a159_132 : sm_at 159 132 = some (.iload 8, 2, (0, 0, 0, 0)) := by decide +kernel
theorem sm_a159_134 : sm_at 159 134 = some (.goto 5, 3, (0, 0, 0, 0)) := by decide +kernel
theorem sm_a159_137 : sm_at 159 137 = some (.iload 7, 2, (0, 0, 0, 0)) := by decide +kernel
theorem sm_a159_139 : sm_at 159 139 = some (.istore 7, 2, (0, 0, 0, 0)) := by decide +kernel
theorem sm_a159_141 : sm_at 159 141 = some (.iinc 8 1, 3, (0, 0, 0, 0)) := by decide +kernel
theorem sm_a159_144 : sm_at 159 144 = some (.goto (-35), 3, (0, 0, 0, 0)) := by decide +kernel
theorem sm_a159_147 : sm_at 159 147 = some (.iload 7, 2, (0, 0, 0, 0)) := by decide +kernel
theorem sm_a159_149 : sm_at 159 149 = some (.iconst (-1), 1, (0, 0, 0, 0)) := by decide +kernel
theorem sm_a159_150 : sm_at 159 150 = some (.if_icmp .eq 171, 3, (0, 0, 0, 0)) := by decide +kernel
theorem sm_a159_153 : sm_at 159 153 = some (.aload_n 0, 1, (0, 0, 0, 0)) := by decide +kernel
theorem sm_a159_154 : sm_at 159 154 = some (.getfield 104, 3, (12, 35, 0, 1218)) := by decide +kernel
theorem sm_a159_157 : sm_at 159 157 = some (.iload 7, 2, (0, 0, 0, 0)) := by decide +kernel
theorem sm_a159_159 : sm_at 159 159 = some (.iaload, 1, (0, 0, 0, 0)) := by decide +kernel
theorem sm_a159_160 : sm_at 159 160 = some (.istore 8, 2, (0, 0, 0, 0)) := by decide +kernel
theorem sm_a159_162 : sm_at 159 162 = some (.aload_n 0, 1, (0, 0, 0, 0)) := by decide +kernel
theorem sm_a159_163 : sm_at 159 163 = some (.getfield 107, 3, (12, 36, 0, 1219)) := by decide +kernel
theorem sm_a159_166 : sm_at 159 166 = some (.iload 7, 2, (0, 0, 0, 0)) := by decide +kernel
theorem sm_a159_168 : sm_at 159 168 = some (.iaload, 1, (0, 0, 0, 0)) := by decide +kernel
theorem sm_a159_169 : sm_at 159 169 = some (.istore 9, 2, (0, 0, 0, 0)) := by decide +kernel
theorem sm_a159_171 : sm_at 159 171 = some (.aload_n 0, 1, (0, 0, 0, 0)) := by decide +kernel
theorem sm_a159_172 : sm_at 159 172 = some (.dup, 1, (0, 0, 0, 0)) := by decide +kernel
theorem sm_a159_173 : sm_at 159 173 = some (.getfield 259, 3, (12, 33, 0, 1216)) := by decide +kernel
theorem sm_a159_176 : sm_at 159 176 = some (.iconst 1, 1, (0, 0, 0, 0)) := by decide +kernel
theorem sm_a159_177 : sm_at 159 177 = some (.isub, 1, (0, 0, 0, 0)) := by decide +kernel
theorem sm_a159_178 : sm_at 159 178 = some (.putfield 259, 3, (12, 33, 0, 1216)) := by decide +kernel
theorem sm_a159_181 : sm_at 159 181 = some (.iload 7, 2, (0, 0, 0, 0)) := by decide +kernel
theorem sm_a159_183 : sm_at 159 183 = some (.istore 10, 2, (0, 0, 0, 0)) := by decide +kernel
theorem sm_a159_185 : sm_at 159 185 = some (.iload 10, 2, (0, 0, 0, 0)) := by decide +kernel
theorem sm_a159_187 : sm_at 159 187 = some (.aload_n 0, 1, (0, 0, 0, 0)) := by decide +kernel
theorem sm_a159_188 : sm_at 159 188 = some (.getfield 259, 3, (12, 33, 0, 1216)) := by decide +kernel
theorem sm_a159_191 : sm_at 159 191 = some (.if_icmp .ge 57, 3, (0, 0, 0, 0)) := by decide +kernel
theorem sm_a159_194 : sm_at 159 194 = some (.aload_n 0, 1, (0, 0, 0, 0)) := by decide +kernel
theorem sm_a159_195 : sm_at 159 195 = some (.getfield 101, 3, (12, 34, 0, 1217)) := by decide +kernel
theorem sm_a159_198 : sm_at 159 198 = some (.iload 10, 2, (0, 0, 0, 0)) := by decide +kernel
theorem sm_a159_200 : sm_at 159 200 = some (.aload_n 0, 1, (0, 0, 0, 0)) := by decide +kernel
theorem sm_a159_201 : sm_at 159 201 = some (.getfield 101, 3, (12, 34, 0, 1217)) := by decide +kernel
theorem sm_a159_204 : sm_at 159 204 = some (.iload 10, 2, (0, 0, 0, 0)) := by decide +kernel
theorem sm_a159_206 : sm_at 159 206 = some (.iconst 1, 1, (0, 0, 0, 0)) := by decide +kernel
theorem sm_a159_207 : sm_at 159 207 = some (.iadd, 1, (0, 0, 0, 0)) := by decide +kernel
theorem sm_a159_208 : sm_at 159 208 = some (.iaload, 1, (0, 0, 0, 0)) := by decide +kernel
theorem sm_a159_209 : sm_at 159 209 = some (.iastore, 1, (1, 0, 0, 0)) := by decide +kernel
theorem sm_a159_210 : sm_at 159 210 = some (.aload_n 0, 1, (0, 0, 0, 0)) := by decide +kernel
theorem sm_a159_211 : sm_at 159 211 = some (.getfield 104, 3, (12, 35, 0, 1218)) := by decide +kernel
theorem sm_a159_214 : sm_at 159 214 = some (.iload 10, 2, (0, 0, 0, 0)) := by decide +kernel
theorem sm_a159_216 : sm_at 159 216 = some (.aload_n 0, 1, (0, 0, 0, 0)) := by decide +kernel
theorem sm_a159_217 : sm_at 159 217 = some (.getfield 104, 3, (12, 35, 0, 1218)) := by decide +kernel
theorem sm_a159_220 : sm_at 159 220 = some (.iload 10, 2, (0, 0, 0, 0)) := by decide +kernel
theorem sm_a159_222 : sm_at 159 222 = some (.iconst 1, 1, (0, 0, 0, 0)) := by decide +kernel
theorem sm_a159_223 : sm_at 159 223 = some (.iadd, 1, (0, 0, 0, 0)) := by decide +kernel
theorem sm_a159_224 : sm_at 159 224 = some (.iaload, 1, (0, 0, 0, 0)) := by decide +kernel
theorem sm_a159_225 : sm_at 159 225 = some (.iastore, 1, (1, 0, 0, 0)) := by decide +kernel
theorem sm_a159_226 : sm_at 159 226 = some (.aload_n 0, 1, (0, 0, 0, 0)) := by decide +kernel
theorem sm_a159_227 : sm_at 159 227 = some (.getfield 107, 3, (12, 36, 0, 1219)) := by decide +kernel
theorem sm_a159_230 : sm_at 159 230 = some (.iload 10, 2, (0, 0, 0, 0)) := by decide +kernel
theorem sm_a159_232 : sm_at 159 232 = some (.aload_n 0, 1, (0, 0, 0, 0)) := by decide +kernel
theorem sm_a159_233 : sm_at 159 233 = some (.getfield 107, 3, (12, 36, 0, 1219)) := by decide +kernel
theorem sm_a159_236 : sm_at 159 236 = some (.iload 10, 2, (0, 0, 0, 0)) := by decide +kernel
theorem sm_a159_238 : sm_at 159 238 = some (.iconst 1, 1, (0, 0, 0, 0)) := by decide +kernel
theorem sm_a159_239 : sm_at 159 239 = some (.iadd, 1, (0, 0, 0, 0)) := by decide +kernel
theorem sm_a159_240 : sm_at 159 240 = some (.iaload, 1, (0, 0, 0, 0)) := by decide +kernel
theorem sm_a159_241 : sm_at 159 241 = some (.iastore, 1, (1, 0, 0, 0)) := by decide +kernel
theorem sm_a159_242 : sm_at 159 242 = some (.iinc 10 1, 3, (0, 0, 0, 0)) := by decide +kernel
theorem sm_a159_245 : sm_at 159 245 = some (.goto (-60), 3, (0, 0, 0, 0)) := by decide +kernel
theorem sm_a159_248 : sm_at 159 248 = some (.aload_n 0, 1, (0, 0, 0, 0)) := by decide +kernel
theorem sm_a159_249 : sm_at 159 249 = some (.iload 6, 2, (0, 0, 0, 0)) := by decide +kernel
theorem sm_a159_251 : sm_at 159 251 = some (.invokevirtual 262, 3, (10, 158, 12, 1531)) := by decide +kernel
theorem sm_a159_254 : sm_at 159 254 = some (.iload 8, 2, (0, 0, 0, 0)) := by decide +kernel
theorem sm_a159_256 : sm_at 159 256 = some (.ifCond .ne 14, 3, (0, 0, 0, 0)) := by decide +kernel
theorem sm_a159_259 : sm_at 159 259 = some (.aload_n 0, 1, (0, 0, 0, 0)) := by decide +kernel
theorem sm_a159_260 : sm_at 159 260 = some (.getfield 128, 3, (12, 43, 0, 1226)) := by decide +kernel
theorem sm_a159_263 : sm_at 159 263 = some (.iload 6, 2, (0, 0, 0, 0)) := by decide +kernel
theorem sm_a159_265 : sm_at 159 265 = some (.iconst 1, 1, (0, 0, 0, 0)) := by decide +kernel
theorem sm_a159_266 : sm_at 159 266 = some (.iastore, 1, (1, 0, 0, 0)) := by decide +kernel
theorem sm_a159_267 : sm_at 159 267 = some (.goto 54, 3, (0, 0, 0, 0)) := by decide +kernel
theorem sm_a159_270 : sm_at 159 270 = some (.iload 9, 2, (0, 0, 0, 0)) := by decide +kernel
theorem sm_a159_272 : sm_at 159 272 = some (.aload_n 0, 1, (0, 0, 0, 0)) := by decide +kernel
theorem sm_a159_273 : sm_at 159 273 = some (.getfield 253, 3, (12, 46, 0, 1229)) := by decide +kernel
theorem sm_a159_276 : sm_at 159 276 = some (.if_icmp .ge 45, 3, (0, 0, 0, 0)) := by decide +kernel
theorem sm_a159_279 : sm_at 159 279 = some (.aload_n 0, 1, (0, 0, 0, 0)) := by decide +kernel
theorem sm_a159_280 : sm_at 159 280 = some (.getfield 137, 3, (12, 47, 0, 1230)) := by decide +kernel
theorem sm_a159_283 : sm_at 159 283 = some (.iload 9, 2, (0, 0, 0, 0)) := by decide +kernel
theorem sm_a159_285 : sm_at 159 285 = some (.iaload, 1, (0, 0, 0, 0)) := by decide +kernel
theorem sm_a159_286 : sm_at 159 286 = some (.iload 8, 2, (0, 0, 0, 0)) := by decide +kernel
theorem sm_a159_288 : sm_at 159 288 = some (.iconst 1, 1, (0, 0, 0, 0)) := by decide +kernel
theorem sm_a159_289 : sm_at 159 289 = some (.isub, 1, (0, 0, 0, 0)) := by decide +kernel
theorem sm_a159_290 : sm_at 159 290 = some (.if_icmp .eq 31, 3, (0, 0, 0, 0)) := by decide +kernel
theorem sm_a159_293 : sm_at 159 293 = some (.aload_n 0, 1, (0, 0, 0, 0)) := by decide +kernel
theorem sm_a159_294 : sm_at 159 294 = some (.getfield 128, 3, (12, 43, 0, 1226)) := by decide +kernel
theorem sm_a159_297 : sm_at 159 297 = some (.iload 6, 2, (0, 0, 0, 0)) := by decide +kernel
theorem sm_a159_299 : sm_at 159 299 = some (.iconst 2, 1, (0, 0, 0, 0)) := by decide +kernel
theorem sm_a159_300 : sm_at 159 300 = some (.iastore, 1, (1, 0, 0, 0)) := by decide +kernel
theorem sm_a159_301 : sm_at 159 301 = some (.aload_n 0, 1, (0, 0, 0, 0)) := by decide +kernel
theorem sm_a159_302 : sm_at 159 302 = some (.getfield 131, 3, (12, 44, 0, 1227)) := by decide +kernel
theorem sm_a159_305 : sm_at 159 305 = some (.iload 6, 2, (0, 0, 0, 0)) := by decide +kernel
theorem sm_a159_307 : sm_at 159 307 = some (.iload 9, 2, (0, 0, 0, 0)) := by decide +kernel
theorem sm_a159_309 : sm_at 159 309 = some (.iastore, 1, (1, 0, 0, 0)) := by decide +kernel
theorem sm_a159_310 : sm_at 159 310 = some (.aload_n 0, 1, (0, 0, 0, 0)) := by decide +kernel
theorem sm_a159_311 : sm_at 159 311 = some (.getfield 134, 3, (12, 45, 0, 1228)) := by decide +kernel
theorem sm_a159_314 : sm_at 159 314 = some (.iload 6, 2, (0, 0, 0, 0)) := by decide +kernel
theorem sm_a159_316 : sm_at 159 316 = some (.iload 8, 2, (0, 0, 0, 0)) := by decide +kernel
theorem sm_a159_318 : sm_at 159 318 = some (.iconst 1, 1, (0, 0, 0, 0)) := by decide +kernel
theorem sm_a159_319 : sm_at 159 319 = some (.isub, 1, (0, 0, 0, 0)) := by decide +kernel
theorem sm_a159_320 : sm_at 159 320 = some (.iastore, 1, (1, 0, 0, 0)) := by decide +kernel
theorem sm_a159_321 : sm_at 159 321 = some (.aload_n 0, 1, (0, 0, 0, 0)) := by decide +kernel
theorem sm_a159_322 : sm_at 159 322 = some (.iload 6, 2, (0, 0, 0, 0)) := by decide +kernel
theorem sm_a159_324 : sm_at 159 324 = some (.putfield 266, 3, (12, 50, 0, 1233)) := by decide +kernel
theorem sm_a159_327 : sm_at 159 327 = some (.aload_n 0, 1, (0, 0, 0, 0)) := by decide +kernel
theorem sm_a159_328 : sm_at 159 328 = some (.dup, 1, (0, 0, 0, 0)) := by decide +kernel
theorem sm_a159_329 : sm_at 159 329 = some (.getfield 256, 3, (12, 32, 0, 1215)) := by decide +kernel
theorem sm_a159_332 : sm_at 159 332 = some (.iconst 1, 1, (0, 0, 0, 0)) := by decide +kernel
theorem sm_a159_333 : sm_at 159 333 = some (.iadd, 1, (0, 0, 0, 0)) := by decide +kernel
theorem sm_a159_334 : sm_at 159 334 = some (.putfield 256, 3, (12, 32, 0, 1215)) := by decide +kernel
theorem sm_a159_337 : sm_at 159 337 = some (.iconst 0, 1, (0, 0, 0, 0)) := by decide +kernel
theorem sm_a159_338 : sm_at 159 338 = some (.istore 8, 2, (0, 0, 0, 0)) := by decide +kernel
theorem sm_a159_340 : sm_at 159 340 = some (.iload 8, 2, (0, 0, 0, 0)) := by decide +kernel
theorem sm_a159_342 : sm_at 159 342 = some (.bipush 6, 2, (0, 0, 0, 0)) := by decide +kernel
theorem sm_a159_344 : sm_at 159 344 = some (.if_icmp .ge 43, 3, (0, 0, 0, 0)) := by decide +kernel
theorem sm_a159_347 : sm_at 159 347 = some (.aload_n 0, 1, (0, 0, 0, 0)) := by decide +kernel
theorem sm_a159_348 : sm_at 159 348 = some (.getfield 62, 3, (12, 19, 0, 1202)) := by decide +kernel
theorem sm_a159_351 : sm_at 159 351 = some (.iload 8, 2, (0, 0, 0, 0)) := by decide +kernel
theorem sm_a159_353 : sm_at 159 353 = some (.aload_n 0, 1, (0, 0, 0, 0)) := by decide +kernel
theorem sm_a159_354 : sm_at 159 354 = some (.getfield 128, 3, (12, 43, 0, 1226)) := by decide +kernel
theorem sm_a159_357 : sm_at 159 357 = some (.iload 6, 2, (0, 0, 0, 0)) := by decide +kernel
theorem sm_a159_359 : sm_at 159 359 = some (.iaload, 1, (0, 0, 0, 0)) := by decide +kernel
theorem sm_a159_360 : sm_at 159 360 = some (.ifCond .eq 13, 3, (0, 0, 0, 0)) := by decide +kernel
theorem sm_a159_363 : sm_at 159 363 = some (.iload 8, 2, (0, 0, 0, 0)) := by decide +kernel
theorem sm_a159_365 : sm_at 159 365 = some (.iload_n 1, 1, (0, 0, 0, 0)) := by decide +kernel
theorem sm_a159_366 : sm_at 159 366 = some (.if_icmp .eq 7, 3, (0, 0, 0, 0)) := by decide +kernel
theorem sm_a159_369 : sm_at 159 369 = some (.iconst 0, 1, (0, 0, 0, 0)) := by decide +kernel
theorem sm_a159_370 : sm_at 159 370 = some (.goto 10, 3, (0, 0, 0, 0)) := by decide +kernel
theorem sm_a159_373 : sm_at 159 373 = some (.aload_n 0, 1, (0, 0, 0, 0)) := by decide +kernel
theorem sm_a159_374 : sm_at 159 374 = some (.getfield 62, 3, (12, 19, 0, 1202)) := by decide +kernel
theorem sm_a159_377 : sm_at 159 377 = some (.iload 8, 2, (0, 0, 0, 0)) := by decide +kernel
theorem sm_a159_379 : sm_at 159 379 = some (.iaload, 1, (0, 0, 0, 0)) := by decide +kernel
theorem sm_a159_380 : sm_at 159 380 = some (.iastore, 1, (1, 0, 0, 0)) := by decide +kernel
theorem sm_a159_381 : sm_at 159 381 = some (.iinc 8 1, 3, (0, 0, 0, 0)) := by decide +kernel
theorem sm_a159_384 : sm_at 159 384 = some (.goto (-44), 3, (0, 0, 0, 0)) := by decide +kernel
theorem sm_a159_387 : sm_at 159 387 = some (.aload_n 0, 1, (0, 0, 0, 0)) := by decide +kernel
theorem sm_a159_388 : sm_at 159 388 = some (.getfield 128, 3, (12, 43, 0, 1226)) := by decide +kernel
theorem sm_a159_391 : sm_at 159 391 = some (.iload 6, 2, (0, 0, 0, 0)) := by decide +kernel
theorem sm_a159_393 : sm_at 159 393 = some (.iaload, 1, (0, 0, 0, 0)) := by decide +kernel
theorem sm_a159_394 : sm_at 159 394 = some (.ifCond .ne 7, 3, (0, 0, 0, 0)) := by decide +kernel
theorem sm_a159_397 : sm_at 159 397 = some (.iconst 1, 1, (0, 0, 0, 0)) := by decide +kernel
theorem sm_a159_398 : sm_at 159 398 = some (.goto 4, 3, (0, 0, 0, 0)) := by decide +kernel
theorem sm_a159_401 : sm_at 159 401 = some (.iconst 0, 1, (0, 0, 0, 0)) := by decide +kernel
theorem sm_a159_402 : sm_at 159 402 = some (.ireturn, 1, (0, 0, 0, 0)) := by decide +kernel
theorem bb_159_0 {d : Nat} {M : sm_M} {Q : Option sm_V → sm_M → Prop} {a0 : Nat} {x1 : Int32} {x2 : Int32} {x3 : Int32} {x4 : Int32} {x5 : Int32} {z6 : Option sm_V} {z7 : Option sm_V} {z8 : Option sm_V} {z9 : Option sm_V} {z10 : Option sm_V}
    (h : sm_K M a0 = 39 ∧ ∃ b_2, sm_R M a0 37 = some b_2 ∧ sm_wA 1 M b_2 ∧ sm_in_ M b_2 ((sm_I M a0 32) - (sm_I M a0 32) / 60 * 60) ∧ ∃ b_6, sm_R (sm_putI M b_2 ((sm_I M a0 32) - (sm_I M a0 32) / 60 * 60).toNatClampNeg x1) a0 38 = some b_6 ∧ sm_wA 1 M b_6 ∧ sm_in_ M b_6 ((sm_I M a0 32) - (sm_I M a0 32) / 60 * 60) ∧ ∃ b_10, sm_R (sm_putI (sm_putI M b_2 ((sm_I M a0 32) - (sm_I M a0 32) / 60 * 60).toNatClampNeg x1) b_6 ((sm_I M a0 32) - (sm_I M a0 32) / 60 * 60).toNatClampNeg x2) a0 39 = some b_10 ∧ sm_wA 1 M b_10 ∧ sm_in_ M b_10 ((sm_I M a0 32) - (sm_I M a0 32) / 60 * 60) ∧ ∃ b_14, sm_R (sm_putI (sm_putI (sm_putI M b_2 ((sm_I M a0 32) - (sm_I M a0 32) / 60 * 60).toNatClampNeg x1) b_6 ((sm_I M a0 32) - (sm_I M a0 32) / 60 * 60).toNatClampNeg x2) b_10 ((sm_I M a0 32) - (sm_I M a0 32) / 60 * 60).toNatClampNeg x3) a0 40 = some b_14 ∧ sm_wA 1 M b_14 ∧ sm_in_ M b_14 ((sm_I M a0 32) - (sm_I M a0 32) / 60 * 60) ∧ ∃ b_18, sm_R (sm_putI (sm_putI (sm_putI (sm_putI M b_2 ((sm_I M a0 32) - (sm_I M a0 32) / 60 * 60).toNatClampNeg x1) b_6 ((sm_I M a0 32) - (sm_I M a0 32) / 60 * 60).toNatClampNeg x2) b_10 ((sm_I M a0 32) - (sm_I M a0 32) / 60 * 60).toNatClampNeg x3) b_14 ((sm_I M a0 32) - (sm_I M a0 32) / 60 * 60).toNatClampNeg x4) a0 41 = some b_18 ∧ sm_wA 1 M b_18 ∧ sm_in_ M b_18 ((sm_I M a0 32) - (sm_I M a0 32) / 60 * 60) ∧ sm_Run (d + 1) 159 51 [some (.inr (some a0)), some (.inl x1), some (.inl x2), some (.inl x3), some (.inl x4), some (.inl x5), some (.inl ((sm_I M a0 32) - (sm_I M a0 32) / 60 * 60)), z7, z8, z9, z10] [] (sm_putI (sm_putI (sm_putI (sm_putI (sm_putI M b_2 ((sm_I M a0 32) - (sm_I M a0 32) / 60 * 60).toNatClampNeg x1) b_6 ((sm_I M a0 32) - (sm_I M a0 32) / 60 * 60).toNatClampNeg x2) b_10 ((sm_I M a0 32) - (sm_I M a0 32) / 60 * 60).toNatClampNeg x3) b_14 ((sm_I M a0 32) - (sm_I M a0 32) / 60 * 60).toNatClampNeg x4) b_18 ((sm_I M a0 32) - (sm_I M a0 32) / 60 * 60).toNatClampNeg x5) Q) :
    sm_Run (d + 1) 159 0 [some (.inr (some a0)), some (.inl x1), some (.inl x2), some (.inl x3), some (.inl x4), some (.inl x5), z6, z7, z8, z9, z10] [] M Q := by
  refine ru_go (t := (1, [some (.inr (some a0)), some (.inl x1), some (.inl x2), some (.inl x3), some (.inl x4), some (.inl x5), z6, z7, z8, z9, z10], [.inr (some a0)], M)) sm_a159_0 rfl rfl rfl ?_
  obtain ⟨h_1, h⟩ := h
  refine ru_go (t := (4, [some (.inr (some a0)), some (.inl x1), some (.inl x2), some (.inl x3), some (.inl x4), some (.inl x5), z6, z7, z8, z9, z10], [.inl (sm_I M a0 32)], M)) sm_a159_1 rfl rfl (st_getI h_1 rfl) ?_
  refine ru_go (t := (6, [some (.inr (some a0)), some (.inl x1), some (.inl x2), some (.inl x3), some (.inl x4), some (.inl x5), z6, z7, z8, z9, z10], [.inl 60, .inl (sm_I M a0 32)], M)) sm_a159_4 rfl rfl (st_bipush (by decide)) ?_
  refine ru_go (t := (7, [some (.inr (some a0)), some (.inl x1), some (.inl x2), some (.inl x3), some (.inl x4), some (.inl x5), z6, z7, z8, z9, z10], [.inl ((sm_I M a0 32) - (sm_I M a0 32) / 60 * 60)], M)) sm_a159_6 rfl rfl (st_rem (by decide)) ?_
  refine ru_go (t := (9, [some (.inr (some a0)), some (.inl x1), some (.inl x2), some (.inl x3), some (.inl x4), some (.inl x5), some (.inl ((sm_I M a0 32) - (sm_I M a0 32) / 60 * 60)), z7, z8, z9, z10], [], M)) sm_a159_7 rfl rfl rfl ?_
  refine ru_go (t := (10, [some (.inr (some a0)), some (.inl x1), some (.inl x2), some (.inl x3), some (.inl x4), some (.inl x5), some (.inl ((sm_I M a0 32) - (sm_I M a0 32) / 60 * 60)), z7, z8, z9, z10], [.inr (some a0)], M)) sm_a159_9 rfl rfl rfl ?_
  refine ru_go (t := (13, [some (.inr (some a0)), some (.inl x1), some (.inl x2), some (.inl x3), some (.inl x4), some (.inl x5), some (.inl ((sm_I M a0 32) - (sm_I M a0 32) / 60 * 60)), z7, z8, z9, z10], [.inr (sm_R M a0 37)], M)) sm_a159_10 rfl rfl (st_getR h_1 rfl rfl) ?_
  refine ru_go (t := (15, [some (.inr (some a0)), some (.inl x1), some (.inl x2), some (.inl x3), some (.inl x4), some (.inl x5), some (.inl ((sm_I M a0 32) - (sm_I M a0 32) / 60 * 60)), z7, z8, z9, z10], [.inl ((sm_I M a0 32) - (sm_I M a0 32) / 60 * 60), .inr (sm_R M a0 37)], M)) sm_a159_13 rfl rfl rfl ?_
  refine ru_go (t := (16, [some (.inr (some a0)), some (.inl x1), some (.inl x2), some (.inl x3), some (.inl x4), some (.inl x5), some (.inl ((sm_I M a0 32) - (sm_I M a0 32) / 60 * 60)), z7, z8, z9, z10], [.inl x1, .inl ((sm_I M a0 32) - (sm_I M a0 32) / 60 * 60), .inr (sm_R M a0 37)], M)) sm_a159_15 rfl rfl rfl ?_
  obtain ⟨b_2, hb_3, h⟩ := h
  rw [hb_3]
  obtain ⟨h_4, h⟩ := h
  obtain ⟨h_5, h⟩ := h
  refine ru_go (t := (17, [some (.inr (some a0)), some (.inl x1), some (.inl x2), some (.inl x3), some (.inl x4), some (.inl x5), some (.inl ((sm_I M a0 32) - (sm_I M a0 32) / 60 * 60)), z7, z8, z9, z10], [], sm_putI M b_2 ((sm_I M a0 32) - (sm_I M a0 32) / 60 * 60).toNatClampNeg x1)) sm_a159_16 rfl rfl (st_iast h_4 h_5) ?_
  refine ru_go (t := (18, [some (.inr (some a0)), some (.inl x1), some (.inl x2), some (.inl x3), some (.inl x4), some (.inl x5), some (.inl ((sm_I M a0 32) - (sm_I M a0 32) / 60 * 60)), z7, z8, z9, z10], [.inr (some a0)], sm_putI M b_2 ((sm_I M a0 32) - (sm_I M a0 32) / 60 * 60).toNatClampNeg x1)) sm_a159_17 rfl rfl rfl ?_
  refine ru_go (t := (21, [some (.inr (some a0)), some (.inl x1), some (.inl x2), some (.inl x3), some (.inl x4), some (.inl x5), some (.inl ((sm_I M a0 32) - (sm_I M a0 32) / 60 * 60)), z7, z8, z9, z10], [.inr (sm_R (sm_putI M b_2 ((sm_I M a0 32) - (sm_I M a0 32) / 60 * 60).toNatClampNeg x1) a0 38)], sm_putI M b_2 ((sm_I M a0 32) - (sm_I M a0 32) / 60 * 60).toNatClampNeg x1)) sm_a159_18 rfl rfl (st_getR h_1 rfl rfl) ?_
  refine ru_go (t := (23, [some (.inr (some a0)), some (.inl x1), some (.inl x2), some (.inl x3), some (.inl x4), some (.inl x5), some (.inl ((sm_I M a0 32) - (sm_I M a0 32) / 60 * 60)), z7, z8, z9, z10], [.inl ((sm_I M a0 32) - (sm_I M a0 32) / 60 * 60), .inr (sm_R (sm_putI M b_2 ((sm_I M a0 32) - (sm_I M a0 32) / 60 * 60).toNatClampNeg x1) a0 38)], sm_putI M b_2 ((sm_I M a0 32) - (sm_I M a0 32) / 60 * 60).toNatClampNeg x1)) sm_a159_21 rfl rfl rfl ?_
  refine ru_go (t := (24, [some (.inr (some a0)), some (.inl x1), some (.inl x2), some (.inl x3), some (.inl x4), some (.inl x5), some (.inl ((sm_I M a0 32) - (sm_I M a0 32) / 60 * 60)), z7, z8, z9, z10], [.inl x2, .inl ((sm_I M a0 32) - (sm_I M a0 32) / 60 * 60), .inr (sm_R (sm_putI M b_2 ((sm_I M a0 32) - (sm_I M a0 32) / 60 * 60).toNatClampNeg x1) a0 38)], sm_putI M b_2 ((sm_I M a0 32) - (sm_I M a0 32) / 60 * 60).toNatClampNeg x1)) sm_a159_23 rfl rfl rfl ?_
  obtain ⟨b_6, hb_7, h⟩ := h
  rw [hb_7]
  obtain ⟨h_8, h⟩ := h
  obtain ⟨h_9, h⟩ := h
  refine ru_go (t := (25, [some (.inr (some a0)), some (.inl x1), some (.inl x2), some (.inl x3), some (.inl x4), some (.inl x5), some (.inl ((sm_I M a0 32) - (sm_I M a0 32) / 60 * 60)), z7, z8, z9, z10], [], sm_putI (sm_putI M b_2 ((sm_I M a0 32) - (sm_I M a0 32) / 60 * 60).toNatClampNeg x1) b_6 ((sm_I M a0 32) - (sm_I M a0 32) / 60 * 60).toNatClampNeg x2)) sm_a159_24 rfl rfl (st_iast h_8 h_9) ?_
  refine ru_go (t := (26, [some (.inr (some a0)), some (.inl x1), some (.inl x2), some (.inl x3), some (.inl x4), some (.inl x5), some (.inl ((sm_I M a0 32) - (sm_I M a0 32) / 60 * 60)), z7, z8, z9, z10], [.inr (some a0)], sm_putI (sm_putI M b_2 ((sm_I M a0 32) - (sm_I M a0 32) / 60 * 60).toNatClampNeg x1) b_6 ((sm_I M a0 32) - (sm_I M a0 32) / 60 * 60).toNatClampNeg x2)) sm_a159_25 rfl rfl rfl ?_
  refine ru_go (t := (29, [some (.inr (some a0)), some (.inl x1), some (.inl x2), some (.inl x3), some (.inl x4), some (.inl x5), some (.inl ((sm_I M a0 32) - (sm_I M a0 32) / 60 * 60)), z7, z8, z9, z10], [.inr (sm_R (sm_putI (sm_putI M b_2 ((sm_I M a0 32) - (sm_I M a0 32) / 60 * 60).toNatClampNeg x1) b_6 ((sm_I M a0 32) - (sm_I M a0 32) / 60 * 60).toNatClampNeg x2) a0 39)], sm_putI (sm_putI M b_2 ((sm_I M a0 32) - (sm_I M a0 32) / 60 * 60).toNatClampNeg x1) b_6 ((sm_I M a0 32) - (sm_I M a0 32) / 60 * 60).toNatClampNeg x2)) sm_a159_26 rfl rfl (st_getR h_1 rfl rfl) ?_
  refine ru_go (t := (31, [some (.inr (some a0)), some (.inl x1), some (.inl x2), some (.inl x3), some (.inl x4), some (.inl x5), some (.inl ((sm_I M a0 32) - (sm_I M a0 32) / 60 * 60)), z7, z8, z9, z10], [.inl ((sm_I M a0 32) - (sm_I M a0 32) / 60 * 60), .inr (sm_R (sm_putI (sm_putI M b_2 ((sm_I M a0 32) - (sm_I M a0 32) / 60 * 60).toNatClampNeg x1) b_6 ((sm_I M a0 32) - (sm_I M a0 32) / 60 * 60).toNatClampNeg x2) a0 39)], sm_putI (sm_putI M b_2 ((sm_I M a0 32) - (sm_I M a0 32) / 60 * 60).toNatClampNeg x1) b_6 ((sm_I M a0 32) - (sm_I M a0 32) / 60 * 60).toNatClampNeg x2)) sm_a159_29 rfl rfl rfl ?_
  refine ru_go (t := (32, [some (.inr (some a0)), some (.inl x1), some (.inl x2), some (.inl x3), some (.inl x4), some (.inl x5), some (.inl ((sm_I M a0 32) - (sm_I M a0 32) / 60 * 60)), z7, z8, z9, z10], [.inl x3, .inl ((sm_I M a0 32) - (sm_I M a0 32) / 60 * 60), .inr (sm_R (sm_putI (sm_putI M b_2 ((sm_I M a0 32) - (sm_I M a0 32) / 60 * 60).toNatClampNeg x1) b_6 ((sm_I M a0 32) - (sm_I M a0 32) / 60 * 60).toNatClampNeg x2) a0 39)], sm_putI (sm_putI M b_2 ((sm_I M a0 32) - (sm_I M a0 32) / 60 * 60).toNatClampNeg x1) b_6 ((sm_I M a0 32) - (sm_I M a0 32) / 60 * 60).toNatClampNeg x2)) sm_a159_31 rfl rfl rfl ?_
  obtain ⟨b_10, hb_11, h⟩ := h
  rw [hb_11]
  obtain ⟨h_12, h⟩ := h
  obtain ⟨h_13, h⟩ := h
  refine ru_go (t := (33, [some (.inr (some a0)), some (.inl x1), some (.inl x2), some (.inl x3), some (.inl x4), some (.inl x5), some (.inl ((sm_I M a0 32) - (sm_I M a0 32) / 60 * 60)), z7, z8, z9, z10], [], sm_putI (sm_putI (sm_putI M b_2 ((sm_I M a0 32) - (sm_I M a0 32) / 60 * 60).toNatClampNeg x1) b_6 ((sm_I M a0 32) - (sm_I M a0 32) / 60 * 60).toNatClampNeg x2) b_10 ((sm_I M a0 32) - (sm_I M a0 32) / 60 * 60).toNatClampNeg x3)) sm_a159_32 rfl rfl (st_iast h_12 h_13) ?_
  refine ru_go (t := (34, [some (.inr (some a0)), some (.inl x1), some (.inl x2), some (.inl x3), some (.inl x4), some (.inl x5), some (.inl ((sm_I M a0 32) - (sm_I M a0 32) / 60 * 60)), z7, z8, z9, z10], [.inr (some a0)], sm_putI (sm_putI (sm_putI M b_2 ((sm_I M a0 32) - (sm_I M a0 32) / 60 * 60).toNatClampNeg x1) b_6 ((sm_I M a0 32) - (sm_I M a0 32) / 60 * 60).toNatClampNeg x2) b_10 ((sm_I M a0 32) - (sm_I M a0 32) / 60 * 60).toNatClampNeg x3)) sm_a159_33 rfl rfl rfl ?_
  refine ru_go (t := (37, [some (.inr (some a0)), some (.inl x1), some (.inl x2), some (.inl x3), some (.inl x4), some (.inl x5), some (.inl ((sm_I M a0 32) - (sm_I M a0 32) / 60 * 60)), z7, z8, z9, z10], [.inr (sm_R (sm_putI (sm_putI (sm_putI M b_2 ((sm_I M a0 32) - (sm_I M a0 32) / 60 * 60).toNatClampNeg x1) b_6 ((sm_I M a0 32) - (sm_I M a0 32) / 60 * 60).toNatClampNeg x2) b_10 ((sm_I M a0 32) - (sm_I M a0 32) / 60 * 60).toNatClampNeg x3) a0 40)], sm_putI (sm_putI (sm_putI M b_2 ((sm_I M a0 32) - (sm_I M a0 32) / 60 * 60).toNatClampNeg x1) b_6 ((sm_I M a0 32) - (sm_I M a0 32) / 60 * 60).toNatClampNeg x2) b_10 ((sm_I M a0 32) - (sm_I M a0 32) / 60 * 60).toNatClampNeg x3)) sm_a159_34 rfl rfl (st_getR h_1 rfl rfl) ?_
  refine ru_go (t := (39, [some (.inr (some a0)), some (.inl x1), some (.inl x2), some (.inl x3), some (.inl x4), some (.inl x5), some (.inl ((sm_I M a0 32) - (sm_I M a0 32) / 60 * 60)), z7, z8, z9, z10], [.inl ((sm_I M a0 32) - (sm_I M a0 32) / 60 * 60), .inr (sm_R (sm_putI (sm_putI (sm_putI M b_2 ((sm_I M a0 32) - (sm_I M a0 32) / 60 * 60).toNatClampNeg x1) b_6 ((sm_I M a0 32) - (sm_I M a0 32) / 60 * 60).toNatClampNeg x2) b_10 ((sm_I M a0 32) - (sm_I M a0 32) / 60 * 60).toNatClampNeg x3) a0 40)], sm_putI (sm_putI (sm_putI M b_2 ((sm_I M a0 32) - (sm_I M a0 32) / 60 * 60).toNatClampNeg x1) b_6 ((sm_I M a0 32) - (sm_I M a0 32) / 60 * 60).toNatClampNeg x2) b_10 ((sm_I M a0 32) - (sm_I M a0 32) / 60 * 60).toNatClampNeg x3)) sm_a159_37 rfl rfl rfl ?_
  refine ru_go (t := (41, [some (.inr (some a0)), some (.inl x1), some (.inl x2), some (.inl x3), some (.inl x4), some (.inl x5), some (.inl ((sm_I M a0 32) - (sm_I M a0 32) / 60 * 60)), z7, z8, z9, z10], [.inl x4, .inl ((sm_I M a0 32) - (sm_I M a0 32) / 60 * 60), .inr (sm_R (sm_putI (sm_putI (sm_putI M b_2 ((sm_I M a0 32) - (sm_I M a0 32) / 60 * 60).toNatClampNeg x1) b_6 ((sm_I M a0 32) - (sm_I M a0 32) / 60 * 60).toNatClampNeg x2) b_10 ((sm_I M a0 32) - (sm_I M a0 32) / 60 * 60).toNatClampNeg x3) a0 40)], sm_putI (sm_putI (sm_putI M b_2 ((sm_I M a0 32) - (sm_I M a0 32) / 60 * 60).toNatClampNeg x1) b_6 ((sm_I M a0 32) - (sm_I M a0 32) / 60 * 60).toNatClampNeg x2) b_10 ((sm_I M a0 32) - (sm_I M a0 32) / 60 * 60).toNatClampNeg x3)) sm_a159_39 rfl rfl rfl ?_
  obtain ⟨b_14, hb_15, h⟩ := h
  rw [hb_15]
  obtain ⟨h_16, h⟩ := h
  obtain ⟨h_17, h⟩ := h
  refine ru_go (t := (42, [some (.inr (some a0)), some (.inl x1), some (.inl x2), some (.inl x3), some (.inl x4), some (.inl x5), some (.inl ((sm_I M a0 32) - (sm_I M a0 32) / 60 * 60)), z7, z8, z9, z10], [], sm_putI (sm_putI (sm_putI (sm_putI M b_2 ((sm_I M a0 32) - (sm_I M a0 32) / 60 * 60).toNatClampNeg x1) b_6 ((sm_I M a0 32) - (sm_I M a0 32) / 60 * 60).toNatClampNeg x2) b_10 ((sm_I M a0 32) - (sm_I M a0 32) / 60 * 60).toNatClampNeg x3) b_14 ((sm_I M a0 32) - (sm_I M a0 32) / 60 * 60).toNatClampNeg x4)) sm_a159_41 rfl rfl (st_iast h_16 h_17) ?_
  refine ru_go (t := (43, [some (.inr (some a0)), some (.inl x1), some (.inl x2), some (.inl x3), some (.inl x4), some (.inl x5), some (.inl ((sm_I M a0 32) - (sm_I M a0 32) / 60 * 60)), z7, z8, z9, z10], [.inr (some a0)], sm_putI (sm_putI (sm_putI (sm_putI M b_2 ((sm_I M a0 32) - (sm_I M a0 32) / 60 * 60).toNatClampNeg x1) b_6 ((sm_I M a0 32) - (sm_I M a0 32) / 60 * 60).toNatClampNeg x2) b_10 ((sm_I M a0 32) - (sm_I M a0 32) / 60 * 60).toNatClampNeg x3) b_14 ((sm_I M a0 32) - (sm_I M a0 32) / 60 * 60).toNatClampNeg x4)) sm_a159_42 rfl rfl rfl ?_
  refine ru_go (t := (46, [some (.inr (some a0)), some (.inl x1), some (.inl x2), some (.inl x3), some (.inl x4), some (.inl x5), some (.inl ((sm_I M a0 32) - (sm_I M a0 32) / 60 * 60)), z7, z8, z9, z10], [.inr (sm_R (sm_putI (sm_putI (sm_putI (sm_putI M b_2 ((sm_I M a0 32) - (sm_I M a0 32) / 60 * 60).toNatClampNeg x1) b_6 ((sm_I M a0 32) - (sm_I M a0 32) / 60 * 60).toNatClampNeg x2) b_10 ((sm_I M a0 32) - (sm_I M a0 32) / 60 * 60).toNatClampNeg x3) b_14 ((sm_I M a0 32) - (sm_I M a0 32) / 60 * 60).toNatClampNeg x4) a0 41)], sm_putI (sm_putI (sm_putI (sm_putI M b_2 ((sm_I M a0 32) - (sm_I M a0 32) / 60 * 60).toNatClampNeg x1) b_6 ((sm_I M a0 32) - (sm_I M a0 32) / 60 * 60).toNatClampNeg x2) b_10 ((sm_I M a0 32) - (sm_I M a0 32) / 60 * 60).toNatClampNeg x3) b_14 ((sm_I M a0 32) - (sm_I M a0 32) / 60 * 60).toNatClampNeg x4)) sm_a159_43 rfl rfl (st_getR h_1 rfl rfl) ?_
  refine ru_go (t := (48, [some (.inr (some a0)), some (.inl x1), some (.inl x2), some (.inl x3), some (.inl x4), some (.inl x5), some (.inl ((sm_I M a0 32) - (sm_I M a0 32) / 60 * 60)), z7, z8, z9, z10], [.inl ((sm_I M a0 32) - (sm_I M a0 32) / 60 * 60), .inr (sm_R (sm_putI (sm_putI (sm_putI (sm_putI M b_2 ((sm_I M a0 32) - (sm_I M a0 32) / 60 * 60).toNatClampNeg x1) b_6 ((sm_I M a0 32) - (sm_I M a0 32) / 60 * 60).toNatClampNeg x2) b_10 ((sm_I M a0 32) - (sm_I M a0 32) / 60 * 60).toNatClampNeg x3) b_14 ((sm_I M a0 32) - (sm_I M a0 32) / 60 * 60).toNatClampNeg x4) a0 41)], sm_putI (sm_putI (sm_putI (sm_putI M b_2 ((sm_I M a0 32) - (sm_I M a0 32) / 60 * 60).toNatClampNeg x1) b_6 ((sm_I M a0 32) - (sm_I M a0 32) / 60 * 60).toNatClampNeg x2) b_10 ((sm_I M a0 32) - (sm_I M a0 32) / 60 * 60).toNatClampNeg x3) b_14 ((sm_I M a0 32) - (sm_I M a0 32) / 60 * 60).toNatClampNeg x4)) sm_a159_46 rfl rfl rfl ?_
  refine ru_go (t := (50, [some (.inr (some a0)), some (.inl x1), some (.inl x2), some (.inl x3), some (.inl x4), some (.inl x5), some (.inl ((sm_I M a0 32) - (sm_I M a0 32) / 60 * 60)), z7, z8, z9, z10], [.inl x5, .inl ((sm_I M a0 32) - (sm_I M a0 32) / 60 * 60), .inr (sm_R (sm_putI (sm_putI (sm_putI (sm_putI M b_2 ((sm_I M a0 32) - (sm_I M a0 32) / 60 * 60).toNatClampNeg x1) b_6 ((sm_I M a0 32) - (sm_I M a0 32) / 60 * 60).toNatClampNeg x2) b_10 ((sm_I M a0 32) - (sm_I M a0 32) / 60 * 60).toNatClampNeg x3) b_14 ((sm_I M a0 32) - (sm_I M a0 32) / 60 * 60).toNatClampNeg x4) a0 41)], sm_putI (sm_putI (sm_putI (sm_putI M b_2 ((sm_I M a0 32) - (sm_I M a0 32) / 60 * 60).toNatClampNeg x1) b_6 ((sm_I M a0 32) - (sm_I M a0 32) / 60 * 60).toNatClampNeg x2) b_10 ((sm_I M a0 32) - (sm_I M a0 32) / 60 * 60).toNatClampNeg x3) b_14 ((sm_I M a0 32) - (sm_I M a0 32) / 60 * 60).toNatClampNeg x4)) sm_a159_48 rfl rfl rfl ?_
  obtain ⟨b_18, hb_19, h⟩ := h
  rw [hb_19]
  obtain ⟨h_20, h⟩ := h
  obtain ⟨h_21, h⟩ := h
  refine ru_go (t := (51, [some (.inr (some a0)), some (.inl x1), some (.inl x2), some (.inl x3), some (.inl x4), some (.inl x5), some (.inl ((sm_I M a0 32) - (sm_I M a0 32) / 60 * 60)), z7, z8, z9, z10], [], sm_putI (sm_putI (sm_putI (sm_putI (sm_putI M b_2 ((sm_I M a0 32) - (sm_I M a0 32) / 60 * 60).toNatClampNeg x1) b_6 ((sm_I M a0 32) - (sm_I M a0 32) / 60 * 60).toNatClampNeg x2) b_10 ((sm_I M a0 32) - (sm_I M a0 32) / 60 * 60).toNatClampNeg x3) b_14 ((sm_I M a0 32) - (sm_I M a0 32) / 60 * 60).toNatClampNeg x4) b_18 ((sm_I M a0 32) - (sm_I M a0 32) / 60 * 60).toNatClampNeg x5)) sm_a159_50 rfl rfl (st_iast h_20 h_21) ?_
  exact h
theorem bb_159_51 {d : Nat} {M : sm_M} {Q : Option sm_V → sm_M → Prop} {a0 : Nat} {x1 : Int32} {x2 : Int32} {x3 : Int32} {x4 : Int32} {x5 : Int32} {x6 : Int32} {z7 : Option sm_V} {z8 : Option sm_V} {z9 : Option sm_V} {z10 : Option sm_V}
    (h : sm_K M a0 = 39 ∧ ∃ b_2, sm_R M a0 43 = some b_2 ∧ sm_wA 1 M b_2 ∧ sm_in_ M b_2 x6 ∧ ∃ b_6, sm_R (sm_putI M b_2 (x6).toNatClampNeg 0) a0 44 = some b_6 ∧ sm_wA 1 M b_6 ∧ sm_in_ M b_6 x6 ∧ sm_Run (d + 1) 159 70 [some (.inr (some a0)), some (.inl x1), some (.inl x2), some (.inl x3), some (.inl x4), some (.inl x5), some (.inl x6), some (.inl 0), z8, z9, z10] [] (sm_putI (sm_putI M b_2 (x6).toNatClampNeg 0) b_6 (x6).toNatClampNeg (-1)) Q) :
    sm_Run (d + 1) 159 51 [some (.inr (some a0)), some (.inl x1), some (.inl x2), some (.inl x3), some (.inl x4), some (.inl x5), some (.inl x6), z7, z8, z9, z10] [] M Q := by
  refine ru_go (t := (52, [some (.inr (some a0)), some (.inl x1), some (.inl x2), some (.inl x3), some (.inl x4), some (.inl x5), some (.inl x6), z7, z8, z9, z10], [.inr (some a0)], M)) sm_a159_51 rfl rfl rfl ?_
  obtain ⟨h_1, h⟩ := h
  refine ru_go (t := (55, [some (.inr (some a0)), some (.inl x1), some (.inl x2), some (.inl x3), some (.inl x4), some (.inl x5), some (.inl x6), z7, z8, z9, z10], [.inr (sm_R M a0 43)], M)) sm_a159_52 rfl rfl (st_getR h_1 rfl rfl) ?_
  refine ru_go (t := (57, [some (.inr (some a0)), some (.inl x1), some (.inl x2), some (.inl x3), some (.inl x4), some (.inl x5), some (.inl x6), z7, z8, z9, z10], [.inl x6, .inr (sm_R M a0 43)], M)) sm_a159_55 rfl rfl rfl ?_
  refine ru_go (t := (58, [some (.inr (some a0)), some (.inl x1), some (.inl x2), some (.inl x3), some (.inl x4), some (.inl x5), some (.inl x6), z7, z8, z9, z10], [.inl 0, .inl x6, .inr (sm_R M a0 43)], M)) sm_a159_57 rfl rfl (st_iconst (by decide)) ?_
  obtain ⟨b_2, hb_3, h⟩ := h
  rw [hb_3]
  obtain ⟨h_4, h⟩ := h
  obtain ⟨h_5, h⟩ := h
  refine ru_go (t := (59, [some (.inr (some a0)), some (.inl x1), some (.inl x2), some (.inl x3), some (.inl x4), some (.inl x5), some (.inl x6), z7, z8, z9, z10], [], sm_putI M b_2 (x6).toNatClampNeg 0)) sm_a159_58 rfl rfl (st_iast h_4 h_5) ?_
  refine ru_go (t := (60, [some (.inr (some a0)), some (.inl x1), some (.inl x2), some (.inl x3), some (.inl x4), some (.inl x5), some (.inl x6), z7, z8, z9, z10], [.inr (some a0)], sm_putI M b_2 (x6).toNatClampNeg 0)) sm_a159_59 rfl rfl rfl ?_
  refine ru_go (t := (63, [some (.inr (some a0)), some (.inl x1), some (.inl x2), some (.inl x3), some (.inl x4), some (.inl x5), some (.inl x6), z7, z8, z9, z10], [.inr (sm_R (sm_putI M b_2 (x6).toNatClampNeg 0) a0 44)], sm_putI M b_2 (x6).toNatClampNeg 0)) sm_a159_60 rfl rfl (st_getR h_1 rfl rfl) ?_
  refine ru_go (t := (65, [some (.inr (some a0)), some (.inl x1), some (.inl x2), some (.inl x3), some (.inl x4), some (.inl x5), some (.inl x6), z7, z8, z9, z10], [.inl x6, .inr (sm_R (sm_putI M b_2 (x6).toNatClampNeg 0) a0 44)], sm_putI M b_2 (x6).toNatClampNeg 0)) sm_a159_63 rfl rfl rfl ?_
  refine ru_go (t := (66, [some (.inr (some a0)), some (.inl x1), some (.inl x2), some (.inl x3), some (.inl x4), some (.inl x5), some (.inl x6), z7, z8, z9, z10], [.inl (-1), .inl x6, .inr (sm_R (sm_putI M b_2 (x6).toNatClampNeg 0) a0 44)], sm_putI M b_2 (x6).toNatClampNeg 0)) sm_a159_65 rfl rfl (st_iconst (by decide)) ?_
  obtain ⟨b_6, hb_7, h⟩ := h
  rw [hb_7]
  obtain ⟨h_8, h⟩ := h
  obtain ⟨h_9, h⟩ := h
  refine ru_go (t := (67, [some (.inr (some a0)), some (.inl x1), some (.inl x2), some (.inl x3), some (.inl x4), some (.inl x5), some (.inl x6), z7, z8, z9, z10], [], sm_putI (sm_putI M b_2 (x6).toNatClampNeg 0) b_6 (x6).toNatClampNeg (-1))) sm_a159_66 rfl rfl (st_iast h_8 h_9) ?_
  refine ru_go (t := (68, [some (.inr (some a0)), some (.inl x1), some (.inl x2), some (.inl x3), some (.inl x4), some (.inl x5), some (.inl x6), z7, z8, z9, z10], [.inl 0], sm_putI (sm_putI M b_2 (x6).toNatClampNeg 0) b_6 (x6).toNatClampNeg (-1))) sm_a159_67 rfl rfl (st_iconst (by decide)) ?_
  refine ru_go (t := (70, [some (.inr (some a0)), some (.inl x1), some (.inl x2), some (.inl x3), some (.inl x4), some (.inl x5), some (.inl x6), some (.inl 0), z8, z9, z10], [], sm_putI (sm_putI M b_2 (x6).toNatClampNeg 0) b_6 (x6).toNatClampNeg (-1))) sm_a159_68 rfl rfl rfl ?_
  exact h
theorem bb_159_70 {d : Nat} {M : sm_M} {Q : Option sm_V → sm_M → Prop} {a0 : Nat} {x1 : Int32} {x2 : Int32} {x3 : Int32} {x4 : Int32} {x5 : Int32} {x6 : Int32} {x7 : Int32} {z8 : Option sm_V} {z9 : Option sm_V} {z10 : Option sm_V}
    (h : ((x5 ≤ x7 → sm_Run (d + 1) 159 109 [some (.inr (some a0)), some (.inl x1), some (.inl x2), some (.inl x3), some (.inl x4), some (.inl x5), some (.inl x6), some (.inl (-1)), some (.inl 0), z9, z10] [] M Q) ∧ (¬ (x5 ≤ x7) → sm_K M a0 = 39 ∧ ∃ b_3, sm_R M a0 52 = some b_3 ∧ sm_iA M b_3 ∧ sm_in_ M b_3 x7 ∧ ∃ b_7, sm_R M a0 42 = some b_7 ∧ sm_wA 1 M b_7 ∧ sm_in_ M b_7 ((100 * x6) + x7) ∧ sm_Run (d + 1) 159 70 [some (.inr (some a0)), some (.inl x1), some (.inl x2), some (.inl x3), some (.inl x4), some (.inl x5), some (.inl x6), some (.inl (x7 + 1)), z8, z9, z10] [] (sm_putI M b_7 ((100 * x6) + x7).toNatClampNeg (sm_I M b_3 (x7).toNatClampNeg)) Q))) :
    sm_Run (d + 1) 159 70 [some (.inr (some a0)), some (.inl x1), some (.inl x2), some (.inl x3), some (.inl x4), some (.inl x5), some (.inl x6), some (.inl x7), z8, z9, z10] [] M Q := by
  refine ru_go (t := (72, [some (.inr (some a0)), some (.inl x1), some (.inl x2), some (.inl x3), some (.inl x4), some (.inl x5), some (.inl x6), some (.inl x7), z8, z9, z10], [.inl x7], M)) sm_a159_70 rfl rfl rfl ?_
  refine ru_go (t := (74, [some (.inr (some a0)), some (.inl x1), some (.inl x2), some (.inl x3), some (.inl x4), some (.inl x5), some (.inl x6), some (.inl x7), z8, z9, z10], [.inl x5, .inl x7], M)) sm_a159_72 rfl rfl rfl ?_
  refine ru_icmp (pc := 74) (p := 103) (p2 := 77) sm_a159_74 (by decide) rfl ⟨fun hc_1 => ?_, fun hc_1 => ?_⟩
  · have h := h.1 hc_1
    refine ru_go (t := (104, [some (.inr (some a0)), some (.inl x1), some (.inl x2), some (.inl x3), some (.inl x4), some (.inl x5), some (.inl x6), some (.inl x7), z8, z9, z10], [.inl (-1)], M)) sm_a159_103 rfl rfl (st_iconst (by decide)) ?_
    refine ru_go (t := (106, [some (.inr (some a0)), some (.inl x1), some (.inl x2), some (.inl x3), some (.inl x4), some (.inl x5), some (.inl x6), some (.inl (-1)), z8, z9, z10], [], M)) sm_a159_104 rfl rfl rfl ?_
    refine ru_go (t := (107, [some (.inr (some a0)), some (.inl x1), some (.inl x2), some (.inl x3), some (.inl x4), some (.inl x5), some (.inl x6), some (.inl (-1)), z8, z9, z10], [.inl 0], M)) sm_a159_106 rfl rfl (st_iconst (by decide)) ?_
    refine ru_go (t := (109, [some (.inr (some a0)), some (.inl x1), some (.inl x2), some (.inl x3), some (.inl x4), some (.inl x5), some (.inl x6), some (.inl (-1)), some (.inl 0), z9, z10], [], M)) sm_a159_107 rfl rfl rfl ?_
    exact h
  · have h := h.2 hc_1
    refine ru_go (t := (78, [some (.inr (some a0)), some (.inl x1), some (.inl x2), some (.inl x3), some (.inl x4), some (.inl x5), some (.inl x6), some (.inl x7), z8, z9, z10], [.inr (some a0)], M)) sm_a159_77 rfl rfl rfl ?_
    obtain ⟨h_2, h⟩ := h
    refine ru_go (t := (81, [some (.inr (some a0)), some (.inl x1), some (.inl x2), some (.inl x3), some (.inl x4), some (.inl x5), some (.inl x6), some (.inl x7), z8, z9, z10], [.inr (sm_R M a0 42)], M)) sm_a159_78 rfl rfl (st_getR h_2 rfl rfl) ?_
    refine ru_go (t := (83, [some (.inr (some a0)), some (.inl x1), some (.inl x2), some (.inl x3), some (.inl x4), some (.inl x5), some (.inl x6), some (.inl x7), z8, z9, z10], [.inl 100, .inr (sm_R M a0 42)], M)) sm_a159_81 rfl rfl (st_bipush (by decide)) ?_
    refine ru_go (t := (85, [some (.inr (some a0)), some (.inl x1), some (.inl x2), some (.inl x3), some (.inl x4), some (.inl x5), some (.inl x6), some (.inl x7), z8, z9, z10], [.inl x6, .inl 100, .inr (sm_R M a0 42)], M)) sm_a159_83 rfl rfl rfl ?_
    refine ru_go (t := (86, [some (.inr (some a0)), some (.inl x1), some (.inl x2), some (.inl x3), some (.inl x4), some (.inl x5), some (.inl x6), some (.inl x7), z8, z9, z10], [.inl (100 * x6), .inr (sm_R M a0 42)], M)) sm_a159_85 rfl rfl rfl ?_
    refine ru_go (t := (88, [some (.inr (some a0)), some (.inl x1), some (.inl x2), some (.inl x3), some (.inl x4), some (.inl x5), some (.inl x6), some (.inl x7), z8, z9, z10], [.inl x7, .inl (100 * x6), .inr (sm_R M a0 42)], M)) sm_a159_86 rfl rfl rfl ?_
    refine ru_go (t := (89, [some (.inr (some a0)), some (.inl x1), some (.inl x2), some (.inl x3), some (.inl x4), some (.inl x5), some (.inl x6), some (.inl x7), z8, z9, z10], [.inl ((100 * x6) + x7), .inr (sm_R M a0 42)], M)) sm_a159_88 rfl rfl rfl ?_
    refine ru_go (t := (90, [some (.inr (some a0)), some (.inl x1), some (.inl x2), some (.inl x3), some (.inl x4), some (.inl x5), some (.inl x6), some (.inl x7), z8, z9, z10], [.inr (some a0), .inl ((100 * x6) + x7), .inr (sm_R M a0 42)], M)) sm_a159_89 rfl rfl rfl ?_
    refine ru_go (t := (93, [some (.inr (some a0)), some (.inl x1), some (.inl x2), some (.inl x3), some (.inl x4), some (.inl x5), some (.inl x6), some (.inl x7), z8, z9, z10], [.inr (sm_R M a0 52), .inl ((100 * x6) + x7), .inr (sm_R M a0 42)], M)) sm_a159_90 rfl rfl (st_getR h_2 rfl rfl) ?_
    refine ru_go (t := (95, [some (.inr (some a0)), some (.inl x1), some (.inl x2), some (.inl x3), some (.inl x4), some (.inl x5), some (.inl x6), some (.inl x7), z8, z9, z10], [.inl x7, .inr (sm_R M a0 52), .inl ((100 * x6) + x7), .inr (sm_R M a0 42)], M)) sm_a159_93 rfl rfl rfl ?_
    obtain ⟨b_3, hb_4, h⟩ := h
    rw [hb_4]
    obtain ⟨h_5, h⟩ := h
    obtain ⟨h_6, h⟩ := h
    refine ru_go (t := (96, [some (.inr (some a0)), some (.inl x1), some (.inl x2), some (.inl x3), some (.inl x4), some (.inl x5), some (.inl x6), some (.inl x7), z8, z9, z10], [.inl (sm_I M b_3 (x7).toNatClampNeg), .inl ((100 * x6) + x7), .inr (sm_R M a0 42)], M)) sm_a159_95 rfl rfl (st_iald h_5 h_6) ?_
    obtain ⟨b_7, hb_8, h⟩ := h
    rw [hb_8]
    obtain ⟨h_9, h⟩ := h
    obtain ⟨h_10, h⟩ := h
    refine ru_go (t := (97, [some (.inr (some a0)), some (.inl x1), some (.inl x2), some (.inl x3), some (.inl x4), some (.inl x5), some (.inl x6), some (.inl x7), z8, z9, z10], [], sm_putI M b_7 ((100 * x6) + x7).toNatClampNeg (sm_I M b_3 (x7).toNatClampNeg))) sm_a159_96 rfl rfl (st_iast h_9 h_10) ?_
    refine ru_go (t := (100, [some (.inr (some a0)), some (.inl x1), some (.inl x2), some (.inl x3), some (.inl x4), some (.inl x5), some (.inl x6), some (.inl (x7 + 1)), z8, z9, z10], [], sm_putI M b_7 ((100 * x6) + x7).toNatClampNeg (sm_I M b_3 (x7).toNatClampNeg))) sm_a159_97 rfl rfl (st_iinc rfl (by decide)) ?_
    refine ru_go (t := (70, [some (.inr (some a0)), some (.inl x1), some (.inl x2), some (.inl x3), some (.inl x4), some (.inl x5), some (.inl x6), some (.inl (x7 + 1)), z8, z9, z10], [], sm_putI M b_7 ((100 * x6) + x7).toNatClampNeg (sm_I M b_3 (x7).toNatClampNeg))) sm_a159_100 rfl rfl (st_goto (pc := 100) (by decide)) ?_
    exact h
theorem bb_159_109 {d : Nat} {M : sm_M} {Q : Option sm_V → sm_M → Prop} {a0 : Nat} {x1 : Int32} {x2 : Int32} {x3 : Int32} {x4 : Int32} {x5 : Int32} {x6 : Int32} {x7 : Int32} {x8 : Int32} {z9 : Option sm_V} {z10 : Option sm_V}
    (h : sm_K M a0 = 39 ∧ (((sm_I M a0 33) ≤ x8 → ((x7 = (-1) → sm_Run (d + 1) 159 321 [some (.inr (some a0)), some (.inl x1), some (.inl x2), some (.inl x3), some (.inl x4), some (.inl x5), some (.inl x6), some (.inl x7), some (.inl x8), z9, z10] [] M Q) ∧ (¬ (x7 = (-1)) → ∃ b_4, sm_R M a0 35 = some b_4 ∧ sm_iA M b_4 ∧ sm_in_ M b_4 x7 ∧ ∃ b_8, sm_R M a0 36 = some b_8 ∧ sm_iA M b_8 ∧ sm_in_ M b_8 x7 ∧ sm_Run (d + 1) 159 185 [some (.inr (some a0)), some (.inl x1), some (.inl x2), some (.inl x3), some (.inl x4), some (.inl x5), some (.inl x6), some (.inl x7), some (.inl (sm_I M b_4 (x7).toNatClampNeg)), some (.inl (sm_I M b_8 (x7).toNatClampNeg)), some (.inl x7)] [] (sm_putI M a0 33 ((sm_I M a0 33) - 1)) Q))) ∧ (¬ ((sm_I M a0 33) ≤ x8) → ∃ b_12, sm_R M a0 34 = some b_12 ∧ sm_iA M b_12 ∧ sm_in_ M b_12 x8 ∧ ((¬ (sm_I M b_12 (x8).toNatClampNeg) = (sm_I M a0 32) → sm_Run (d + 1) 159 109 [some (.inr (some a0)), some (.inl x1), some (.inl x2), some (.inl x3), some (.inl x4), some (.inl x5), some (.inl x6), some (.inl x7), some (.inl (x8 + 1)), z9, z10] [] M Q) ∧ (¬ (¬ (sm_I M b_12 (x8).toNatClampNeg) = (sm_I M a0 32)) → sm_Run (d + 1) 159 109 [some (.inr (some a0)), some (.inl x1), some (.inl x2), some (.inl x3), some (.inl x4), some (.inl x5), some (.inl x6), some (.inl x8), some (.inl (x8 + 1)), z9, z10] [] M Q))))) :
    sm_Run (d + 1) 159 109 [some (.inr (some a0)), some (.inl x1), some (.inl x2), some (.inl x3), some (.inl x4), some (.inl x5), some (.inl x6), some (.inl x7), some (.inl x8), z9, z10] [] M Q := by
  refine ru_go (t := (111, [some (.inr (some a0)), some (.inl x1), some (.inl x2), some (.inl x3), some (.inl x4), some (.inl x5), some (.inl x6), some (.inl x7), some (.inl x8), z9, z10], [.inl x8], M)) sm_a159_109 rfl rfl rfl ?_
  refine ru_go (t := (112, [some (.inr (some a0)), some (.inl x1), some (.inl x2), some (.inl x3), some (.inl x4), some (.inl x5), some (.inl x6), some (.inl x7), some (.inl x8), z9, z10], [.inr (some a0), .inl x8], M)) sm_a159_111 rfl rfl rfl ?_
  obtain ⟨h_1, h⟩ := h
  refine ru_go (t := (115, [some (.inr (some a0)), some (.inl x1), some (.inl x2), some (.inl x3), some (.inl x4), some (.inl x5), some (.inl x6), some (.inl x7), some (.inl x8), z9, z10], [.inl (sm_I M a0 33), .inl x8], M)) sm_a159_112 rfl rfl (st_getI h_1 rfl) ?_
  refine ru_icmp (pc := 115) (p := 147) (p2 := 118) sm_a159_115 (by decide) rfl ⟨fun hc_2 => ?_, fun hc_2 => ?_⟩
  · have h := h.1 hc_2
    refine ru_go (t := (149, [some (.inr (some a0)), some (.inl x1), some (.inl x2), some (.inl x3), some (.inl x4), some (.inl x5), some (.inl x6), some (.inl x7), some (.inl x8), z9, z10], [.inl x7], M)) sm_a159_147 rfl rfl rfl ?_
    refine ru_go (t := (150, [some (.inr (some a0)), some (.inl x1), some (.inl x2), some (.inl x3), some (.inl x4), some (.inl x5), some (.inl x6), some (.inl x7), some (.inl x8), z9, z10], [.inl (-1), .inl x7], M)) sm_a159_149 rfl rfl (st_iconst (by decide)) ?_
    refine ru_icmp (pc := 150) (p := 321) (p2 := 153) sm_a159_150 (by decide) rfl ⟨fun hc_3 => ?_, fun hc_3 => ?_⟩
    · have h := h.1 hc_3
      exact h
    · have h := h.2 hc_3
      refine ru_go (t := (154, [some (.inr (some a0)), some (.inl x1), some (.inl x2), some (.inl x3), some (.inl x4), some (.inl x5), some (.inl x6), some (.inl x7), some (.inl x8), z9, z10], [.inr (some a0)], M)) sm_a159_153 rfl rfl rfl ?_
      refine ru_go (t := (157, [some (.inr (some a0)), some (.inl x1), some (.inl x2), some (.inl x3), some (.inl x4), some (.inl x5), some (.inl x6), some (.inl x7), some (.inl x8), z9, z10], [.inr (sm_R M a0 35)], M)) sm_a159_154 rfl rfl (st_getR h_1 rfl rfl) ?_
      refine ru_go (t := (159, [some (.inr (some a0)), some (.inl x1), some (.inl x2), some (.inl x3), some (.inl x4), some (.inl x5), some (.inl x6), some (.inl x7), some (.inl x8), z9, z10], [.inl x7, .inr (sm_R M a0 35)], M)) sm_a159_157 rfl rfl rfl ?_
      obtain ⟨b_4, hb_5, h⟩ := h
      rw [hb_5]
      obtain ⟨h_6, h⟩ := h
      obtain ⟨h_7, h⟩ := h
      refine ru_go (t := (160, [some (.inr (some a0)), some (.inl x1), some (.inl x2), some (.inl x3), some (.inl x4), some (.inl x5), some (.inl x6), some (.inl x7), some (.inl x8), z9, z10], [.inl (sm_I M b_4 (x7).toNatClampNeg)], M)) sm_a159_159 rfl rfl (st_iald h_6 h_7) ?_
      refine ru_go (t := (162, [some (.inr (some a0)), some (.inl x1), some (.inl x2), some (.inl x3), some (.inl x4), some (.inl x5), some (.inl x6), some (.inl x7), some (.inl (sm_I M b_4 (x7).toNatClampNeg)), z9, z10], [], M)) sm_a159_160 rfl rfl rfl ?_
      refine ru_go (t := (163, [some (.inr (some a0)), some (.inl x1), some (.inl x2), some (.inl x3), some (.inl x4), some (.inl x5), some (.inl x6), some (.inl x7), some (.inl (sm_I M b_4 (x7).toNatClampNeg)), z9, z10], [.inr (some a0)], M)) sm_a159_162 rfl rfl rfl ?_
      refine ru_go (t := (166, [some (.inr (some a0)), some (.inl x1), some (.inl x2), some (.inl x3), some (.inl x4), some (.inl x5), some (.inl x6), some (.inl x7), some (.inl (sm_I M b_4 (x7).toNatClampNeg)), z9, z10], [.inr (sm_R M a0 36)], M)) sm_a159_163 rfl rfl (st_getR h_1 rfl rfl) ?_
      refine ru_go (t := (168, [some (.inr (some a0)), some (.inl x1), some (.inl x2), some (.inl x3), some (.inl x4), some (.inl x5), some (.inl x6), some (.inl x7), some (.inl (sm_I M b_4 (x7).toNatClampNeg)), z9, z10], [.inl x7, .inr (sm_R M a0 36)], M)) sm_a159_166 rfl rfl rfl ?_
      obtain ⟨b_8, hb_9, h⟩ := h
      rw [hb_9]
      obtain ⟨h_10, h⟩ := h
      obtain ⟨h_11, h⟩ := h
      refine ru_go (t := (169, [some (.inr (some a0)), some (.inl x1), some (.inl x2), some (.inl x3), some (.inl x4), some (.inl x5), some (.inl x6), some (.inl x7), some (.inl (sm_I M b_4 (x7).toNatClampNeg)), z9, z10], [.inl (sm_I M b_8 (x7).toNatClampNeg)], M)) sm_a159_168 rfl rfl (st_iald h_10 h_11) ?_
      refine ru_go (t := (171, [some (.inr (some a0)), some (.inl x1), some (.inl x2), some (.inl x3), some (.inl x4), some (.inl x5), some (.inl x6), some (.inl x7), some (.inl (sm_I M b_4 (x7).toNatClampNeg)), some (.inl (sm_I M b_8 (x7).toNatClampNeg)), z10], [], M)) sm_a159_169 rfl rfl rfl ?_
      refine ru_go (t := (172, [some (.inr (some a0)), some (.inl x1), some (.inl x2), some (.inl x3), some (.inl x4), some (.inl x5), some (.inl x6), some (.inl x7), some (.inl (sm_I M b_4 (x7).toNatClampNeg)), some (.inl (sm_I M b_8 (x7).toNatClampNeg)), z10], [.inr (some a0)], M)) sm_a159_171 rfl rfl rfl ?_
      refine ru_go (t := (173, [some (.inr (some a0)), some (.inl x1), some (.inl x2), some (.inl x3), some (.inl x4), some (.inl x5), some (.inl x6), some (.inl x7), some (.inl (sm_I M b_4 (x7).toNatClampNeg)), some (.inl (sm_I M b_8 (x7).toNatClampNeg)), z10], [.inr (some a0), .inr (some a0)], M)) sm_a159_172 rfl rfl rfl ?_
      refine ru_go (t := (176, [some (.inr (some a0)), some (.inl x1), some (.inl x2), some (.inl x3), some (.inl x4), some (.inl x5), some (.inl x6), some (.inl x7), some (.inl (sm_I M b_4 (x7).toNatClampNeg)), some (.inl (sm_I M b_8 (x7).toNatClampNeg)), z10], [.inl (sm_I M a0 33), .inr (some a0)], M)) sm_a159_173 rfl rfl (st_getI h_1 rfl) ?_
      refine ru_go (t := (177, [some (.inr (some a0)), some (.inl x1), some (.inl x2), some (.inl x3), some (.inl x4), some (.inl x5), some (.inl x6), some (.inl x7), some (.inl (sm_I M b_4 (x7).toNatClampNeg)), some (.inl (sm_I M b_8 (x7).toNatClampNeg)), z10], [.inl 1, .inl (sm_I M a0 33), .inr (some a0)], M)) sm_a159_176 rfl rfl (st_iconst (by decide)) ?_
      refine ru_go (t := (178, [some (.inr (some a0)), some (.inl x1), some (.inl x2), some (.inl x3), some (.inl x4), some (.inl x5), some (.inl x6), some (.inl x7), some (.inl (sm_I M b_4 (x7).toNatClampNeg)), some (.inl (sm_I M b_8 (x7).toNatClampNeg)), z10], [.inl ((sm_I M a0 33) - 1), .inr (some a0)], M)) sm_a159_177 rfl rfl rfl ?_
      refine ru_go (t := (181, [some (.inr (some a0)), some (.inl x1), some (.inl x2), some (.inl x3), some (.inl x4), some (.inl x5), some (.inl x6), some (.inl x7), some (.inl (sm_I M b_4 (x7).toNatClampNeg)), some (.inl (sm_I M b_8 (x7).toNatClampNeg)), z10], [], sm_putI M a0 33 ((sm_I M a0 33) - 1))) sm_a159_178 rfl rfl (st_putI h_1 rfl) ?_
      refine ru_go (t := (183, [some (.inr (some a0)), some (.inl x1), some (.inl x2), some (.inl x3), some (.inl x4), some (.inl x5), some (.inl x6), some (.inl x7), some (.inl (sm_I M b_4 (x7).toNatClampNeg)), some (.inl (sm_I M b_8 (x7).toNatClampNeg)), z10], [.inl x7], sm_putI M a0 33 ((sm_I M a0 33) - 1))) sm_a159_181 rfl rfl rfl ?_
      refine ru_go (t := (185, [some (.inr (some a0)), some (.inl x1), some (.inl x2), some (.inl x3), some (.inl x4), some (.inl x5), some (.inl x6), some (.inl x7), some (.inl (sm_I M b_4 (x7).toNatClampNeg)), some (.inl (sm_I M b_8 (x7).toNatClampNeg)), some (.inl x7)], [], sm_putI M a0 33 ((sm_I M a0 33) - 1))) sm_a159_183 rfl rfl rfl ?_
      exact h
  · have h := h.2 hc_2
    refine ru_go (t := (119, [some (.inr (some a0)), some (.inl x1), some (.inl x2), some (.inl x3), some (.inl x4), some (.inl x5), some (.inl x6), some (.inl x7), some (.inl x8), z9, z10], [.inr (some a0)], M)) sm_a159_118 rfl rfl rfl ?_
    refine ru_go (t := (122, [some (.inr (some a0)), some (.inl x1), some (.inl x2), some (.inl x3), some (.inl x4), some (.inl x5), some (.inl x6), some (.inl x7), some (.inl x8), z9, z10], [.inr (sm_R M a0 34)], M)) sm_a159_119 rfl rfl (st_getR h_1 rfl rfl) ?_
    refine ru_go (t := (124, [some (.inr (some a0)), some (.inl x1), some (.inl x2), some (.inl x3), some (.inl x4), some (.inl x5), some (.inl x6), some (.inl x7), some (.inl x8), z9, z10], [.inl x8, .inr (sm_R M a0 34)], M)) sm_a159_122 rfl rfl rfl ?_
    obtain ⟨b_12, hb_13, h⟩ := h
    rw [hb_13]
    obtain ⟨h_14, h⟩ := h
    obtain ⟨h_15, h⟩ := h
    refine ru_go (t := (125, [some (.inr (some a0)), some (.inl x1), some (.inl x2), some (.inl x3), some (.inl x4), some (.inl x5), some (.inl x6), some (.inl x7), some (.inl x8), z9, z10], [.inl (sm_I M b_12 (x8).toNatClampNeg)], M)) sm_a159_124 rfl rfl (st_iald h_14 h_15) ?_
    refine ru_go (t := (126, [some (.inr (some a0)), some (.inl x1), some (.inl x2), some (.inl x3), some (.inl x4), some (.inl x5), some (.inl x6), some (.inl x7), some (.inl x8), z9, z10], [.inr (some a0), .inl (sm_I M b_12 (x8).toNatClampNeg)], M)) sm_a159_125 rfl rfl rfl ?_
    refine ru_go (t := (129, [some (.inr (some a0)), some (.inl x1), some (.inl x2), some (.inl x3), some (.inl x4), some (.inl x5), some (.inl x6), some (.inl x7), some (.inl x8), z9, z10], [.inl (sm_I M a0 32), .inl (sm_I M b_12 (x8).toNatClampNeg)], M)) sm_a159_126 rfl rfl (st_getI h_1 rfl) ?_
    refine ru_icmp (pc := 129) (p := 137) (p2 := 132) sm_a159_129 (by decide) rfl ⟨fun hc_16 => ?_, fun hc_16 => ?_⟩
    · have h := h.1 hc_16
      refine ru_go (t := (139, [some (.inr (some a0)), some (.inl x1), some (.inl x2), some (.inl x3), some (.inl x4), some (.inl x5), some (.inl x6), some (.inl x7), some (.inl x8), z9, z10], [.inl x7], M)) sm_a159_137 rfl rfl rfl ?_
      refine ru_go (t := (141, [some (.inr (some a0)), some (.inl x1), some (.inl x2), some (.inl x3), some (.inl x4), some (.inl x5), some (.inl x6), some (.inl x7), some (.inl x8), z9, z10], [], M)) sm_a159_139 rfl rfl rfl ?_
      refine ru_go (t := (144, [some (.inr (some a0)), some (.inl x1), some (.inl x2), some (.inl x3), some (.inl x4), some (.inl x5), some (.inl x6), some (.inl x7), some (.inl (x8 + 1)), z9, z10], [], M)) sm_a159_141 rfl rfl (st_iinc rfl (by decide)) ?_
      refine ru_go (t := (109, [some (.inr (some a0)), some (.inl x1), some (.inl x2), some (.inl x3), some (.inl x4), some (.inl x5), some (.inl x6), some (.inl x7), some (.inl (x8 + 1)), z9, z10], [], M)) sm_a159_144 rfl rfl (st_goto (pc := 144) (by decide)) ?_
      exact h
    · have h := h.2 hc_16
      refine ru_go (t := (134, [some (.inr (some a0)), some (.inl x1), some (.inl x2), some (.inl x3), some (.inl x4), some (.inl x5), some (.inl x6), some (.inl x7), some (.inl x8), z9, z10], [.inl x8], M)) sm_a159_132 rfl rfl rfl ?_
      refine ru_go (t := (139, [some (.inr (some a0)), some (.inl x1), some (.inl x2), some (.inl x3), some (.inl x4), some (.inl x5), some (.inl x6), some (.inl x7), some (.inl x8), z9, z10], [.inl x8], M)) sm_a159_134 rfl rfl (st_goto (pc := 134) (by decide)) ?_
      refine ru_go (t := (141, [some (.inr (some a0)), some (.inl x1), some (.inl x2), some (.inl x3), some (.inl x4), some (.inl x5), some (.inl x6), some (.inl x8), some (.inl x8), z9, z10], [], M)) sm_a159_139 rfl rfl rfl ?_
      refine ru_go (t := (144, [some (.inr (some a0)), some (.inl x1), some (.inl x2), some (.inl x3), some (.inl x4), some (.inl x5), some (.inl x6), some (.inl x8), some (.inl (x8 + 1)), z9, z10], [], M)) sm_a159_141 rfl rfl (st_iinc rfl (by decide)) ?_
      refine ru_go (t := (109, [some (.inr (some a0)), some (.inl x1), some (.inl x2), some (.inl x3), some (.inl x4), some (.inl x5), some (.inl x6), some (.inl x8), some (.inl (x8 + 1)), z9, z10], [], M)) sm_a159_144 rfl rfl (st_goto (pc := 144) (by decide)) ?_
      exact h
theorem bb_159_185 {d : Nat} {M : sm_M} {Q : Option sm_V → sm_M → Prop} {a0 : Nat} {x1 : Int32} {x2 : Int32} {x3 : Int32} {x4 : Int32} {x5 : Int32} {x6 : Int32} {x7 : Int32} {x8 : Int32} {x9 : Int32} {x10 : Int32}
    (h : sm_K M a0 = 39 ∧ (((sm_I M a0 33) ≤ x10 → sm_Run d 158 0 (sm_ent 158 [.inr (some a0), .inl x6]) [] M (fun v M1 => sm_Run (d + 1) 159 254 [some (.inr (some a0)), some (.inl x1), some (.inl x2), some (.inl x3), some (.inl x4), some (.inl x5), some (.inl x6), some (.inl x7), some (.inl x8), some (.inl x9), some (.inl x10)] (v.toList ++ []) M1 Q)) ∧ (¬ ((sm_I M a0 33) ≤ x10) → ∃ b_3, sm_R M a0 34 = some b_3 ∧ sm_iA M b_3 ∧ sm_in_ M b_3 (x10 + 1) ∧ sm_wA 1 M b_3 ∧ sm_in_ M b_3 x10 ∧ ∃ b_9, sm_R (sm_putI M b_3 (x10).toNatClampNeg (sm_I M b_3 (x10 + 1).toNatClampNeg)) a0 35 = some b_9 ∧ sm_iA M b_9 ∧ sm_in_ M b_9 (x10 + 1) ∧ sm_wA 1 M b_9 ∧ sm_in_ M b_9 x10 ∧ ∃ b_15, sm_R (sm_putI (sm_putI M b_3 (x10).toNatClampNeg (sm_I M b_3 (x10 + 1).toNatClampNeg)) b_9 (x10).toNatClampNeg (sm_I (sm_putI M b_3 (x10).toNatClampNeg (sm_I M b_3 (x10 + 1).toNatClampNeg)) b_9 (x10 + 1).toNatClampNeg)) a0 36 = some b_15 ∧ sm_iA M b_15 ∧ sm_in_ M b_15 (x10 + 1) ∧ sm_wA 1 M b_15 ∧ sm_in_ M b_15 x10 ∧ sm_Run (d + 1) 159 242 [some (.inr (some a0)), some (.inl x1), some (.inl x2), some (.inl x3), some (.inl x4), some (.inl x5), some (.inl x6), some (.inl x7), some (.inl x8), some (.inl x9), some (.inl x10)] [] (sm_putI (sm_putI (sm_putI M b_3 (x10).toNatClampNeg (sm_I M b_3 (x10 + 1).toNatClampNeg)) b_9 (x10).toNatClampNeg (sm_I (sm_putI M b_3 (x10).toNatClampNeg (sm_I M b_3 (x10 + 1).toNatClampNeg)) b_9 (x10 + 1).toNatClampNeg)) b_15 (x10).toNatClampNeg (sm_I (sm_putI (sm_putI M b_3 (x10).toNatClampNeg (sm_I M b_3 (x10 + 1).toNatClampNeg)) b_9 (x10).toNatClampNeg (sm_I (sm_putI M b_3 (x10).toNatClampNeg (sm_I M b_3 (x10 + 1).toNatClampNeg)) b_9 (x10 + 1).toNatClampNeg)) b_15 (x10 + 1).toNatClampNeg)) Q))) :
    sm_Run (d + 1) 159 185 [some (.inr (some a0)), some (.inl x1), some (.inl x2), some (.inl x3), some (.inl x4), some (.inl x5), some (.inl x6), some (.inl x7), some (.inl x8), some (.inl x9), some (.inl x10)] [] M Q := by
  refine ru_go (t := (187, [some (.inr (some a0)), some (.inl x1), some (.inl x2), some (.inl x3), some (.inl x4), some (.inl x5), some (.inl x6), some (.inl x7), some (.inl x8), some (.inl x9), some (.inl x10)], [.inl x10], M)) sm_a159_185 rfl rfl rfl ?_
  refine ru_go (t := (188, [some (.inr (some a0)), some (.inl x1), some (.inl x2), some (.inl x3), some (.inl x4), some (.inl x5), some (.inl x6), some (.inl x7), some (.inl x8), some (.inl x9), some (.inl x10)], [.inr (some a0), .inl x10], M)) sm_a159_187 rfl rfl rfl ?_
  obtain ⟨h_1, h⟩ := h
  refine ru_go (t := (191, [some (.inr (some a0)), some (.inl x1), some (.inl x2), some (.inl x3), some (.inl x4), some (.inl x5), some (.inl x6), some (.inl x7), some (.inl x8), some (.inl x9), some (.inl x10)], [.inl (sm_I M a0 33), .inl x10], M)) sm_a159_188 rfl rfl (st_getI h_1 rfl) ?_
  refine ru_icmp (pc := 191) (p := 248) (p2 := 194) sm_a159_191 (by decide) rfl ⟨fun hc_2 => ?_, fun hc_2 => ?_⟩
  · have h := h.1 hc_2
    refine ru_go (t := (249, [some (.inr (some a0)), some (.inl x1), some (.inl x2), some (.inl x3), some (.inl x4), some (.inl x5), some (.inl x6), some (.inl x7), some (.inl x8), some (.inl x9), some (.inl x10)], [.inr (some a0)], M)) sm_a159_248 rfl rfl rfl ?_
    refine ru_go (t := (251, [some (.inr (some a0)), some (.inl x1), some (.inl x2), some (.inl x3), some (.inl x4), some (.inl x5), some (.inl x6), some (.inl x7), some (.inl x8), some (.inl x9), some (.inl x10)], [.inl x6, .inr (some a0)], M)) sm_a159_249 rfl rfl rfl ?_
    exact ru_call (p := 254) sm_a159_251 rfl (sc_virt (Or.inl rfl) rfl rfl h_1 (Nat.le_of_ble_eq_true rfl)) rfl h
  · have h := h.2 hc_2
    refine ru_go (t := (195, [some (.inr (some a0)), some (.inl x1), some (.inl x2), some (.inl x3), some (.inl x4), some (.inl x5), some (.inl x6), some (.inl x7), some (.inl x8), some (.inl x9), some (.inl x10)], [.inr (some a0)], M)) sm_a159_194 rfl rfl rfl ?_
    refine ru_go (t := (198, [some (.inr (some a0)), some (.inl x1), some (.inl x2), some (.inl x3), some (.inl x4), some (.inl x5), some (.inl x6), some (.inl x7), some (.inl x8), some (.inl x9), some (.inl x10)], [.inr (sm_R M a0 34)], M)) sm_a159_195 rfl rfl (st_getR h_1 rfl rfl) ?_
    refine ru_go (t := (200, [some (.inr (some a0)), some (.inl x1), some (.inl x2), some (.inl x3), some (.inl x4), some (.inl x5), some (.inl x6), some (.inl x7), some (.inl x8), some (.inl x9), some (.inl x10)], [.inl x10, .inr (sm_R M a0 34)], M)) sm_a159_198 rfl rfl rfl ?_
    refine ru_go (t := (201, [some (.inr (some a0)), some (.inl x1), some (.inl x2), some (.inl x3), some (.inl x4), some (.inl x5), some (.inl x6), some (.inl x7), some (.inl x8), some (.inl x9), some (.inl x10)], [.inr (some a0), .inl x10, .inr (sm_R M a0 34)], M)) sm_a159_200 rfl rfl rfl ?_
    refine ru_go (t := (204, [some (.inr (some a0)), some (.inl x1), some (.inl x2), some (.inl x3), some (.inl x4), some (.inl x5), some (.inl x6), some (.inl x7), some (.inl x8), some (.inl x9), some (.inl x10)], [.inr (sm_R M a0 34), .inl x10, .inr (sm_R M a0 34)], M)) sm_a159_201 rfl rfl (st_getR h_1 rfl rfl) ?_
    refine ru_go (t := (206, [some (.inr (some a0)), some (.inl x1), some (.inl x2), some (.inl x3), some (.inl x4), some (.inl x5), some (.inl x6), some (.inl x7), some (.inl x8), some (.inl x9), some (.inl x10)], [.inl x10, .inr (sm_R M a0 34), .inl x10, .inr (sm_R M a0 34)], M)) sm_a159_204 rfl rfl rfl ?_
    refine ru_go (t := (207, [some (.inr (some a0)), some (.inl x1), some (.inl x2), some (.inl x3), some (.inl x4), some (.inl x5), some (.inl x6), some (.inl x7), some (.inl x8), some (.inl x9), some (.inl x10)], [.inl 1, .inl x10, .inr (sm_R M a0 34), .inl x10, .inr (sm_R M a0 34)], M)) sm_a159_206 rfl rfl (st_iconst (by decide)) ?_
    refine ru_go (t := (208, [some (.inr (some a0)), some (.inl x1), some (.inl x2), some (.inl x3), some (.inl x4), some (.inl x5), some (.inl x6), some (.inl x7), some (.inl x8), some (.inl x9), some (.inl x10)], [.inl (x10 + 1), .inr (sm_R M a0 34), .inl x10, .inr (sm_R M a0 34)], M)) sm_a159_207 rfl rfl rfl ?_
    obtain ⟨b_3, hb_4, h⟩ := h
    rw [hb_4]
    obtain ⟨h_5, h⟩ := h
    obtain ⟨h_6, h⟩ := h
    refine ru_go (t := (209, [some (.inr (some a0)), some (.inl x1), some (.inl x2), some (.inl x3), some (.inl x4), some (.inl x5), some (.inl x6), some (.inl x7), some (.inl x8), some (.inl x9), some (.inl x10)], [.inl (sm_I M b_3 (x10 + 1).toNatClampNeg), .inl x10, .inr (some b_3)], M)) sm_a159_208 rfl rfl (st_iald h_5 h_6) ?_
    obtain ⟨h_7, h⟩ := h
    obtain ⟨h_8, h⟩ := h
    refine ru_go (t := (210, [some (.inr (some a0)), some (.inl x1), some (.inl x2), some (.inl x3), some (.inl x4), some (.inl x5), some (.inl x6), some (.inl x7), some (.inl x8), some (.inl x9), some (.inl x10)], [], sm_putI M b_3 (x10).toNatClampNeg (sm_I M b_3 (x10 + 1).toNatClampNeg))) sm_a159_209 rfl rfl (st_iast h_7 h_8) ?_
    refine ru_go (t := (211, [some (.inr (some a0)), some (.inl x1), some (.inl x2), some (.inl x3), some (.inl x4), some (.inl x5), some (.inl x6), some (.inl x7), some (.inl x8), some (.inl x9), some (.inl x10)], [.inr (some a0)], sm_putI M b_3 (x10).toNatClampNeg (sm_I M b_3 (x10 + 1).toNatClampNeg))) sm_a159_210 rfl rfl rfl ?_
    refine ru_go (t := (214, [some (.inr (some a0)), some (.inl x1), some (.inl x2), some (.inl x3), some (.inl x4), some (.inl x5), some (.inl x6), some (.inl x7), some (.inl x8), some (.inl x9), some (.inl x10)], [.inr (sm_R (sm_putI M b_3 (x10).toNatClampNeg (sm_I M b_3 (x10 + 1).toNatClampNeg)) a0 35)], sm_putI M b_3 (x10).toNatClampNeg (sm_I M b_3 (x10 + 1).toNatClampNeg))) sm_a159_211 rfl rfl (st_getR h_1 rfl rfl) ?_
    refine ru_go (t := (216, [some (.inr (some a0)), some (.inl x1), some (.inl x2), some (.inl x3), some (.inl x4), some (.inl x5), some (.inl x6), some (.inl x7), some (.inl x8), some (.inl x9), some (.inl x10)], [.inl x10, .inr (sm_R (sm_putI M b_3 (x10).toNatClampNeg (sm_I M b_3 (x10 + 1).toNatClampNeg)) a0 35)], sm_putI M b_3 (x10).toNatClampNeg (sm_I M b_3 (x10 + 1).toNatClampNeg))) sm_a159_214 rfl rfl rfl ?_
    refine ru_go (t := (217, [some (.inr (some a0)), some (.inl x1), some (.inl x2), some (.inl x3), some (.inl x4), some (.inl x5), some (.inl x6), some (.inl x7), some (.inl x8), some (.inl x9), some (.inl x10)], [.inr (some a0), .inl x10, .inr (sm_R (sm_putI M b_3 (x10).toNatClampNeg (sm_I M b_3 (x10 + 1).toNatClampNeg)) a0 35)], sm_putI M b_3 (x10).toNatClampNeg (sm_I M b_3 (x10 + 1).toNatClampNeg))) sm_a159_216 rfl rfl rfl ?_
    refine ru_go (t := (220, [some (.inr (some a0)), some (.inl x1), some (.inl x2), some (.inl x3), some (.inl x4), some (.inl x5), some (.inl x6), some (.inl x7), some (.inl x8), some (.inl x9), some (.inl x10)], [.inr (sm_R (sm_putI M b_3 (x10).toNatClampNeg (sm_I M b_3 (x10 + 1).toNatClampNeg)) a0 35), .inl x10, .inr (sm_R (sm_putI M b_3 (x10).toNatClampNeg (sm_I M b_3 (x10 + 1).toNatClampNeg)) a0 35)], sm_putI M b_3 (x10).toNatClampNeg (sm_I M b_3 (x10 + 1).toNatClampNeg))) sm_a159_217 rfl rfl (st_getR h_1 rfl rfl) ?_
    refine ru_go (t := (222, [some (.inr (some a0)), some (.inl x1), some (.inl x2), some (.inl x3), some (.inl x4), some (.inl x5), some (.inl x6), some (.inl x7), some (.inl x8), some (.inl x9), some (.inl x10)], [.inl x10, .inr (sm_R (sm_putI M b_3 (x10).toNatClampNeg (sm_I M b_3 (x10 + 1).toNatClampNeg)) a0 35), .inl x10, .inr (sm_R (sm_putI M b_3 (x10).toNatClampNeg (sm_I M b_3 (x10 + 1).toNatClampNeg)) a0 35)], sm_putI M b_3 (x10).toNatClampNeg (sm_I M b_3 (x10 + 1).toNatClampNeg))) sm_a159_220 rfl rfl rfl ?_
    refine ru_go (t := (223, [some (.inr (some a0)), some (.inl x1), some (.inl x2), some (.inl x3), some (.inl x4), some (.inl x5), some (.inl x6), some (.inl x7), some (.inl x8), some (.inl x9), some (.inl x10)], [.inl 1, .inl x10, .inr (sm_R (sm_putI M b_3 (x10).toNatClampNeg (sm_I M b_3 (x10 + 1).toNatClampNeg)) a0 35), .inl x10, .inr (sm_R (sm_putI M b_3 (x10).toNatClampNeg (sm_I M b_3 (x10 + 1).toNatClampNeg)) a0 35)], sm_putI M b_3 (x10).toNatClampNeg (sm_I M b_3 (x10 + 1).toNatClampNeg))) sm_a159_222 rfl rfl (st_iconst (by decide)) ?_
    refine ru_go (t := (224, [some (.inr (some a0)), some (.inl x1), some (.inl x2), some (.inl x3), some (.inl x4), some (.inl x5), some (.inl x6), some (.inl x7), some (.inl x8), some (.inl x9), some (.inl x10)], [.inl (x10 + 1), .inr (sm_R (sm_putI M b_3 (x10).toNatClampNeg (sm_I M b_3 (x10 + 1).toNatClampNeg)) a0 35), .inl x10, .inr (sm_R (sm_putI M b_3 (x10).toNatClampNeg (sm_I M b_3 (x10 + 1).toNatClampNeg)) a0 35)], sm_putI M b_3 (x10).toNatClampNeg (sm_I M b_3 (x10 + 1).toNatClampNeg))) sm_a159_223 rfl rfl rfl ?_
    obtain ⟨b_9, hb_10, h⟩ := h
    rw [hb_10]
    obtain ⟨h_11, h⟩ := h
    obtain ⟨h_12, h⟩ := h
    refine ru_go (t := (225, [some (.inr (some a0)), some (.inl x1), some (.inl x2), some (.inl x3), some (.inl x4), some (.inl x5), some (.inl x6), some (.inl x7), some (.inl x8), some (.inl x9), some (.inl x10)], [.inl (sm_I (sm_putI M b_3 (x10).toNatClampNeg (sm_I M b_3 (x10 + 1).toNatClampNeg)) b_9 (x10 + 1).toNatClampNeg), .inl x10, .inr (some b_9)], sm_putI M b_3 (x10).toNatClampNeg (sm_I M b_3 (x10 + 1).toNatClampNeg))) sm_a159_224 rfl rfl (st_iald h_11 h_12) ?_
    obtain ⟨h_13, h⟩ := h
    obtain ⟨h_14, h⟩ := h
    refine ru_go (t := (226, [some (.inr (some a0)), some (.inl x1), some (.inl x2), some (.inl x3), some (.inl x4), some (.inl x5), some (.inl x6), some (.inl x7), some (.inl x8), some (.inl x9), some (.inl x10)], [], sm_putI (sm_putI M b_3 (x10).toNatClampNeg (sm_I M b_3 (x10 + 1).toNatClampNeg)) b_9 (x10).toNatClampNeg (sm_I (sm_putI M b_3 (x10).toNatClampNeg (sm_I M b_3 (x10 + 1).toNatClampNeg)) b_9 (x10 + 1).toNatClampNeg))) sm_a159_225 rfl rfl (st_iast h_13 h_14) ?_
    refine ru_go (t := (227, [some (.inr (some a0)), some (.inl x1), some (.inl x2), some (.inl x3), some (.inl x4), some (.inl x5), some (.inl x6), some (.inl x7), some (.inl x8), some (.inl x9), some (.inl x10)], [.inr (some a0)], sm_putI (sm_putI M b_3 (x10).toNatClampNeg (sm_I M b_3 (x10 + 1).toNatClampNeg)) b_9 (x10).toNatClampNeg (sm_I (sm_putI M b_3 (x10).toNatClampNeg (sm_I M b_3 (x10 + 1).toNatClampNeg)) b_9 (x10 + 1).toNatClampNeg))) sm_a159_226 rfl rfl rfl ?_
    refine ru_go (t := (230, [some (.inr (some a0)), some (.inl x1), some (.inl x2), some (.inl x3), some (.inl x4), some (.inl x5), some (.inl x6), some (.inl x7), some (.inl x8), some (.inl x9), some (.inl x10)], [.inr (sm_R (sm_putI (sm_putI M b_3 (x10).toNatClampNeg (sm_I M b_3 (x10 + 1).toNatClampNeg)) b_9 (x10).toNatClampNeg (sm_I (sm_putI M b_3 (x10).toNatClampNeg (sm_I M b_3 (x10 + 1).toNatClampNeg)) b_9 (x10 + 1).toNatClampNeg)) a0 36)], sm_putI (sm_putI M b_3 (x10).toNatClampNeg (sm_I M b_3 (x10 + 1).toNatClampNeg)) b_9 (x10).toNatClampNeg (sm_I (sm_putI M b_3 (x10).toNatClampNeg (sm_I M b_3 (x10 + 1).toNatClampNeg)) b_9 (x10 + 1).toNatClampNeg))) sm_a159_227 rfl rfl (st_getR h_1 rfl rfl) ?_
    refine ru_go (t := (232, [some (.inr (some a0)), some (.inl x1), some (.inl x2), some (.inl x3), some (.inl x4), some (.inl x5), some (.inl x6), some (.inl x7), some (.inl x8), some (.inl x9), some (.inl x10)], [.inl x10, .inr (sm_R (sm_putI (sm_putI M b_3 (x10).toNatClampNeg (sm_I M b_3 (x10 + 1).toNatClampNeg)) b_9 (x10).toNatClampNeg (sm_I (sm_putI M b_3 (x10).toNatClampNeg (sm_I M b_3 (x10 + 1).toNatClampNeg)) b_9 (x10 + 1).toNatClampNeg)) a0 36)], sm_putI (sm_putI M b_3 (x10).toNatClampNeg (sm_I M b_3 (x10 + 1).toNatClampNeg)) b_9 (x10).toNatClampNeg (sm_I (sm_putI M b_3 (x10).toNatClampNeg (sm_I M b_3 (x10 + 1).toNatClampNeg)) b_9 (x10 + 1).toNatClampNeg))) sm_a159_230 rfl rfl rfl ?_
    refine ru_go (t := (233, [some (.inr (some a0)), some (.inl x1), some (.inl x2), some (.inl x3), some (.inl x4), some (.inl x5), some (.inl x6), some (.inl x7), some (.inl x8), some (.inl x9), some (.inl x10)], [.inr (some a0), .inl x10, .inr (sm_R (sm_putI (sm_putI M b_3 (x10).toNatClampNeg (sm_I M b_3 (x10 + 1).toNatClampNeg)) b_9 (x10).toNatClampNeg (sm_I (sm_putI M b_3 (x10).toNatClampNeg (sm_I M b_3 (x10 + 1).toNatClampNeg)) b_9 (x10 + 1).toNatClampNeg)) a0 36)], sm_putI (sm_putI M b_3 (x10).toNatClampNeg (sm_I M b_3 (x10 + 1).toNatClampNeg)) b_9 (x10).toNatClampNeg (sm_I (sm_putI M b_3 (x10).toNatClampNeg (sm_I M b_3 (x10 + 1).toNatClampNeg)) b_9 (x10 + 1).toNatClampNeg))) sm_a159_232 rfl rfl rfl ?_
    refine ru_go (t := (236, [some (.inr (some a0)), some (.inl x1), some (.inl x2), some (.inl x3), some (.inl x4), some (.inl x5), some (.inl x6), some (.inl x7), some (.inl x8), some (.inl x9), some (.inl x10)], [.inr (sm_R (sm_putI (sm_putI M b_3 (x10).toNatClampNeg (sm_I M b_3 (x10 + 1).toNatClampNeg)) b_9 (x10).toNatClampNeg (sm_I (sm_putI M b_3 (x10).toNatClampNeg (sm_I M b_3 (x10 + 1).toNatClampNeg)) b_9 (x10 + 1).toNatClampNeg)) a0 36), .inl x10, .inr (sm_R (sm_putI (sm_putI M b_3 (x10).toNatClampNeg (sm_I M b_3 (x10 + 1).toNatClampNeg)) b_9 (x10).toNatClampNeg (sm_I (sm_putI M b_3 (x10).toNatClampNeg (sm_I M b_3 (x10 + 1).toNatClampNeg)) b_9 (x10 + 1).toNatClampNeg)) a0 36)], sm_putI (sm_putI M b_3 (x10).toNatClampNeg (sm_I M b_3 (x10 + 1).toNatClampNeg)) b_9 (x10).toNatClampNeg (sm_I (sm_putI M b_3 (x10).toNatClampNeg (sm_I M b_3 (x10 + 1).toNatClampNeg)) b_9 (x10 + 1).toNatClampNeg))) sm_a159_233 rfl rfl (st_getR h_1 rfl rfl) ?_
    refine ru_go (t := (238, [some (.inr (some a0)), some (.inl x1), some (.inl x2), some (.inl x3), some (.inl x4), some (.inl x5), some (.inl x6), some (.inl x7), some (.inl x8), some (.inl x9), some (.inl x10)], [.inl x10, .inr (sm_R (sm_putI (sm_putI M b_3 (x10).toNatClampNeg (sm_I M b_3 (x10 + 1).toNatClampNeg)) b_9 (x10).toNatClampNeg (sm_I (sm_putI M b_3 (x10).toNatClampNeg (sm_I M b_3 (x10 + 1).toNatClampNeg)) b_9 (x10 + 1).toNatClampNeg)) a0 36), .inl x10, .inr (sm_R (sm_putI (sm_putI M b_3 (x10).toNatClampNeg (sm_I M b_3 (x10 + 1).toNatClampNeg)) b_9 (x10).toNatClampNeg (sm_I (sm_putI M b_3 (x10).toNatClampNeg (sm_I M b_3 (x10 + 1).toNatClampNeg)) b_9 (x10 + 1).toNatClampNeg)) a0 36)], sm_putI (sm_putI M b_3 (x10).toNatClampNeg (sm_I M b_3 (x10 + 1).toNatClampNeg)) b_9 (x10).toNatClampNeg (sm_I (sm_putI M b_3 (x10).toNatClampNeg (sm_I M b_3 (x10 + 1).toNatClampNeg)) b_9 (x10 + 1).toNatClampNeg))) sm_a159_236 rfl rfl rfl ?_
    refine ru_go (t := (239, [some (.inr (some a0)), some (.inl x1), some (.inl x2), some (.inl x3), some (.inl x4), some (.inl x5), some (.inl x6), some (.inl x7), some (.inl x8), some (.inl x9), some (.inl x10)], [.inl 1, .inl x10, .inr (sm_R (sm_putI (sm_putI M b_3 (x10).toNatClampNeg (sm_I M b_3 (x10 + 1).toNatClampNeg)) b_9 (x10).toNatClampNeg (sm_I (sm_putI M b_3 (x10).toNatClampNeg (sm_I M b_3 (x10 + 1).toNatClampNeg)) b_9 (x10 + 1).toNatClampNeg)) a0 36), .inl x10, .inr (sm_R (sm_putI (sm_putI M b_3 (x10).toNatClampNeg (sm_I M b_3 (x10 + 1).toNatClampNeg)) b_9 (x10).toNatClampNeg (sm_I (sm_putI M b_3 (x10).toNatClampNeg (sm_I M b_3 (x10 + 1).toNatClampNeg)) b_9 (x10 + 1).toNatClampNeg)) a0 36)], sm_putI (sm_putI M b_3 (x10).toNatClampNeg (sm_I M b_3 (x10 + 1).toNatClampNeg)) b_9 (x10).toNatClampNeg (sm_I (sm_putI M b_3 (x10).toNatClampNeg (sm_I M b_3 (x10 + 1).toNatClampNeg)) b_9 (x10 + 1).toNatClampNeg))) sm_a159_238 rfl rfl (st_iconst (by decide)) ?_
    refine ru_go (t := (240, [some (.inr (some a0)), some (.inl x1), some (.inl x2), some (.inl x3), some (.inl x4), some (.inl x5), some (.inl x6), some (.inl x7), some (.inl x8), some (.inl x9), some (.inl x10)], [.inl (x10 + 1), .inr (sm_R (sm_putI (sm_putI M b_3 (x10).toNatClampNeg (sm_I M b_3 (x10 + 1).toNatClampNeg)) b_9 (x10).toNatClampNeg (sm_I (sm_putI M b_3 (x10).toNatClampNeg (sm_I M b_3 (x10 + 1).toNatClampNeg)) b_9 (x10 + 1).toNatClampNeg)) a0 36), .inl x10, .inr (sm_R (sm_putI (sm_putI M b_3 (x10).toNatClampNeg (sm_I M b_3 (x10 + 1).toNatClampNeg)) b_9 (x10).toNatClampNeg (sm_I (sm_putI M b_3 (x10).toNatClampNeg (sm_I M b_3 (x10 + 1).toNatClampNeg)) b_9 (x10 + 1).toNatClampNeg)) a0 36)], sm_putI (sm_putI M b_3 (x10).toNatClampNeg (sm_I M b_3 (x10 + 1).toNatClampNeg)) b_9 (x10).toNatClampNeg (sm_I (sm_putI M b_3 (x10).toNatClampNeg (sm_I M b_3 (x10 + 1).toNatClampNeg)) b_9 (x10 + 1).toNatClampNeg))) sm_a159_239 rfl rfl rfl ?_
    obtain ⟨b_15, hb_16, h⟩ := h
    rw [hb_16]
    obtain ⟨h_17, h⟩ := h
    obtain ⟨h_18, h⟩ := h
    refine ru_go (t := (241, [some (.inr (some a0)), some (.inl x1), some (.inl x2), some (.inl x3), some (.inl x4), some (.inl x5), some (.inl x6), some (.inl x7), some (.inl x8), some (.inl x9), some (.inl x10)], [.inl (sm_I (sm_putI (sm_putI M b_3 (x10).toNatClampNeg (sm_I M b_3 (x10 + 1).toNatClampNeg)) b_9 (x10).toNatClampNeg (sm_I (sm_putI M b_3 (x10).toNatClampNeg (sm_I M b_3 (x10 + 1).toNatClampNeg)) b_9 (x10 + 1).toNatClampNeg)) b_15 (x10 + 1).toNatClampNeg), .inl x10, .inr (some b_15)], sm_putI (sm_putI M b_3 (x10).toNatClampNeg (sm_I M b_3 (x10 + 1).toNatClampNeg)) b_9 (x10).toNatClampNeg (sm_I (sm_putI M b_3 (x10).toNatClampNeg (sm_I M b_3 (x10 + 1).toNatClampNeg)) b_9 (x10 + 1).toNatClampNeg))) sm_a159_240 rfl rfl (st_iald h_17 h_18) ?_
    obtain ⟨h_19, h⟩ := h
    obtain ⟨h_20, h⟩ := h
    refine ru_go (t := (242, [some (.inr (some a0)), some (.inl x1), some (.inl x2), some (.inl x3), some (.inl x4), some (.inl x5), some (.inl x6), some (.inl x7), some (.inl x8), some (.inl x9), some (.inl x10)], [], sm_putI (sm_putI (sm_putI M b_3 (x10).toNatClampNeg (sm_I M b_3 (x10 + 1).toNatClampNeg)) b_9 (x10).toNatClampNeg (sm_I (sm_putI M b_3 (x10).toNatClampNeg (sm_I M b_3 (x10 + 1).toNatClampNeg)) b_9 (x10 + 1).toNatClampNeg)) b_15 (x10).toNatClampNeg (sm_I (sm_putI (sm_putI M b_3 (x10).toNatClampNeg (sm_I M b_3 (x10 + 1).toNatClampNeg)) b_9 (x10).toNatClampNeg (sm_I (sm_putI M b_3 (x10).toNatClampNeg (sm_I M b_3 (x10 + 1).toNatClampNeg)) b_9 (x10 + 1).toNatClampNeg)) b_15 (x10 + 1).toNatClampNeg))) sm_a159_241 rfl rfl (st_iast h_19 h_20) ?_
    exact h
theorem bb_159_242 {d : Nat} {M : sm_M} {Q : Option sm_V → sm_M → Prop} {a0 : Nat} {x1 : Int32} {x2 : Int32} {x3 : Int32} {x4 : Int32} {x5 : Int32} {x6 : Int32} {x7 : Int32} {x8 : Int32} {x9 : Int32} {x10 : Int32}
    (h : sm_Run (d + 1) 159 185 [some (.inr (some a0)), some (.inl x1), some (.inl x2), some (.inl x3), some (.inl x4), some (.inl x5), some (.inl x6), some (.inl x7), some (.inl x8), some (.inl x9), some (.inl (x10 + 1))] [] M Q) :
    sm_Run (d + 1) 159 242 [some (.inr (some a0)), some (.inl x1), some (.inl x2), some (.inl x3), some (.inl x4), some (.inl x5), some (.inl x6), some (.inl x7), some (.inl x8), some (.inl x9), some (.inl x10)] [] M Q := by
  refine ru_go (t := (245, [some (.inr (some a0)), some (.inl x1), some (.inl x2), some (.inl x3), some (.inl x4), some (.inl x5), some (.inl x6), some (.inl x7), some (.inl x8), some (.inl x9), some (.inl (x10 + 1))], [], M)) sm_a159_242 rfl rfl (st_iinc rfl (by decide)) ?_
  refine ru_go (t := (185, [some (.inr (some a0)), some (.inl x1), some (.inl x2), some (.inl x3), some (.inl x4), some (.inl x5), some (.inl x6), some (.inl x7), some (.inl x8), some (.inl x9), some (.inl (x10 + 1))], [], M)) sm_a159_245 rfl rfl (st_goto (pc := 245) (by decide)) ?_
  exact h
theorem bb_159_254 {d : Nat} {M : sm_M} {Q : Option sm_V → sm_M → Prop} {a0 : Nat} {x1 : Int32} {x2 : Int32} {x3 : Int32} {x4 : Int32} {x5 : Int32} {x6 : Int32} {x7 : Int32} {x8 : Int32} {x9 : Int32} {x10 : Int32}
    (h : ((¬ x8 = 0 → sm_K M a0 = 39 ∧ (((sm_I M a0 46) ≤ x9 → sm_Run (d + 1) 159 321 [some (.inr (some a0)), some (.inl x1), some (.inl x2), some (.inl x3), some (.inl x4), some (.inl x5), some (.inl x6), some (.inl x7), some (.inl x8), some (.inl x9), some (.inl x10)] [] M Q) ∧ (¬ ((sm_I M a0 46) ≤ x9) → ∃ b_4, sm_R M a0 47 = some b_4 ∧ sm_iA M b_4 ∧ sm_in_ M b_4 x9 ∧ (((sm_I M b_4 (x9).toNatClampNeg) = (x8 - 1) → sm_Run (d + 1) 159 321 [some (.inr (some a0)), some (.inl x1), some (.inl x2), some (.inl x3), some (.inl x4), some (.inl x5), some (.inl x6), some (.inl x7), some (.inl x8), some (.inl x9), some (.inl x10)] [] M Q) ∧ (¬ ((sm_I M b_4 (x9).toNatClampNeg) = (x8 - 1)) → ∃ b_9, sm_R M a0 43 = some b_9 ∧ sm_wA 1 M b_9 ∧ sm_in_ M b_9 x6 ∧ ∃ b_13, sm_R (sm_putI M b_9 (x6).toNatClampNeg 2) a0 44 = some b_13 ∧ sm_wA 1 M b_13 ∧ sm_in_ M b_13 x6 ∧ ∃ b_17, sm_R (sm_putI (sm_putI M b_9 (x6).toNatClampNeg 2) b_13 (x6).toNatClampNeg x9) a0 45 = some b_17 ∧ sm_wA 1 M b_17 ∧ sm_in_ M b_17 x6 ∧ sm_Run (d + 1) 159 321 [some (.inr (some a0)), some (.inl x1), some (.inl x2), some (.inl x3), some (.inl x4), some (.inl x5), some (.inl x6), some (.inl x7), some (.inl x8), some (.inl x9), some (.inl x10)] [] (sm_putI (sm_putI (sm_putI M b_9 (x6).toNatClampNeg 2) b_13 (x6).toNatClampNeg x9) b_17 (x6).toNatClampNeg (x8 - 1)) Q))))) ∧ (¬ (¬ x8 = 0) → sm_K M a0 = 39 ∧ ∃ b_22, sm_R M a0 43 = some b_22 ∧ sm_wA 1 M b_22 ∧ sm_in_ M b_22 x6 ∧ sm_Run (d + 1) 159 321 [some (.inr (some a0)), some (.inl x1), some (.inl x2), some (.inl x3), some (.inl x4), some (.inl x5), some (.inl x6), some (.inl x7), some (.inl x8), some (.inl x9), some (.inl x10)] [] (sm_putI M b_22 (x6).toNatClampNeg 1) Q))) :
    sm_Run (d + 1) 159 254 [some (.inr (some a0)), some (.inl x1), some (.inl x2), some (.inl x3), some (.inl x4), some (.inl x5), some (.inl x6), some (.inl x7), some (.inl x8), some (.inl x9), some (.inl x10)] [] M Q := by
  refine ru_go (t := (256, [some (.inr (some a0)), some (.inl x1), some (.inl x2), some (.inl x3), some (.inl x4), some (.inl x5), some (.inl x6), some (.inl x7), some (.inl x8), some (.inl x9), some (.inl x10)], [.inl x8], M)) sm_a159_254 rfl rfl rfl ?_
  refine ru_if (pc := 256) (p := 270) (p2 := 259) sm_a159_256 (by decide) rfl ⟨fun hc_1 => ?_, fun hc_1 => ?_⟩
  · have h := h.1 hc_1
    refine ru_go (t := (272, [some (.inr (some a0)), some (.inl x1), some (.inl x2), some (.inl x3), some (.inl x4), some (.inl x5), some (.inl x6), some (.inl x7), some (.inl x8), some (.inl x9), some (.inl x10)], [.inl x9], M)) sm_a159_270 rfl rfl rfl ?_
    refine ru_go (t := (273, [some (.inr (some a0)), some (.inl x1), some (.inl x2), some (.inl x3), some (.inl x4), some (.inl x5), some (.inl x6), some (.inl x7), some (.inl x8), some (.inl x9), some (.inl x10)], [.inr (some a0), .inl x9], M)) sm_a159_272 rfl rfl rfl ?_
    obtain ⟨h_2, h⟩ := h
    refine ru_go (t := (276, [some (.inr (some a0)), some (.inl x1), some (.inl x2), some (.inl x3), some (.inl x4), some (.inl x5), some (.inl x6), some (.inl x7), some (.inl x8), some (.inl x9), some (.inl x10)], [.inl (sm_I M a0 46), .inl x9], M)) sm_a159_273 rfl rfl (st_getI h_2 rfl) ?_
    refine ru_icmp (pc := 276) (p := 321) (p2 := 279) sm_a159_276 (by decide) rfl ⟨fun hc_3 => ?_, fun hc_3 => ?_⟩
    · have h := h.1 hc_3
      exact h
    · have h := h.2 hc_3
      refine ru_go (t := (280, [some (.inr (some a0)), some (.inl x1), some (.inl x2), some (.inl x3), some (.inl x4), some (.inl x5), some (.inl x6), some (.inl x7), some (.inl x8), some (.inl x9), some (.inl x10)], [.inr (some a0)], M)) sm_a159_279 rfl rfl rfl ?_
      refine ru_go (t := (283, [some (.inr (some a0)), some (.inl x1), some (.inl x2), some (.inl x3), some (.inl x4), some (.inl x5), some (.inl x6), some (.inl x7), some (.inl x8), some (.inl x9), some (.inl x10)], [.inr (sm_R M a0 47)], M)) sm_a159_280 rfl rfl (st_getR h_2 rfl rfl) ?_
      refine ru_go (t := (285, [some (.inr (some a0)), some (.inl x1), some (.inl x2), some (.inl x3), some (.inl x4), some (.inl x5), some (.inl x6), some (.inl x7), some (.inl x8), some (.inl x9), some (.inl x10)], [.inl x9, .inr (sm_R M a0 47)], M)) sm_a159_283 rfl rfl rfl ?_
      obtain ⟨b_4, hb_5, h⟩ := h
      rw [hb_5]
      obtain ⟨h_6, h⟩ := h
      obtain ⟨h_7, h⟩ := h
      refine ru_go (t := (286, [some (.inr (some a0)), some (.inl x1), some (.inl x2), some (.inl x3), some (.inl x4), some (.inl x5), some (.inl x6), some (.inl x7), some (.inl x8), some (.inl x9), some (.inl x10)], [.inl (sm_I M b_4 (x9).toNatClampNeg)], M)) sm_a159_285 rfl rfl (st_iald h_6 h_7) ?_
      refine ru_go (t := (288, [some (.inr (some a0)), some (.inl x1), some (.inl x2), some (.inl x3), some (.inl x4), some (.inl x5), some (.inl x6), some (.inl x7), some (.inl x8), some (.inl x9), some (.inl x10)], [.inl x8, .inl (sm_I M b_4 (x9).toNatClampNeg)], M)) sm_a159_286 rfl rfl rfl ?_
      refine ru_go (t := (289, [some (.inr (some a0)), some (.inl x1), some (.inl x2), some (.inl x3), some (.inl x4), some (.inl x5), some (.inl x6), some (.inl x7), some (.inl x8), some (.inl x9), some (.inl x10)], [.inl 1, .inl x8, .inl (sm_I M b_4 (x9).toNatClampNeg)], M)) sm_a159_288 rfl rfl (st_iconst (by decide)) ?_
      refine ru_go (t := (290, [some (.inr (some a0)), some (.inl x1), some (.inl x2), some (.inl x3), some (.inl x4), some (.inl x5), some (.inl x6), some (.inl x7), some (.inl x8), some (.inl x9), some (.inl x10)], [.inl (x8 - 1), .inl (sm_I M b_4 (x9).toNatClampNeg)], M)) sm_a159_289 rfl rfl rfl ?_
      refine ru_icmp (pc := 290) (p := 321) (p2 := 293) sm_a159_290 (by decide) rfl ⟨fun hc_8 => ?_, fun hc_8 => ?_⟩
      · have h := h.1 hc_8
        exact h
      · have h := h.2 hc_8
        refine ru_go (t := (294, [some (.inr (some a0)), some (.inl x1), some (.inl x2), some (.inl x3), some (.inl x4), some (.inl x5), some (.inl x6), some (.inl x7), some (.inl x8), some (.inl x9), some (.inl x10)], [.inr (some a0)], M)) sm_a159_293 rfl rfl rfl ?_
        refine ru_go (t := (297, [some (.inr (some a0)), some (.inl x1), some (.inl x2), some (.inl x3), some (.inl x4), some (.inl x5), some (.inl x6), some (.inl x7), some (.inl x8), some (.inl x9), some (.inl x10)], [.inr (sm_R M a0 43)], M)) sm_a159_294 rfl rfl (st_getR h_2 rfl rfl) ?_
        refine ru_go (t := (299, [some (.inr (some a0)), some (.inl x1), some (.inl x2), some (.inl x3), some (.inl x4), some (.inl x5), some (.inl x6), some (.inl x7), some (.inl x8), some (.inl x9), some (.inl x10)], [.inl x6, .inr (sm_R M a0 43)], M)) sm_a159_297 rfl rfl rfl ?_
        refine ru_go (t := (300, [some (.inr (some a0)), some (.inl x1), some (.inl x2), some (.inl x3), some (.inl x4), some (.inl x5), some (.inl x6), some (.inl x7), some (.inl x8), some (.inl x9), some (.inl x10)], [.inl 2, .inl x6, .inr (sm_R M a0 43)], M)) sm_a159_299 rfl rfl (st_iconst (by decide)) ?_
        obtain ⟨b_9, hb_10, h⟩ := h
        rw [hb_10]
        obtain ⟨h_11, h⟩ := h
        obtain ⟨h_12, h⟩ := h
        refine ru_go (t := (301, [some (.inr (some a0)), some (.inl x1), some (.inl x2), some (.inl x3), some (.inl x4), some (.inl x5), some (.inl x6), some (.inl x7), some (.inl x8), some (.inl x9), some (.inl x10)], [], sm_putI M b_9 (x6).toNatClampNeg 2)) sm_a159_300 rfl rfl (st_iast h_11 h_12) ?_
        refine ru_go (t := (302, [some (.inr (some a0)), some (.inl x1), some (.inl x2), some (.inl x3), some (.inl x4), some (.inl x5), some (.inl x6), some (.inl x7), some (.inl x8), some (.inl x9), some (.inl x10)], [.inr (some a0)], sm_putI M b_9 (x6).toNatClampNeg 2)) sm_a159_301 rfl rfl rfl ?_
        refine ru_go (t := (305, [some (.inr (some a0)), some (.inl x1), some (.inl x2), some (.inl x3), some (.inl x4), some (.inl x5), some (.inl x6), some (.inl x7), some (.inl x8), some (.inl x9), some (.inl x10)], [.inr (sm_R (sm_putI M b_9 (x6).toNatClampNeg 2) a0 44)], sm_putI M b_9 (x6).toNatClampNeg 2)) sm_a159_302 rfl rfl (st_getR h_2 rfl rfl) ?_
        refine ru_go (t := (307, [some (.inr (some a0)), some (.inl x1), some (.inl x2), some (.inl x3), some (.inl x4), some (.inl x5), some (.inl x6), some (.inl x7), some (.inl x8), some (.inl x9), some (.inl x10)], [.inl x6, .inr (sm_R (sm_putI M b_9 (x6).toNatClampNeg 2) a0 44)], sm_putI M b_9 (x6).toNatClampNeg 2)) sm_a159_305 rfl rfl rfl ?_
        refine ru_go (t := (309, [some (.inr (some a0)), some (.inl x1), some (.inl x2), some (.inl x3), some (.inl x4), some (.inl x5), some (.inl x6), some (.inl x7), some (.inl x8), some (.inl x9), some (.inl x10)], [.inl x9, .inl x6, .inr (sm_R (sm_putI M b_9 (x6).toNatClampNeg 2) a0 44)], sm_putI M b_9 (x6).toNatClampNeg 2)) sm_a159_307 rfl rfl rfl ?_
        obtain ⟨b_13, hb_14, h⟩ := h
        rw [hb_14]
        obtain ⟨h_15, h⟩ := h
        obtain ⟨h_16, h⟩ := h
        refine ru_go (t := (310, [some (.inr (some a0)), some (.inl x1), some (.inl x2), some (.inl x3), some (.inl x4), some (.inl x5), some (.inl x6), some (.inl x7), some (.inl x8), some (.inl x9), some (.inl x10)], [], sm_putI (sm_putI M b_9 (x6).toNatClampNeg 2) b_13 (x6).toNatClampNeg x9)) sm_a159_309 rfl rfl (st_iast h_15 h_16) ?_
        refine ru_go (t := (311, [some (.inr (some a0)), some (.inl x1), some (.inl x2), some (.inl x3), some (.inl x4), some (.inl x5), some (.inl x6), some (.inl x7), some (.inl x8), some (.inl x9), some (.inl x10)], [.inr (some a0)], sm_putI (sm_putI M b_9 (x6).toNatClampNeg 2) b_13 (x6).toNatClampNeg x9)) sm_a159_310 rfl rfl rfl ?_
        refine ru_go (t := (314, [some (.inr (some a0)), some (.inl x1), some (.inl x2), some (.inl x3), some (.inl x4), some (.inl x5), some (.inl x6), some (.inl x7), some (.inl x8), some (.inl x9), some (.inl x10)], [.inr (sm_R (sm_putI (sm_putI M b_9 (x6).toNatClampNeg 2) b_13 (x6).toNatClampNeg x9) a0 45)], sm_putI (sm_putI M b_9 (x6).toNatClampNeg 2) b_13 (x6).toNatClampNeg x9)) sm_a159_311 rfl rfl (st_getR h_2 rfl rfl) ?_
        refine ru_go (t := (316, [some (.inr (some a0)), some (.inl x1), some (.inl x2), some (.inl x3), some (.inl x4), some (.inl x5), some (.inl x6), some (.inl x7), some (.inl x8), some (.inl x9), some (.inl x10)], [.inl x6, .inr (sm_R (sm_putI (sm_putI M b_9 (x6).toNatClampNeg 2) b_13 (x6).toNatClampNeg x9) a0 45)], sm_putI (sm_putI M b_9 (x6).toNatClampNeg 2) b_13 (x6).toNatClampNeg x9)) sm_a159_314 rfl rfl rfl ?_
        refine ru_go (t := (318, [some (.inr (some a0)), some (.inl x1), some (.inl x2), some (.inl x3), some (.inl x4), some (.inl x5), some (.inl x6), some (.inl x7), some (.inl x8), some (.inl x9), some (.inl x10)], [.inl x8, .inl x6, .inr (sm_R (sm_putI (sm_putI M b_9 (x6).toNatClampNeg 2) b_13 (x6).toNatClampNeg x9) a0 45)], sm_putI (sm_putI M b_9 (x6).toNatClampNeg 2) b_13 (x6).toNatClampNeg x9)) sm_a159_316 rfl rfl rfl ?_
        refine ru_go (t := (319, [some (.inr (some a0)), some (.inl x1), some (.inl x2), some (.inl x3), some (.inl x4), some (.inl x5), some (.inl x6), some (.inl x7), some (.inl x8), some (.inl x9), some (.inl x10)], [.inl 1, .inl x8, .inl x6, .inr (sm_R (sm_putI (sm_putI M b_9 (x6).toNatClampNeg 2) b_13 (x6).toNatClampNeg x9) a0 45)], sm_putI (sm_putI M b_9 (x6).toNatClampNeg 2) b_13 (x6).toNatClampNeg x9)) sm_a159_318 rfl rfl (st_iconst (by decide)) ?_
        refine ru_go (t := (320, [some (.inr (some a0)), some (.inl x1), some (.inl x2), some (.inl x3), some (.inl x4), some (.inl x5), some (.inl x6), some (.inl x7), some (.inl x8), some (.inl x9), some (.inl x10)], [.inl (x8 - 1), .inl x6, .inr (sm_R (sm_putI (sm_putI M b_9 (x6).toNatClampNeg 2) b_13 (x6).toNatClampNeg x9) a0 45)], sm_putI (sm_putI M b_9 (x6).toNatClampNeg 2) b_13 (x6).toNatClampNeg x9)) sm_a159_319 rfl rfl rfl ?_
        obtain ⟨b_17, hb_18, h⟩ := h
        rw [hb_18]
        obtain ⟨h_19, h⟩ := h
        obtain ⟨h_20, h⟩ := h
        refine ru_go (t := (321, [some (.inr (some a0)), some (.inl x1), some (.inl x2), some (.inl x3), some (.inl x4), some (.inl x5), some (.inl x6), some (.inl x7), some (.inl x8), some (.inl x9), some (.inl x10)], [], sm_putI (sm_putI (sm_putI M b_9 (x6).toNatClampNeg 2) b_13 (x6).toNatClampNeg x9) b_17 (x6).toNatClampNeg (x8 - 1))) sm_a159_320 rfl rfl (st_iast h_19 h_20) ?_
        exact h
  · have h := h.2 hc_1
    refine ru_go (t := (260, [some (.inr (some a0)), some (.inl x1), some (.inl x2), some (.inl x3), some (.inl x4), some (.inl x5), some (.inl x6), some (.inl x7), some (.inl x8), some (.inl x9), some (.inl x10)], [.inr (some a0)], M)) sm_a159_259 rfl rfl rfl ?_
    obtain ⟨h_21, h⟩ := h
    refine ru_go (t := (263, [some (.inr (some a0)), some (.inl x1), some (.inl x2), some (.inl x3), some (.inl x4), some (.inl x5), some (.inl x6), some (.inl x7), some (.inl x8), some (.inl x9), some (.inl x10)], [.inr (sm_R M a0 43)], M)) sm_a159_260 rfl rfl (st_getR h_21 rfl rfl) ?_
    refine ru_go (t := (265, [some (.inr (some a0)), some (.inl x1), some (.inl x2), some (.inl x3), some (.inl x4), some (.inl x5), some (.inl x6), some (.inl x7), some (.inl x8), some (.inl x9), some (.inl x10)], [.inl x6, .inr (sm_R M a0 43)], M)) sm_a159_263 rfl rfl rfl ?_
    refine ru_go (t := (266, [some (.inr (some a0)), some (.inl x1), some (.inl x2), some (.inl x3), some (.inl x4), some (.inl x5), some (.inl x6), some (.inl x7), some (.inl x8), some (.inl x9), some (.inl x10)], [.inl 1, .inl x6, .inr (sm_R M a0 43)], M)) sm_a159_265 rfl rfl (st_iconst (by decide)) ?_
    obtain ⟨b_22, hb_23, h⟩ := h
    rw [hb_23]
    obtain ⟨h_24, h⟩ := h
    obtain ⟨h_25, h⟩ := h
    refine ru_go (t := (267, [some (.inr (some a0)), some (.inl x1), some (.inl x2), some (.inl x3), some (.inl x4), some (.inl x5), some (.inl x6), some (.inl x7), some (.inl x8), some (.inl x9), some (.inl x10)], [], sm_putI M b_22 (x6).toNatClampNeg 1)) sm_a159_266 rfl rfl (st_iast h_24 h_25) ?_
    refine ru_go (t := (321, [some (.inr (some a0)), some (.inl x1), some (.inl x2), some (.inl x3), some (.inl x4), some (.inl x5), some (.inl x6), some (.inl x7), some (.inl x8), some (.inl x9), some (.inl x10)], [], sm_putI M b_22 (x6).toNatClampNeg 1)) sm_a159_267 rfl rfl (st_goto (pc := 267) (by decide)) ?_
    exact h
theorem bb_159_321 {d : Nat} {M : sm_M} {Q : Option sm_V → sm_M → Prop} {a0 : Nat} {x1 : Int32} {x2 : Int32} {x3 : Int32} {x4 : Int32} {x5 : Int32} {x6 : Int32} {x7 : Int32} {x8 : Int32} {z9 : Option sm_V} {z10 : Option sm_V}
    (h : sm_K M a0 = 39 ∧ sm_Run (d + 1) 159 340 [some (.inr (some a0)), some (.inl x1), some (.inl x2), some (.inl x3), some (.inl x4), some (.inl x5), some (.inl x6), some (.inl x7), some (.inl 0), z9, z10] [] (sm_putI (sm_putI M a0 50 x6) a0 32 ((sm_I (sm_putI M a0 50 x6) a0 32) + 1)) Q) :
    sm_Run (d + 1) 159 321 [some (.inr (some a0)), some (.inl x1), some (.inl x2), some (.inl x3), some (.inl x4), some (.inl x5), some (.inl x6), some (.inl x7), some (.inl x8), z9, z10] [] M Q := by
  refine ru_go (t := (322, [some (.inr (some a0)), some (.inl x1), some (.inl x2), some (.inl x3), some (.inl x4), some (.inl x5), some (.inl x6), some (.inl x7), some (.inl x8), z9, z10], [.inr (some a0)], M)) sm_a159_321 rfl rfl rfl ?_
  refine ru_go (t := (324, [some (.inr (some a0)), some (.inl x1), some (.inl x2), some (.inl x3), some (.inl x4), some (.inl x5), some (.inl x6), some (.inl x7), some (.inl x8), z9, z10], [.inl x6, .inr (some a0)], M)) sm_a159_322 rfl rfl rfl ?_
  obtain ⟨h_1, h⟩ := h
  refine ru_go (t := (327, [some (.inr (some a0)), some (.inl x1), some (.inl x2), some (.inl x3), some (.inl x4), some (.inl x5), some (.inl x6), some (.inl x7), some (.inl x8), z9, z10], [], sm_putI M a0 50 x6)) sm_a159_324 rfl rfl (st_putI h_1 rfl) ?_
  refine ru_go (t := (328, [some (.inr (some a0)), some (.inl x1), some (.inl x2), some (.inl x3), some (.inl x4), some (.inl x5), some (.inl x6), some (.inl x7), some (.inl x8), z9, z10], [.inr (some a0)], sm_putI M a0 50 x6)) sm_a159_327 rfl rfl rfl ?_
  refine ru_go (t := (329, [some (.inr (some a0)), some (.inl x1), some (.inl x2), some (.inl x3), some (.inl x4), some (.inl x5), some (.inl x6), some (.inl x7), some (.inl x8), z9, z10], [.inr (some a0), .inr (some a0)], sm_putI M a0 50 x6)) sm_a159_328 rfl rfl rfl ?_
  refine ru_go (t := (332, [some (.inr (some a0)), some (.inl x1), some (.inl x2), some (.inl x3), some (.inl x4), some (.inl x5), some (.inl x6), some (.inl x7), some (.inl x8), z9, z10], [.inl (sm_I (sm_putI M a0 50 x6) a0 32), .inr (some a0)], sm_putI M a0 50 x6)) sm_a159_329 rfl rfl (st_getI h_1 rfl) ?_
  refine ru_go (t := (333, [some (.inr (some a0)), some (.inl x1), some (.inl x2), some (.inl x3), some (.inl x4), some (.inl x5), some (.inl x6), some (.inl x7), some (.inl x8), z9, z10], [.inl 1, .inl (sm_I (sm_putI M a0 50 x6) a0 32), .inr (some a0)], sm_putI M a0 50 x6)) sm_a159_332 rfl rfl (st_iconst (by decide)) ?_
  refine ru_go (t := (334, [some (.inr (some a0)), some (.inl x1), some (.inl x2), some (.inl x3), some (.inl x4), some (.inl x5), some (.inl x6), some (.inl x7), some (.inl x8), z9, z10], [.inl ((sm_I (sm_putI M a0 50 x6) a0 32) + 1), .inr (some a0)], sm_putI M a0 50 x6)) sm_a159_333 rfl rfl rfl ?_
  refine ru_go (t := (337, [some (.inr (some a0)), some (.inl x1), some (.inl x2), some (.inl x3), some (.inl x4), some (.inl x5), some (.inl x6), some (.inl x7), some (.inl x8), z9, z10], [], sm_putI (sm_putI M a0 50 x6) a0 32 ((sm_I (sm_putI M a0 50 x6) a0 32) + 1))) sm_a159_334 rfl rfl (st_putI h_1 rfl) ?_
  refine ru_go (t := (338, [some (.inr (some a0)), some (.inl x1), some (.inl x2), some (.inl x3), some (.inl x4), some (.inl x5), some (.inl x6), some (.inl x7), some (.inl x8), z9, z10], [.inl 0], sm_putI (sm_putI M a0 50 x6) a0 32 ((sm_I (sm_putI M a0 50 x6) a0 32) + 1))) sm_a159_337 rfl rfl (st_iconst (by decide)) ?_
  refine ru_go (t := (340, [some (.inr (some a0)), some (.inl x1), some (.inl x2), some (.inl x3), some (.inl x4), some (.inl x5), some (.inl x6), some (.inl x7), some (.inl 0), z9, z10], [], sm_putI (sm_putI M a0 50 x6) a0 32 ((sm_I (sm_putI M a0 50 x6) a0 32) + 1))) sm_a159_338 rfl rfl rfl ?_
  exact h
theorem bb_159_340 {d : Nat} {M : sm_M} {Q : Option sm_V → sm_M → Prop} {a0 : Nat} {x1 : Int32} {x2 : Int32} {x3 : Int32} {x4 : Int32} {x5 : Int32} {x6 : Int32} {x7 : Int32} {x8 : Int32} {z9 : Option sm_V} {z10 : Option sm_V}
    (h : ((6 ≤ x8 → sm_K M a0 = 39 ∧ ∃ b_3, sm_R M a0 43 = some b_3 ∧ sm_iA M b_3 ∧ sm_in_ M b_3 x6 ∧ ((¬ (sm_I M b_3 (x6).toNatClampNeg) = 0 → Q (some (.inl 0)) M) ∧ (¬ (¬ (sm_I M b_3 (x6).toNatClampNeg) = 0) → Q (some (.inl 1)) M))) ∧ (¬ (6 ≤ x8) → sm_K M a0 = 39 ∧ ∃ b_9, sm_R M a0 43 = some b_9 ∧ sm_iA M b_9 ∧ sm_in_ M b_9 x6 ∧ (((sm_I M b_9 (x6).toNatClampNeg) = 0 → ∃ b_14, sm_R M a0 19 = some b_14 ∧ sm_iA M b_14 ∧ sm_in_ M b_14 x8 ∧ sm_wA 1 M b_14 ∧ sm_Run (d + 1) 159 340 [some (.inr (some a0)), some (.inl x1), some (.inl x2), some (.inl x3), some (.inl x4), some (.inl x5), some (.inl x6), some (.inl x7), some (.inl (x8 + 1)), z9, z10] [] (sm_putI M b_14 (x8).toNatClampNeg (sm_I M b_14 (x8).toNatClampNeg)) Q) ∧ (¬ ((sm_I M b_9 (x6).toNatClampNeg) = 0) → ((x8 = x1 → ∃ b_20, sm_R M a0 19 = some b_20 ∧ sm_iA M b_20 ∧ sm_in_ M b_20 x8 ∧ sm_wA 1 M b_20 ∧ sm_Run (d + 1) 159 340 [some (.inr (some a0)), some (.inl x1), some (.inl x2), some (.inl x3), some (.inl x4), some (.inl x5), some (.inl x6), some (.inl x7), some (.inl (x8 + 1)), z9, z10] [] (sm_putI M b_20 (x8).toNatClampNeg (sm_I M b_20 (x8).toNatClampNeg)) Q) ∧ (¬ (x8 = x1) → ∃ b_25, sm_R M a0 19 = some b_25 ∧ sm_wA 1 M b_25 ∧ sm_in_ M b_25 x8 ∧ sm_Run (d + 1) 159 340 [some (.inr (some a0)), some (.inl x1), some (.inl x2), some (.inl x3), some (.inl x4), some (.inl x5), some (.inl x6), some (.inl x7), some (.inl (x8 + 1)), z9, z10] [] (sm_putI M b_25 (x8).toNatClampNeg 0) Q))))))) :
    sm_Run (d + 1) 159 340 [some (.inr (some a0)), some (.inl x1), some (.inl x2), some (.inl x3), some (.inl x4), some (.inl x5), some (.inl x6), some (.inl x7), some (.inl x8), z9, z10] [] M Q := by
  refine ru_go (t := (342, [some (.inr (some a0)), some (.inl x1), some (.inl x2), some (.inl x3), some (.inl x4), some (.inl x5), some (.inl x6), some (.inl x7), some (.inl x8), z9, z10], [.inl x8], M)) sm_a159_340 rfl rfl rfl ?_
  refine ru_go (t := (344, [some (.inr (some a0)), some (.inl x1), some (.inl x2), some (.inl x3), some (.inl x4), some (.inl x5), some (.inl x6), some (.inl x7), some (.inl x8), z9, z10], [.inl 6, .inl x8], M)) sm_a159_342 rfl rfl (st_bipush (by decide)) ?_
  refine ru_icmp (pc := 344) (p := 387) (p2 := 347) sm_a159_344 (by decide) rfl ⟨fun hc_1 => ?_, fun hc_1 => ?_⟩
  · have h := h.1 hc_1
    refine ru_go (t := (388, [some (.inr (some a0)), some (.inl x1), some (.inl x2), some (.inl x3), some (.inl x4), some (.inl x5), some (.inl x6), some (.inl x7), some (.inl x8), z9, z10], [.inr (some a0)], M)) sm_a159_387 rfl rfl rfl ?_
    obtain ⟨h_2, h⟩ := h
    refine ru_go (t := (391, [some (.inr (some a0)), some (.inl x1), some (.inl x2), some (.inl x3), some (.inl x4), some (.inl x5), some (.inl x6), some (.inl x7), some (.inl x8), z9, z10], [.inr (sm_R M a0 43)], M)) sm_a159_388 rfl rfl (st_getR h_2 rfl rfl) ?_
    refine ru_go (t := (393, [some (.inr (some a0)), some (.inl x1), some (.inl x2), some (.inl x3), some (.inl x4), some (.inl x5), some (.inl x6), some (.inl x7), some (.inl x8), z9, z10], [.inl x6, .inr (sm_R M a0 43)], M)) sm_a159_391 rfl rfl rfl ?_
    obtain ⟨b_3, hb_4, h⟩ := h
    rw [hb_4]
    obtain ⟨h_5, h⟩ := h
    obtain ⟨h_6, h⟩ := h
    refine ru_go (t := (394, [some (.inr (some a0)), some (.inl x1), some (.inl x2), some (.inl x3), some (.inl x4), some (.inl x5), some (.inl x6), some (.inl x7), some (.inl x8), z9, z10], [.inl (sm_I M b_3 (x6).toNatClampNeg)], M)) sm_a159_393 rfl rfl (st_iald h_5 h_6) ?_
    refine ru_if (pc := 394) (p := 401) (p2 := 397) sm_a159_394 (by decide) rfl ⟨fun hc_7 => ?_, fun hc_7 => ?_⟩
    · have h := h.1 hc_7
      refine ru_go (t := (402, [some (.inr (some a0)), some (.inl x1), some (.inl x2), some (.inl x3), some (.inl x4), some (.inl x5), some (.inl x6), some (.inl x7), some (.inl x8), z9, z10], [.inl 0], M)) sm_a159_401 rfl rfl (st_iconst (by decide)) ?_
      exact ru_ret sm_a159_402 (sm_rvz rfl (by decide)) h
    · have h := h.2 hc_7
      refine ru_go (t := (398, [some (.inr (some a0)), some (.inl x1), some (.inl x2), some (.inl x3), some (.inl x4), some (.inl x5), some (.inl x6), some (.inl x7), some (.inl x8), z9, z10], [.inl 1], M)) sm_a159_397 rfl rfl (st_iconst (by decide)) ?_
      refine ru_go (t := (402, [some (.inr (some a0)), some (.inl x1), some (.inl x2), some (.inl x3), some (.inl x4), some (.inl x5), some (.inl x6), some (.inl x7), some (.inl x8), z9, z10], [.inl 1], M)) sm_a159_398 rfl rfl (st_goto (pc := 398) (by decide)) ?_
      exact ru_ret sm_a159_402 (sm_rvz rfl (by decide)) h
  · have h := h.2 hc_1
    refine ru_go (t := (348, [some (.inr (some a0)), some (.inl x1), some (.inl x2), some (.inl x3), some (.inl x4), some (.inl x5), some (.inl x6), some (.inl x7), some (.inl x8), z9, z10], [.inr (some a0)], M)) sm_a159_347 rfl rfl rfl ?_
    obtain ⟨h_8, h⟩ := h
    refine ru_go (t := (351, [some (.inr (some a0)), some (.inl x1), some (.inl x2), some (.inl x3), some (.inl x4), some (.inl x5), some (.inl x6), some (.inl x7), some (.inl x8), z9, z10], [.inr (sm_R M a0 19)], M)) sm_a159_348 rfl rfl (st_getR h_8 rfl rfl) ?_
    refine ru_go (t := (353, [some (.inr (some a0)), some (.inl x1), some (.inl x2), some (.inl x3), some (.inl x4), some (.inl x5), some (.inl x6), some (.inl x7), some (.inl x8), z9, z10], [.inl x8, .inr (sm_R M a0 19)], M)) sm_a159_351 rfl rfl rfl ?_
    refine ru_go (t := (354, [some (.inr (some a0)), some (.inl x1), some (.inl x2), some (.inl x3), some (.inl x4), some (.inl x5), some (.inl x6), some (.inl x7), some (.inl x8), z9, z10], [.inr (some a0), .inl x8, .inr (sm_R M a0 19)], M)) sm_a159_353 rfl rfl rfl ?_
    refine ru_go (t := (357, [some (.inr (some a0)), some (.inl x1), some (.inl x2), some (.inl x3), some (.inl x4), some (.inl x5), some (.inl x6), some (.inl x7), some (.inl x8), z9, z10], [.inr (sm_R M a0 43), .inl x8, .inr (sm_R M a0 19)], M)) sm_a159_354 rfl rfl (st_getR h_8 rfl rfl) ?_
    refine ru_go (t := (359, [some (.inr (some a0)), some (.inl x1), some (.inl x2), some (.inl x3), some (.inl x4), some (.inl x5), some (.inl x6), some (.inl x7), some (.inl x8), z9, z10], [.inl x6, .inr (sm_R M a0 43), .inl x8, .inr (sm_R M a0 19)], M)) sm_a159_357 rfl rfl rfl ?_
    obtain ⟨b_9, hb_10, h⟩ := h
    rw [hb_10]
    obtain ⟨h_11, h⟩ := h
    obtain ⟨h_12, h⟩ := h
    refine ru_go (t := (360, [some (.inr (some a0)), some (.inl x1), some (.inl x2), some (.inl x3), some (.inl x4), some (.inl x5), some (.inl x6), some (.inl x7), some (.inl x8), z9, z10], [.inl (sm_I M b_9 (x6).toNatClampNeg), .inl x8, .inr (sm_R M a0 19)], M)) sm_a159_359 rfl rfl (st_iald h_11 h_12) ?_
    refine ru_if (pc := 360) (p := 373) (p2 := 363) sm_a159_360 (by decide) rfl ⟨fun hc_13 => ?_, fun hc_13 => ?_⟩
    · have h := h.1 hc_13
      refine ru_go (t := (374, [some (.inr (some a0)), some (.inl x1), some (.inl x2), some (.inl x3), some (.inl x4), some (.inl x5), some (.inl x6), some (.inl x7), some (.inl x8), z9, z10], [.inr (some a0), .inl x8, .inr (sm_R M a0 19)], M)) sm_a159_373 rfl rfl rfl ?_
      refine ru_go (t := (377, [some (.inr (some a0)), some (.inl x1), some (.inl x2), some (.inl x3), some (.inl x4), some (.inl x5), some (.inl x6), some (.inl x7), some (.inl x8), z9, z10], [.inr (sm_R M a0 19), .inl x8, .inr (sm_R M a0 19)], M)) sm_a159_374 rfl rfl (st_getR h_8 rfl rfl) ?_
      refine ru_go (t := (379, [some (.inr (some a0)), some (.inl x1), some (.inl x2), some (.inl x3), some (.inl x4), some (.inl x5), some (.inl x6), some (.inl x7), some (.inl x8), z9, z10], [.inl x8, .inr (sm_R M a0 19), .inl x8, .inr (sm_R M a0 19)], M)) sm_a159_377 rfl rfl rfl ?_
      obtain ⟨b_14, hb_15, h⟩ := h
      rw [hb_15]
      obtain ⟨h_16, h⟩ := h
      obtain ⟨h_17, h⟩ := h
      refine ru_go (t := (380, [some (.inr (some a0)), some (.inl x1), some (.inl x2), some (.inl x3), some (.inl x4), some (.inl x5), some (.inl x6), some (.inl x7), some (.inl x8), z9, z10], [.inl (sm_I M b_14 (x8).toNatClampNeg), .inl x8, .inr (some b_14)], M)) sm_a159_379 rfl rfl (st_iald h_16 h_17) ?_
      obtain ⟨h_18, h⟩ := h
      refine ru_go (t := (381, [some (.inr (some a0)), some (.inl x1), some (.inl x2), some (.inl x3), some (.inl x4), some (.inl x5), some (.inl x6), some (.inl x7), some (.inl x8), z9, z10], [], sm_putI M b_14 (x8).toNatClampNeg (sm_I M b_14 (x8).toNatClampNeg))) sm_a159_380 rfl rfl (st_iast h_18 h_17) ?_
      refine ru_go (t := (384, [some (.inr (some a0)), some (.inl x1), some (.inl x2), some (.inl x3), some (.inl x4), some (.inl x5), some (.inl x6), some (.inl x7), some (.inl (x8 + 1)), z9, z10], [], sm_putI M b_14 (x8).toNatClampNeg (sm_I M b_14 (x8).toNatClampNeg))) sm_a159_381 rfl rfl (st_iinc rfl (by decide)) ?_
      refine ru_go (t := (340, [some (.inr (some a0)), some (.inl x1), some (.inl x2), some (.inl x3), some (.inl x4), some (.inl x5), some (.inl x6), some (.inl x7), some (.inl (x8 + 1)), z9, z10], [], sm_putI M b_14 (x8).toNatClampNeg (sm_I M b_14 (x8).toNatClampNeg))) sm_a159_384 rfl rfl (st_goto (pc := 384) (by decide)) ?_
      exact h
    · have h := h.2 hc_13
      refine ru_go (t := (365, [some (.inr (some a0)), some (.inl x1), some (.inl x2), some (.inl x3), some (.inl x4), some (.inl x5), some (.inl x6), some (.inl x7), some (.inl x8), z9, z10], [.inl x8, .inl x8, .inr (sm_R M a0 19)], M)) sm_a159_363 rfl rfl rfl ?_
      refine ru_go (t := (366, [some (.inr (some a0)), some (.inl x1), some (.inl x2), some (.inl x3), some (.inl x4), some (.inl x5), some (.inl x6), some (.inl x7), some (.inl x8), z9, z10], [.inl x1, .inl x8, .inl x8, .inr (sm_R M a0 19)], M)) sm_a159_365 rfl rfl rfl ?_
      refine ru_icmp (pc := 366) (p := 373) (p2 := 369) sm_a159_366 (by decide) rfl ⟨fun hc_19 => ?_, fun hc_19 => ?_⟩
      · have h := h.1 hc_19
        refine ru_go (t := (374, [some (.inr (some a0)), some (.inl x1), some (.inl x2), some (.inl x3), some (.inl x4), some (.inl x5), some (.inl x6), some (.inl x7), some (.inl x8), z9, z10], [.inr (some a0), .inl x8, .inr (sm_R M a0 19)], M)) sm_a159_373 rfl rfl rfl ?_
        refine ru_go (t := (377, [some (.inr (some a0)), some (.inl x1), some (.inl x2), some (.inl x3), some (.inl x4), some (.inl x5), some (.inl x6), some (.inl x7), some (.inl x8), z9, z10], [.inr (sm_R M a0 19), .inl x8, .inr (sm_R M a0 19)], M)) sm_a159_374 rfl rfl (st_getR h_8 rfl rfl) ?_
        refine ru_go (t := (379, [some (.inr (some a0)), some (.inl x1), some (.inl x2), some (.inl x3), some (.inl x4), some (.inl x5), some (.inl x6), some (.inl x7), some (.inl x8), z9, z10], [.inl x8, .inr (sm_R M a0 19), .inl x8, .inr (sm_R M a0 19)], M)) sm_a159_377 rfl rfl rfl ?_
        obtain ⟨b_20, hb_21, h⟩ := h
        rw [hb_21]
        obtain ⟨h_22, h⟩ := h
        obtain ⟨h_23, h⟩ := h
        refine ru_go (t := (380, [some (.inr (some a0)), some (.inl x1), some (.inl x2), some (.inl x3), some (.inl x4), some (.inl x5), some (.inl x6), some (.inl x7), some (.inl x8), z9, z10], [.inl (sm_I M b_20 (x8).toNatClampNeg), .inl x8, .inr (some b_20)], M)) sm_a159_379 rfl rfl (st_iald h_22 h_23) ?_
        obtain ⟨h_24, h⟩ := h
        refine ru_go (t := (381, [some (.inr (some a0)), some (.inl x1), some (.inl x2), some (.inl x3), some (.inl x4), some (.inl x5), some (.inl x6), some (.inl x7), some (.inl x8), z9, z10], [], sm_putI M b_20 (x8).toNatClampNeg (sm_I M b_20 (x8).toNatClampNeg))) sm_a159_380 rfl rfl (st_iast h_24 h_23) ?_
        refine ru_go (t := (384, [some (.inr (some a0)), some (.inl x1), some (.inl x2), some (.inl x3), some (.inl x4), some (.inl x5), some (.inl x6), some (.inl x7), some (.inl (x8 + 1)), z9, z10], [], sm_putI M b_20 (x8).toNatClampNeg (sm_I M b_20 (x8).toNatClampNeg))) sm_a159_381 rfl rfl (st_iinc rfl (by decide)) ?_
        refine ru_go (t := (340, [some (.inr (some a0)), some (.inl x1), some (.inl x2), some (.inl x3), some (.inl x4), some (.inl x5), some (.inl x6), some (.inl x7), some (.inl (x8 + 1)), z9, z10], [], sm_putI M b_20 (x8).toNatClampNeg (sm_I M b_20 (x8).toNatClampNeg))) sm_a159_384 rfl rfl (st_goto (pc := 384) (by decide)) ?_
        exact h
      · have h := h.2 hc_19
        refine ru_go (t := (370, [some (.inr (some a0)), some (.inl x1), some (.inl x2), some (.inl x3), some (.inl x4), some (.inl x5), some (.inl x6), some (.inl x7), some (.inl x8), z9, z10], [.inl 0, .inl x8, .inr (sm_R M a0 19)], M)) sm_a159_369 rfl rfl (st_iconst (by decide)) ?_
        refine ru_go (t := (380, [some (.inr (some a0)), some (.inl x1), some (.inl x2), some (.inl x3), some (.inl x4), some (.inl x5), some (.inl x6), some (.inl x7), some (.inl x8), z9, z10], [.inl 0, .inl x8, .inr (sm_R M a0 19)], M)) sm_a159_370 rfl rfl (st_goto (pc := 370) (by decide)) ?_
        obtain ⟨b_25, hb_26, h⟩ := h
        rw [hb_26]
        obtain ⟨h_27, h⟩ := h
        obtain ⟨h_28, h⟩ := h
        refine ru_go (t := (381, [some (.inr (some a0)), some (.inl x1), some (.inl x2), some (.inl x3), some (.inl x4), some (.inl x5), some (.inl x6), some (.inl x7), some (.inl x8), z9, z10], [], sm_putI M b_25 (x8).toNatClampNeg 0)) sm_a159_380 rfl rfl (st_iast h_27 h_28) ?_
        refine ru_go (t := (384, [some (.inr (some a0)), some (.inl x1), some (.inl x2), some (.inl x3), some (.inl x4), some (.inl x5), some (.inl x6), some (.inl x7), some (.inl (x8 + 1)), z9, z10], [], sm_putI M b_25 (x8).toNatClampNeg 0)) sm_a159_381 rfl rfl (st_iinc rfl (by decide)) ?_
        refine ru_go (t := (340, [some (.inr (some a0)), some (.inl x1), some (.inl x2), some (.inl x3), some (.inl x4), some (.inl x5), some (.inl x6), some (.inl x7), some (.inl (x8 + 1)), z9, z10], [], sm_putI M b_25 (x8).toNatClampNeg 0)) sm_a159_384 rfl rfl (st_goto (pc := 384) (by decide)) ?_
        exact h
