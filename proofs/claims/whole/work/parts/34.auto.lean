/-! Numbers as they are read and written; literals as numbers -/
def nE (n : Nat) : Int32 := nI n - 1
theorem li_0 : (0 : Int32) = nI 0 := rfl
theorem li_1 : (1 : Int32) = nI 1 := rfl
theorem li_2 : (2 : Int32) = nI 2 := rfl
theorem li_3 : (3 : Int32) = nI 3 := rfl
theorem li_4 : (4 : Int32) = nI 4 := rfl
theorem li_5 : (5 : Int32) = nI 5 := rfl
theorem li_6 : (6 : Int32) = nI 6 := rfl
theorem li_7 : (7 : Int32) = nI 7 := rfl
theorem li_8 : (8 : Int32) = nI 8 := rfl
theorem li_9 : (9 : Int32) = nI 9 := rfl
theorem li_10 : (10 : Int32) = nI 10 := rfl
theorem li_11 : (11 : Int32) = nI 11 := rfl
theorem li_12 : (12 : Int32) = nI 12 := rfl
theorem li_13 : (13 : Int32) = nI 13 := rfl
theorem li_14 : (14 : Int32) = nI 14 := rfl
theorem li_16 : (16 : Int32) = nI 16 := rfl
theorem li_18 : (18 : Int32) = nI 18 := rfl
theorem li_20 : (20 : Int32) = nI 20 := rfl
theorem li_32 : (32 : Int32) = nI 32 := rfl
theorem li_36 : (36 : Int32) = nI 36 := rfl
theorem li_40 : (40 : Int32) = nI 40 := rfl
theorem li_50 : (50 : Int32) = nI 50 := rfl
theorem li_60 : (60 : Int32) = nI 60 := rfl
theorem li_64 : (64 : Int32) = nI 64 := rfl
theorem li_100 : (100 : Int32) = nI 100 := rfl
theorem li_127 : (127 : Int32) = nI 127 := rfl
theorem li_128 : (128 : Int32) = nI 128 := rfl
theorem li_200 : (200 : Int32) = nI 200 := rfl
theorem li_255 : (255 : Int32) = nI 255 := rfl
theorem li_256 : (256 : Int32) = nI 256 := rfl
theorem li_290 : (290 : Int32) = nI 290 := rfl
theorem li_300 : (300 : Int32) = nI 300 := rfl
theorem li_336 : (336 : Int32) = nI 336 := rfl
theorem li_512 : (512 : Int32) = nI 512 := rfl
theorem li_513 : (513 : Int32) = nI 513 := rfl
theorem li_515 : (515 : Int32) = nI 515 := rfl
theorem li_660 : (660 : Int32) = nI 660 := rfl
theorem li_2048 : (2048 : Int32) = nI 2048 := rfl
theorem li_16385 : (16385 : Int32) = nI 16385 := rfl
theorem li_32768 : (32768 : Int32) = nI 32768 := rfl
theorem li_32774 : (32774 : Int32) = nI 32774 := rfl
theorem li_32776 : (32776 : Int32) = nI 32776 := rfl
theorem li_33280 : (33280 : Int32) = nI 33280 := rfl
theorem li_49153 : (49153 : Int32) = nI 49153 := rfl
theorem li_m1 : (-1 : Int32) = nE 0 := rfl
theorem eK_16 : (∃ ci, 16 = 4 + 3 * ci) = True := eq_true ⟨4, rfl⟩
theorem eK_19 : (∃ ci, 19 = 4 + 3 * ci) = True := eq_true ⟨5, rfl⟩
theorem eK_25 : (∃ ci, 25 = 4 + 3 * ci) = True := eq_true ⟨7, rfl⟩
theorem eK_28 : (∃ ci, 28 = 4 + 3 * ci) = True := eq_true ⟨8, rfl⟩
theorem eK_31 : (∃ ci, 31 = 4 + 3 * ci) = True := eq_true ⟨9, rfl⟩
theorem eK_34 : (∃ ci, 34 = 4 + 3 * ci) = True := eq_true ⟨10, rfl⟩
section RD
variable {g : pG} {P : pP} {M : sm_M}
theorem rI_0 (h : RC g P M) : sm_I M (g.1 0 0) 0 = nI (s_ P 0 0) := rc_Is h (c := 0) (by decide) rfl
theorem rI_60 (h : RC g P M) {i : Nat} (hi : i < 6) : sm_I M (g.1 3 i) 0 = nI (s_ P 60 i) := rc_Is h (c := 3) hi rfl
theorem rI_61 (h : RC g P M) {i : Nat} (hi : i < 6) : sm_I M (g.1 3 i) 1 = nI (s_ P 61 i) := rc_Is h (c := 3) hi rfl
theorem rI_63 (h : RC g P M) {i : Nat} (hi : i < 6) : sm_I M (g.1 3 i) 3 = nE (s_ P 63 i) := rc_Is h (c := 3) hi rfl
theorem rI_64 (h : RC g P M) {i : Nat} (hi : i < 6) : sm_I M (g.1 3 i) 4 = nI (s_ P 64 i) := rc_Is h (c := 3) hi rfl
theorem rI_65 (h : RC g P M) {i : Nat} (hi : i < 6) : sm_I M (g.1 3 i) 5 = nI (s_ P 65 i) := rc_Is h (c := 3) hi rfl
theorem rI_66 (h : RC g P M) {i : Nat} (hi : i < 6) : sm_I M (g.1 3 i) 6 = nI (s_ P 66 i) := rc_Is h (c := 3) hi rfl
theorem rI_67 (h : RC g P M) {i : Nat} (hi : i < 6) : sm_I M (g.1 3 i) 7 = nI (s_ P 67 i) := rc_Is h (c := 3) hi rfl
theorem rI_68 (h : RC g P M) {i : Nat} (hi : i < 6) : sm_I M (g.1 3 i) 8 = nI (s_ P 68 i) := rc_Is h (c := 3) hi rfl
theorem rI_69 (h : RC g P M) {i : Nat} (hi : i < 6) : sm_I M (g.1 3 i) 9 = nI (s_ P 69 i) := rc_Is h (c := 3) hi rfl
theorem rI_80 (h : RC g P M) {i : Nat} (hi : i < 6) : sm_I M (g.1 4 i) 0 = nI (s_ P 80 i) := rc_Is h (c := 4) hi rfl
theorem rI_81 (h : RC g P M) {i : Nat} (hi : i < 6) : sm_I M (g.1 4 i) 1 = nI (s_ P 81 i) := rc_Is h (c := 4) hi rfl
theorem rI_82 (h : RC g P M) {i : Nat} (hi : i < 6) : sm_I M (g.1 4 i) 2 = nI (s_ P 82 i) := rc_Is h (c := 4) hi rfl
theorem rI_83 (h : RC g P M) {i : Nat} (hi : i < 6) : sm_I M (g.1 4 i) 3 = nI (s_ P 83 i) := rc_Is h (c := 4) hi rfl
theorem rI_84 (h : RC g P M) {i : Nat} (hi : i < 6) : sm_I M (g.1 4 i) 4 = nI (s_ P 84 i) := rc_Is h (c := 4) hi rfl
theorem rI_86 (h : RC g P M) {i : Nat} (hi : i < 6) : sm_I M (g.1 4 i) 6 = nI (s_ P 86 i) := rc_Is h (c := 4) hi rfl
theorem rI_89 (h : RC g P M) {i : Nat} (hi : i < 6) : sm_I M (g.1 4 i) 9 = nE (s_ P 89 i) := rc_Is h (c := 4) hi rfl
theorem rI_90 (h : RC g P M) {i : Nat} (hi : i < 6) : sm_I M (g.1 4 i) 10 = nI (s_ P 90 i) := rc_Is h (c := 4) hi rfl
theorem rI_91 (h : RC g P M) {i : Nat} (hi : i < 6) : sm_I M (g.1 4 i) 11 = nI (s_ P 91 i) := rc_Is h (c := 4) hi rfl
theorem rI_100 (h : RC g P M) {i : Nat} (hi : g.2.1 5 i = true) : sm_I M (g.1 5 i) 0 = nI (s_ P 100 i) := rc_I h (c := 5) hi rfl
theorem rI_101 (h : RC g P M) {i : Nat} (hi : g.2.1 5 i = true) : sm_I M (g.1 5 i) 1 = nI (s_ P 101 i) := rc_I h (c := 5) hi rfl
theorem rI_102 (h : RC g P M) {i : Nat} (hi : g.2.1 5 i = true) : sm_I M (g.1 5 i) 2 = nI (s_ P 102 i) := rc_I h (c := 5) hi rfl
theorem rI_103 (h : RC g P M) {i : Nat} (hi : g.2.1 5 i = true) : sm_I M (g.1 5 i) 3 = nI (s_ P 103 i) := rc_I h (c := 5) hi rfl
theorem rI_104 (h : RC g P M) {i : Nat} (hi : g.2.1 5 i = true) : sm_I M (g.1 5 i) 4 = nI (s_ P 104 i) := rc_I h (c := 5) hi rfl
theorem rI_105 (h : RC g P M) {i : Nat} (hi : g.2.1 5 i = true) : sm_I M (g.1 5 i) 5 = nI (s_ P 105 i) := rc_I h (c := 5) hi rfl
theorem rI_122 (h : RC g P M) : sm_I M (g.1 6 0) 2 = nI (s_ P 122 0) := rc_Is h (c := 6) (by decide) rfl
theorem rI_123 (h : RC g P M) : sm_I M (g.1 6 0) 3 = nI (s_ P 123 0) := rc_Is h (c := 6) (by decide) rfl
theorem rI_125 (h : RC g P M) : sm_I M (g.1 6 0) 5 = nI (s_ P 125 0) := rc_Is h (c := 6) (by decide) rfl
theorem rI_126 (h : RC g P M) : sm_I M (g.1 6 0) 6 = nI (s_ P 126 0) := rc_Is h (c := 6) (by decide) rfl
theorem rI_127 (h : RC g P M) : sm_I M (g.1 6 0) 7 = nI (s_ P 127 0) := rc_Is h (c := 6) (by decide) rfl
theorem rI_128 (h : RC g P M) : sm_I M (g.1 6 0) 8 = nI (s_ P 128 0) := rc_Is h (c := 6) (by decide) rfl
theorem rI_140 (h : RC g P M) {i : Nat} (hi : i < 66) : sm_I M (g.1 7 i) 0 = nE (s_ P 140 i) := rc_Is h (c := 7) hi rfl
theorem rI_141 (h : RC g P M) {i : Nat} (hi : i < 66) : sm_I M (g.1 7 i) 1 = nI (s_ P 141 i) := rc_Is h (c := 7) hi rfl
theorem rI_142 (h : RC g P M) {i : Nat} (hi : i < 66) : sm_I M (g.1 7 i) 2 = nI (s_ P 142 i) := rc_Is h (c := 7) hi rfl
theorem rI_145 (h : RC g P M) {i : Nat} (hi : i < 66) : sm_I M (g.1 7 i) 5 = nI (s_ P 145 i) := rc_Is h (c := 7) hi rfl
theorem rI_146 (h : RC g P M) {i : Nat} (hi : i < 66) : sm_I M (g.1 7 i) 6 = nI (s_ P 146 i) := rc_Is h (c := 7) hi rfl
theorem rI_147 (h : RC g P M) {i : Nat} (hi : i < 66) : sm_I M (g.1 7 i) 7 = nI (s_ P 147 i) := rc_Is h (c := 7) hi rfl
theorem rI_160 (h : RC g P M) {i : Nat} (hi : i < 6) : sm_I M (g.1 8 i) 0 = nI (s_ P 160 i) := rc_Is h (c := 8) hi rfl
theorem rI_161 (h : RC g P M) {i : Nat} (hi : i < 6) : sm_I M (g.1 8 i) 1 = nI (s_ P 161 i) := rc_Is h (c := 8) hi rfl
theorem rI_162 (h : RC g P M) {i : Nat} (hi : i < 6) : sm_I M (g.1 8 i) 2 = nI (s_ P 162 i) := rc_Is h (c := 8) hi rfl
theorem rI_164 (h : RC g P M) {i : Nat} (hi : i < 6) : sm_I M (g.1 8 i) 4 = nI (s_ P 164 i) := rc_Is h (c := 8) hi rfl
theorem rI_180 (h : RC g P M) {i : Nat} (hi : g.2.1 9 i = true) : sm_I M (g.1 9 i) 0 = nI (s_ P 180 i) := rc_I h (c := 9) hi rfl
theorem rI_181 (h : RC g P M) {i : Nat} (hi : g.2.1 9 i = true) : sm_I M (g.1 9 i) 1 = nI (s_ P 181 i) := rc_I h (c := 9) hi rfl
theorem rI_182 (h : RC g P M) {i : Nat} (hi : g.2.1 9 i = true) : sm_I M (g.1 9 i) 2 = nI (s_ P 182 i) := rc_I h (c := 9) hi rfl
theorem rI_183 (h : RC g P M) {i : Nat} (hi : g.2.1 9 i = true) : sm_I M (g.1 9 i) 3 = nI (s_ P 183 i) := rc_I h (c := 9) hi rfl
theorem rI_184 (h : RC g P M) {i : Nat} (hi : g.2.1 9 i = true) : sm_I M (g.1 9 i) 4 = nI (s_ P 184 i) := rc_I h (c := 9) hi rfl
theorem rI_185 (h : RC g P M) {i : Nat} (hi : g.2.1 9 i = true) : sm_I M (g.1 9 i) 5 = nI (s_ P 185 i) := rc_I h (c := 9) hi rfl
theorem rI_186 (h : RC g P M) {i : Nat} (hi : g.2.1 9 i = true) : sm_I M (g.1 9 i) 6 = nE (s_ P 186 i) := rc_I h (c := 9) hi rfl
theorem rI_187 (h : RC g P M) {i : Nat} (hi : g.2.1 9 i = true) : sm_I M (g.1 9 i) 7 = nI (s_ P 187 i) := rc_I h (c := 9) hi rfl
theorem rI_200 (h : RC g P M) {i : Nat} (hi : g.2.1 10 i = true) : sm_I M (g.1 10 i) 0 = nI (s_ P 200 i) := rc_I h (c := 10) hi rfl
theorem rI_202 (h : RC g P M) {i : Nat} (hi : g.2.1 10 i = true) : sm_I M (g.1 10 i) 2 = nI (s_ P 202 i) := rc_I h (c := 10) hi rfl
theorem rI_203 (h : RC g P M) {i : Nat} (hi : g.2.1 10 i = true) : sm_I M (g.1 10 i) 3 = nI (s_ P 203 i) := rc_I h (c := 10) hi rfl
theorem rI_205 (h : RC g P M) {i : Nat} (hi : g.2.1 10 i = true) : sm_I M (g.1 10 i) 5 = nI (s_ P 205 i) := rc_I h (c := 10) hi rfl
theorem rI_206 (h : RC g P M) {i : Nat} (hi : g.2.1 10 i = true) : sm_I M (g.1 10 i) 6 = nI (s_ P 206 i) := rc_I h (c := 10) hi rfl
theorem rI_207 (h : RC g P M) {i : Nat} (hi : g.2.1 10 i = true) : sm_I M (g.1 10 i) 7 = nI (s_ P 207 i) := rc_I h (c := 10) hi rfl
theorem rI_208 (h : RC g P M) {i : Nat} (hi : g.2.1 10 i = true) : sm_I M (g.1 10 i) 8 = nI (s_ P 208 i) := rc_I h (c := 10) hi rfl
theorem rI_209 (h : RC g P M) {i : Nat} (hi : g.2.1 10 i = true) : sm_I M (g.1 10 i) 9 = nI (s_ P 209 i) := rc_I h (c := 10) hi rfl
theorem rI_210 (h : RC g P M) {i : Nat} (hi : g.2.1 10 i = true) : sm_I M (g.1 10 i) 10 = nI (s_ P 210 i) := rc_I h (c := 10) hi rfl
theorem rI_211 (h : RC g P M) {i : Nat} (hi : g.2.1 10 i = true) : sm_I M (g.1 10 i) 11 = nI (s_ P 211 i) := rc_I h (c := 10) hi rfl
theorem rI_212 (h : RC g P M) {i : Nat} (hi : g.2.1 10 i = true) : sm_I M (g.1 10 i) 12 = nI (s_ P 212 i) := rc_I h (c := 10) hi rfl
theorem rI_228 (h : RC g P M) : sm_I M (g.1 11 0) 8 = nI (s_ P 228 0) := rc_Is h (c := 11) (by decide) rfl
theorem rI_229 (h : RC g P M) : sm_I M (g.1 11 0) 9 = nE (s_ P 229 0) := rc_Is h (c := 11) (by decide) rfl
theorem kK_0 (h : RC g P M) {i : Nat} (hl : g.2.1 0 i = true) : sm_K M (g.1 0 i) = 3 := rc_K h hl
theorem kK_1 (h : RC g P M) {i : Nat} (hl : g.2.1 1 i = true) : sm_K M (g.1 1 i) = 6 := rc_K h hl
theorem kK_2 (h : RC g P M) {i : Nat} (hl : g.2.1 2 i = true) : sm_K M (g.1 2 i) = 9 := rc_K h hl
theorem kK_3 (h : RC g P M) {i : Nat} (hl : g.2.1 3 i = true) : sm_K M (g.1 3 i) = 12 := rc_K h hl
theorem kK_4 (h : RC g P M) {i : Nat} (hl : g.2.1 4 i = true) : sm_K M (g.1 4 i) = 15 := rc_K h hl
theorem kK_5 (h : RC g P M) {i : Nat} (hl : g.2.1 5 i = true) : sm_K M (g.1 5 i) = 18 := rc_K h hl
theorem kK_6 (h : RC g P M) {i : Nat} (hl : g.2.1 6 i = true) : sm_K M (g.1 6 i) = 21 := rc_K h hl
theorem kK_7 (h : RC g P M) {i : Nat} (hl : g.2.1 7 i = true) : sm_K M (g.1 7 i) = 24 := rc_K h hl
theorem kK_8 (h : RC g P M) {i : Nat} (hl : g.2.1 8 i = true) : sm_K M (g.1 8 i) = 27 := rc_K h hl
theorem kK_9 (h : RC g P M) {i : Nat} (hl : g.2.1 9 i = true) : sm_K M (g.1 9 i) = 30 := rc_K h hl
theorem kK_10 (h : RC g P M) {i : Nat} (hl : g.2.1 10 i = true) : sm_K M (g.1 10 i) = 33 := rc_K h hl
theorem kK_11 (h : RC g P M) {i : Nat} (hl : g.2.1 11 i = true) : sm_K M (g.1 11 i) = 36 := rc_K h hl
theorem kK_20 (h : RC g P M) {i : Nat} (hl : g.2.1 20 i = true) : sm_K M (g.1 20 i) = 2 := rc_K h hl
theorem kK_21 (h : RC g P M) {i : Nat} (hl : g.2.1 21 i = true) : sm_K M (g.1 21 i) = 5 := rc_K h hl
theorem kK_22 (h : RC g P M) {i : Nat} (hl : g.2.1 22 i = true) : sm_K M (g.1 22 i) = 25 := rc_K h hl
theorem kK_23 (h : RC g P M) {i : Nat} (hl : g.2.1 23 i = true) : sm_K M (g.1 23 i) = 8 := rc_K h hl
theorem kK_24 (h : RC g P M) {i : Nat} (hl : g.2.1 24 i = true) : sm_K M (g.1 24 i) = 11 := rc_K h hl
theorem kK_25 (h : RC g P M) {i : Nat} (hl : g.2.1 25 i = true) : sm_K M (g.1 25 i) = 16 := rc_K h hl
theorem kK_26 (h : RC g P M) {i : Nat} (hl : g.2.1 26 i = true) : sm_K M (g.1 26 i) = 19 := rc_K h hl
theorem kK_27 (h : RC g P M) {i : Nat} (hl : g.2.1 27 i = true) : sm_K M (g.1 27 i) = 20 := rc_K h hl
theorem kK_28 (h : RC g P M) {i : Nat} (hl : g.2.1 28 i = true) : sm_K M (g.1 28 i) = 17 := rc_K h hl
theorem kK_29 (h : RC g P M) {i : Nat} (hl : g.2.1 29 i = true) : sm_K M (g.1 29 i) = 14 := rc_K h hl
theorem kK_30 (h : RC g P M) {i : Nat} (hl : g.2.1 30 i = true) : sm_K M (g.1 30 i) = 26 := rc_K h hl
theorem kK_31 (h : RC g P M) {i : Nat} (hl : g.2.1 31 i = true) : sm_K M (g.1 31 i) = 29 := rc_K h hl
theorem kK_32 (h : RC g P M) {i : Nat} (hl : g.2.1 32 i = true) : sm_K M (g.1 32 i) = 32 := rc_K h hl
theorem kK_33 (h : RC g P M) {i : Nat} (hl : g.2.1 33 i = true) : sm_K M (g.1 33 i) = 28 := rc_K h hl
theorem kK_34 (h : RC g P M) {i : Nat} (hl : g.2.1 34 i = true) : sm_K M (g.1 34 i) = 34 := rc_K h hl
theorem kK_35 (h : RC g P M) {i : Nat} (hl : g.2.1 35 i = true) : sm_K M (g.1 35 i) = 31 := rc_K h hl
theorem kK_36 (h : RC g P M) {i : Nat} (hl : g.2.1 36 i = true) : sm_K M (g.1 36 i) = 23 := rc_K h hl
theorem kI_20 (h : RC g P M) {i : Nat} (hl : g.2.1 20 i = true) : sm_iA M (g.1 20 i) = True := eq_true (rc_iA h hl (by decide))
theorem kW_20 (h : RC g P M) {i : Nat} (hl : g.2.1 20 i = true) : sm_wA 0 M (g.1 20 i) = True := eq_true (rc_wA h hl (by decide))
theorem kI_21 (h : RC g P M) {i : Nat} (hl : g.2.1 21 i = true) : sm_iA M (g.1 21 i) = True := eq_true (rc_iA h hl (by decide))
theorem kW_21 (h : RC g P M) {i : Nat} (hl : g.2.1 21 i = true) : sm_wA 0 M (g.1 21 i) = True := eq_true (rc_wA h hl (by decide))
theorem kI_23 (h : RC g P M) {i : Nat} (hl : g.2.1 23 i = true) : sm_iA M (g.1 23 i) = True := eq_true (rc_iA h hl (by decide))
theorem kW_23 (h : RC g P M) {i : Nat} (hl : g.2.1 23 i = true) : sm_wA 0 M (g.1 23 i) = True := eq_true (rc_wA h hl (by decide))
theorem kI_24 (h : RC g P M) {i : Nat} (hl : g.2.1 24 i = true) : sm_iA M (g.1 24 i) = True := eq_true (rc_iA h hl (by decide))
theorem kW_24 (h : RC g P M) {i : Nat} (hl : g.2.1 24 i = true) : sm_wA 0 M (g.1 24 i) = True := eq_true (rc_wA h hl (by decide))
theorem kI_27 (h : RC g P M) {i : Nat} (hl : g.2.1 27 i = true) : sm_iA M (g.1 27 i) = True := eq_true (rc_iA h hl (by decide))
theorem kW_27 (h : RC g P M) {i : Nat} (hl : g.2.1 27 i = true) : sm_wA 0 M (g.1 27 i) = True := eq_true (rc_wA h hl (by decide))
theorem kI_28 (h : RC g P M) {i : Nat} (hl : g.2.1 28 i = true) : sm_iA M (g.1 28 i) = True := eq_true (rc_iA h hl (by decide))
theorem kW_28 (h : RC g P M) {i : Nat} (hl : g.2.1 28 i = true) : sm_wA 0 M (g.1 28 i) = True := eq_true (rc_wA h hl (by decide))
theorem kI_29 (h : RC g P M) {i : Nat} (hl : g.2.1 29 i = true) : sm_iA M (g.1 29 i) = True := eq_true (rc_iA h hl (by decide))
theorem kW_29 (h : RC g P M) {i : Nat} (hl : g.2.1 29 i = true) : sm_wA 0 M (g.1 29 i) = True := eq_true (rc_wA h hl (by decide))
theorem kI_30 (h : RC g P M) {i : Nat} (hl : g.2.1 30 i = true) : sm_iA M (g.1 30 i) = True := eq_true (rc_iA h hl (by decide))
theorem kW_30 (h : RC g P M) {i : Nat} (hl : g.2.1 30 i = true) : sm_wA 0 M (g.1 30 i) = True := eq_true (rc_wA h hl (by decide))
theorem kI_31 (h : RC g P M) {i : Nat} (hl : g.2.1 31 i = true) : sm_iA M (g.1 31 i) = True := eq_true (rc_iA h hl (by decide))
theorem kW_31 (h : RC g P M) {i : Nat} (hl : g.2.1 31 i = true) : sm_wA 0 M (g.1 31 i) = True := eq_true (rc_wA h hl (by decide))
theorem kI_32 (h : RC g P M) {i : Nat} (hl : g.2.1 32 i = true) : sm_iA M (g.1 32 i) = True := eq_true (rc_iA h hl (by decide))
theorem kW_32 (h : RC g P M) {i : Nat} (hl : g.2.1 32 i = true) : sm_wA 0 M (g.1 32 i) = True := eq_true (rc_wA h hl (by decide))
theorem kI_36 (h : RC g P M) {i : Nat} (hl : g.2.1 36 i = true) : sm_iA M (g.1 36 i) = True := eq_true (rc_iA h hl (by decide))
theorem kW_36 (h : RC g P M) {i : Nat} (hl : g.2.1 36 i = true) : sm_wA 0 M (g.1 36 i) = True := eq_true (rc_wA h hl (by decide))
theorem kL_20 (h : RC g P M) {i : Nat} (hl : g.2.1 20 i = true) : sm_L M (g.1 20 i) = 20 := rc_L h hl (by decide)
theorem kN_20 (h : RC g P M) {i p : Nat} (hl : g.2.1 20 i = true) (hp : p < 20) : sm_in_ M (g.1 20 i) (nI p) = True := eq_true (rc_in h hl (by decide) hp (by decide))
theorem kL_22 (h : RC g P M) {i : Nat} (hl : g.2.1 22 i = true) : sm_L M (g.1 22 i) = 60 := rc_L h hl (by decide)
theorem kN_22 (h : RC g P M) {i p : Nat} (hl : g.2.1 22 i = true) (hp : p < 60) : sm_in_ M (g.1 22 i) (nI p) = True := eq_true (rc_in h hl (by decide) hp (by decide))
theorem kL_25 (h : RC g P M) {i : Nat} (hl : g.2.1 25 i = true) : sm_L M (g.1 25 i) = 6 := rc_L h hl (by decide)
theorem kN_25 (h : RC g P M) {i p : Nat} (hl : g.2.1 25 i = true) (hp : p < 6) : sm_in_ M (g.1 25 i) (nI p) = True := eq_true (rc_in h hl (by decide) hp (by decide))
theorem kL_26 (h : RC g P M) {i : Nat} (hl : g.2.1 26 i = true) : sm_L M (g.1 26 i) = 6 := rc_L h hl (by decide)
theorem kN_26 (h : RC g P M) {i p : Nat} (hl : g.2.1 26 i = true) (hp : p < 6) : sm_in_ M (g.1 26 i) (nI p) = True := eq_true (rc_in h hl (by decide) hp (by decide))
theorem kL_27 (h : RC g P M) {i : Nat} (hl : g.2.1 27 i = true) : sm_L M (g.1 27 i) = 64 := rc_L h hl (by decide)
theorem kN_27 (h : RC g P M) {i p : Nat} (hl : g.2.1 27 i = true) (hp : p < 64) : sm_in_ M (g.1 27 i) (nI p) = True := eq_true (rc_in h hl (by decide) hp (by decide))
theorem kL_28 (h : RC g P M) {i : Nat} (hl : g.2.1 28 i = true) : sm_L M (g.1 28 i) = 64 := rc_L h hl (by decide)
theorem kN_28 (h : RC g P M) {i p : Nat} (hl : g.2.1 28 i = true) (hp : p < 64) : sm_in_ M (g.1 28 i) (nI p) = True := eq_true (rc_in h hl (by decide) hp (by decide))
theorem kL_29 (h : RC g P M) {i : Nat} (hl : g.2.1 29 i = true) : sm_L M (g.1 29 i) = 64 := rc_L h hl (by decide)
theorem kN_29 (h : RC g P M) {i p : Nat} (hl : g.2.1 29 i = true) (hp : p < 64) : sm_in_ M (g.1 29 i) (nI p) = True := eq_true (rc_in h hl (by decide) hp (by decide))
theorem kL_30 (h : RC g P M) {i : Nat} (hl : g.2.1 30 i = true) : sm_L M (g.1 30 i) = 50 := rc_L h hl (by decide)
theorem kN_30 (h : RC g P M) {i p : Nat} (hl : g.2.1 30 i = true) (hp : p < 50) : sm_in_ M (g.1 30 i) (nI p) = True := eq_true (rc_in h hl (by decide) hp (by decide))
theorem kL_31 (h : RC g P M) {i : Nat} (hl : g.2.1 31 i = true) : sm_L M (g.1 31 i) = 50 := rc_L h hl (by decide)
theorem kN_31 (h : RC g P M) {i p : Nat} (hl : g.2.1 31 i = true) (hp : p < 50) : sm_in_ M (g.1 31 i) (nI p) = True := eq_true (rc_in h hl (by decide) hp (by decide))
theorem kL_32 (h : RC g P M) {i : Nat} (hl : g.2.1 32 i = true) : sm_L M (g.1 32 i) = 50 := rc_L h hl (by decide)
theorem kN_32 (h : RC g P M) {i p : Nat} (hl : g.2.1 32 i = true) (hp : p < 50) : sm_in_ M (g.1 32 i) (nI p) = True := eq_true (rc_in h hl (by decide) hp (by decide))
theorem kL_33 (h : RC g P M) {i : Nat} (hl : g.2.1 33 i = true) : sm_L M (g.1 33 i) = 6 := rc_L h hl (by decide)
theorem kN_33 (h : RC g P M) {i p : Nat} (hl : g.2.1 33 i = true) (hp : p < 6) : sm_in_ M (g.1 33 i) (nI p) = True := eq_true (rc_in h hl (by decide) hp (by decide))
theorem kL_34 (h : RC g P M) {i : Nat} (hl : g.2.1 34 i = true) : sm_L M (g.1 34 i) = 336 := rc_L h hl (by decide)
theorem kN_34 (h : RC g P M) {i p : Nat} (hl : g.2.1 34 i = true) (hp : p < 336) : sm_in_ M (g.1 34 i) (nI p) = True := eq_true (rc_in h hl (by decide) hp (by decide))
theorem kL_35 (h : RC g P M) {i : Nat} (hl : g.2.1 35 i = true) : sm_L M (g.1 35 i) = 6 := rc_L h hl (by decide)
theorem kN_35 (h : RC g P M) {i p : Nat} (hl : g.2.1 35 i = true) (hp : p < 6) : sm_in_ M (g.1 35 i) (nI p) = True := eq_true (rc_in h hl (by decide) hp (by decide))
theorem kL_24 (h : RC g P M) {i : Nat} (hl : g.2.1 24 i = true) : sm_L M (g.1 24 i) = 660 := rc_L h hl (by decide)
theorem kN_24 (h : RC g P M) {i p : Nat} (hl : g.2.1 24 i = true) (hp : p < 660) : sm_in_ M (g.1 24 i) (nI p) = True := eq_true (rc_in h hl (by decide) hp (by decide))
theorem rd_0_1 (h : RC g P M) : sm_R M (g.1 0 0) 1 = some (g.1 20 0) := h.1.2.1.2.1.1
theorem rd_0_2 (h : RC g P M) : sm_R M (g.1 0 0) 2 = some (g.1 1 0) := h.1.2.1.2.1.2.1
theorem rd_0_3 (h : RC g P M) : sm_R M (g.1 0 0) 3 = some (g.1 11 0) := h.1.2.1.2.1.2.2.1
theorem rd_0_4 (h : RC g P M) : sm_R M (g.1 0 0) 4 = some (g.1 6 0) := h.1.2.1.2.1.2.2.2
theorem rd_11_0 (h : RC g P M) : sm_R M (g.1 11 0) 0 = some (g.1 22 0) := h.1.2.1.2.2.1.1
theorem rd_11_1 (h : RC g P M) : sm_R M (g.1 11 0) 1 = some (g.1 7 66) := h.1.2.1.2.2.1.2.1
theorem rd_11_2 (h : RC g P M) : sm_R M (g.1 11 0) 2 = some (g.1 2 0) := h.1.2.1.2.2.1.2.2.1
theorem rd_11_3 (h : RC g P M) : sm_R M (g.1 11 0) 3 = some (g.1 25 0) := h.1.2.1.2.2.1.2.2.2.1
theorem rd_11_4 (h : RC g P M) : sm_R M (g.1 11 0) 4 = some (g.1 30 0) := h.1.2.1.2.2.1.2.2.2.2.1
theorem rd_11_5 (h : RC g P M) : sm_R M (g.1 11 0) 5 = some (g.1 31 0) := h.1.2.1.2.2.1.2.2.2.2.2.1
theorem rd_11_6 (h : RC g P M) : sm_R M (g.1 11 0) 6 = some (g.1 32 0) := h.1.2.1.2.2.1.2.2.2.2.2.2
theorem rd_2_0 (h : RC g P M) : sm_R M (g.1 2 0) 0 = some (g.1 23 0) := h.1.2.1.2.2.2.1.1
theorem rd_2_2 (h : RC g P M) : sm_R M (g.1 2 0) 2 = some (g.1 24 0) := h.1.2.1.2.2.2.1.2
theorem rd_6_0 (h : RC g P M) : sm_R M (g.1 6 0) 0 = some (g.1 33 0) := h.1.2.1.2.2.2.2.1.1
theorem rd_6_1 (h : RC g P M) : sm_R M (g.1 6 0) 1 = some (g.1 34 0) := h.1.2.1.2.2.2.2.1.2.1
theorem rd_6_4 (h : RC g P M) : sm_R M (g.1 6 0) 4 = some (g.1 9 0) := h.1.2.1.2.2.2.2.1.2.2
theorem rd_22_i (h : RC g P M) {i : Nat} (hi : i < 60) : sm_R M (g.1 22 0) i = some (g.1 7 i) := h.1.2.1.2.2.2.2.2.1 i hi
theorem rd_7_3 (h : RC g P M) {i : Nat} (hi : i < 66) : sm_R M (g.1 7 i) 3 = some (g.1 27 i) := rc_P3 h hi
theorem rd_25_i (h : RC g P M) {i : Nat} (hi : i < 6) : sm_R M (g.1 25 0) i = some (g.1 4 i) := (rc_D h hi).1
theorem rd_4_5 (h : RC g P M) {i : Nat} (hi : i < 6) : sm_R M (g.1 4 i) 5 = some (g.1 26 i) := (rc_D h hi).2.1
theorem rd_4_7 (h : RC g P M) {i : Nat} (hi : i < 6) : sm_R M (g.1 4 i) 7 = some (g.1 28 i) := (rc_D h hi).2.2.1
theorem rd_4_8 (h : RC g P M) {i : Nat} (hi : i < 6) : sm_R M (g.1 4 i) 8 = some (g.1 3 i) := (rc_D h hi).2.2.2.1
theorem rd_4_12 (h : RC g P M) {i : Nat} (hi : i < 6) : sm_R M (g.1 4 i) 12 = some (g.1 7 (60 + i)) := (rc_D h hi).2.2.2.2.1
theorem rd_3_2 (h : RC g P M) {i : Nat} (hi : i < 6) : sm_R M (g.1 3 i) 2 = some (g.1 29 i) := (rc_D h hi).2.2.2.2.2.1
theorem rd_33_i (h : RC g P M) {i : Nat} (hi : i < 6) : sm_R M (g.1 33 0) i = some (g.1 8 i) := (rc_D h hi).2.2.2.2.2.2.1
theorem rd_8_3 (h : RC g P M) {i : Nat} (hi : i < 6) : sm_R M (g.1 8 i) 3 = some (g.1 35 i) := (rc_D h hi).2.2.2.2.2.2.2
theorem rd_1_0 (h : RC g P M) {i : Nat} (hi : g.2.1 1 i = true) : sm_R M (g.1 1 i) 0 = some (g.1 21 i) := (h.1.2.2.1 i hi).1
theorem rd_5_6 (h : RC g P M) {i : Nat} (hi : g.2.1 5 i = true) : sm_R M (g.1 5 i) 6 = some (g.1 1 (1 + i)) := (rc_EB h hi).1
theorem rd_26_i (h : RC g P M) {d i : Nat} (hd : d < 6) (hi : i < s_ P 86 d) : sm_R M (g.1 26 d) i = some (g.1 5 (6 * d + i)) := (rc_E1 h hd hi).2
theorem rd_34_i (h : RC g P M) {t : Nat} (ht : t < s_ P 122 0) : sm_R M (g.1 34 0) t = some (g.1 10 t) := (h.1.2.2.2.2.2.1.2 t ht).2.2.2.1
theorem rd_10_4 (h : RC g P M) {t : Nat} (ht : t < s_ P 122 0) : sm_R M (g.1 10 t) 4 = some (g.1 36 t) := (h.1.2.2.2.2.2.1.2 t ht).2.2.2.2.1
theorem rd_10_1 (h : RC g P M) {t : Nat} (ht : t < s_ P 122 0) : sm_R M (g.1 10 t) 1 = some (g.1 9 (s_ P 213 t)) := (h.1.2.2.2.2.2.1.2 t ht).2.2.2.2.2
theorem rd_35_i (h : RC g P M) {d k : Nat} (hd : d < 6) (hk : k < s_ P 164 d) : sm_R M (g.1 35 d) k = some (g.1 9 (s_ P 166 (10 * d + k))) := ((h.1.2.2.2.2.2.2.1 d hd).2 k hk).2
theorem rd_8_5 (h : RC g P M) {d : Nat} (hd : d < 6) : sm_R M (g.1 8 d) 5 = if s_ P 165 d = 0 then none else some (g.1 10 (s_ P 165 d - 1)) := (h.1.2.2.2.2.2.2.2 d hd).2
theorem lq_10 (h : RC g P M) {t : Nat} (ht : t < s_ P 122 0) : g.2.1 10 t = true ∧ g.2.1 36 t = true ∧ g.2.1 9 (s_ P 213 t) = true := ⟨(h.1.2.2.2.2.2.1.2 t ht).1, (h.1.2.2.2.2.2.1.2 t ht).2.1, (h.1.2.2.2.2.2.1.2 t ht).2.2.1⟩
theorem lq_9 (h : RC g P M) {d k : Nat} (hd : d < 6) (hk : k < s_ P 164 d) : g.2.1 9 (s_ P 166 (10 * d + k)) = true := ((h.1.2.2.2.2.2.2.1 d hd).2 k hk).1
theorem lq_5 (h : RC g P M) {d k : Nat} (hd : d < 6) (hk : k < s_ P 86 d) : g.2.1 5 (6 * d + k) = true := (rc_E1 h hd hk).1
theorem lq_s (h : RC g P M) {d : Nat} (hd : d < 6) : g.2.1 4 d = true ∧ g.2.1 3 d = true ∧ g.2.1 8 d = true ∧ g.2.1 7 (60 + d) = true ∧ g.2.1 26 d = true ∧ g.2.1 28 d = true ∧ g.2.1 29 d = true ∧ g.2.1 35 d = true ∧ 60 + d < 66 := ⟨rc_st h (c := 4) hd, rc_st h (c := 3) hd, rc_st h (c := 8) hd, rc_st h (c := 7) (show 60 + d < 66 by omega), rc_st h (c := 26) hd, rc_st h (c := 28) hd, rc_st h (c := 29) hd, rc_st h (c := 35) hd, by omega⟩
theorem lq_0 (h : RC g P M) : g.2.1 0 0 = true ∧ g.2.1 11 0 = true ∧ g.2.1 6 0 = true ∧ g.2.1 2 0 = true ∧ g.2.1 1 0 = true ∧ g.2.1 7 66 = true ∧ g.2.1 20 0 = true ∧ g.2.1 22 0 = true ∧ g.2.1 25 0 = true ∧ g.2.1 33 0 = true ∧ g.2.1 34 0 = true ∧ g.2.1 30 0 = true ∧ g.2.1 31 0 = true ∧ g.2.1 32 0 = true ∧ g.2.1 24 0 = true ∧ g.2.1 9 0 = true ∧ g.2.1 27 66 = true := ⟨rc_st h (by decide), rc_st h (by decide), rc_st h (by decide), rc_st h (by decide), rc_st h (by decide), h.1.2.1.1.1, rc_st h (by decide), rc_st h (by decide), rc_st h (by decide), rc_st h (by decide), rc_st h (by decide), rc_st h (by decide), rc_st h (by decide), rc_st h (by decide), rc_st h (by decide), rc_st h (by decide), h.1.2.1.1.2⟩
theorem lq_p (h : RC g P M) {j : Nat} (hj : j < 66) : g.2.1 7 j = true ∧ g.2.1 27 j = true := ⟨rc_st h (c := 7) hj, rc_st h (c := 27) hj⟩
theorem rl_7 (h : RC g P M) {j : Nat} (hj : j < 66) : sm_I M (g.1 7 j) 4 = nI (b_ P 7 j).length := (h.2.2.1 j hj).1
theorem rl_64 (h : RC g P M) {j : Nat} (hj : j < 66) : (b_ P 7 j).length ≤ 64 := (h.2.2.1 j hj).2.1
theorem aK_27 (h : RC g P M) {i : Nat} (hl : g.2.1 27 i = true) : (1 ≤ sm_K M (g.1 27 i) ∧ sm_K M (g.1 27 i) % 3 ≠ 0) = True := eq_true (rc_aK h hl (by decide))
theorem aK_28 (h : RC g P M) {i : Nat} (hl : g.2.1 28 i = true) : (1 ≤ sm_K M (g.1 28 i) ∧ sm_K M (g.1 28 i) % 3 ≠ 0) = True := eq_true (rc_aK h hl (by decide))
theorem aK_29 (h : RC g P M) {i : Nat} (hl : g.2.1 29 i = true) : (1 ≤ sm_K M (g.1 29 i) ∧ sm_K M (g.1 29 i) % 3 ≠ 0) = True := eq_true (rc_aK h hl (by decide))
theorem aK_36 (h : RC g P M) {i : Nat} (hl : g.2.1 36 i = true) : (1 ≤ sm_K M (g.1 36 i) ∧ sm_K M (g.1 36 i) % 3 ≠ 0) = True := eq_true (rc_aK h hl (by decide))
theorem r_36 (h : RC g P M) {t : Nat} (ht : t < s_ P 122 0) : sm_L M (g.1 36 t) = (b_ P 36 t).length ∧ (b_ P 36 t).length ≤ 100 ∧ arr M (g.1 36 t) (b_ P 36 t) := h.2.2.2.2.1.2.2.2 t ht
theorem kL_36 (h : RC g P M) {t : Nat} (ht : t < s_ P 122 0) : sm_L M (g.1 36 t) = (b_ P 36 t).length := (r_36 h ht).1
theorem kN_36 (h : RC g P M) {t p : Nat} (ht : t < s_ P 122 0) (hp : p < (b_ P 36 t).length) : sm_in_ M (g.1 36 t) (nI p) = True := eq_true (by unfold sm_in_; rw [nI_toInt (by have := (r_36 h ht).2.1; omega), (r_36 h ht).1]; omega)
theorem kR_36 (h : RC g P M) {t p : Nat} (ht : t < s_ P 122 0) (hp : p < (b_ P 36 t).length) : sm_I M (g.1 36 t) p = nI ((b_ P 36 t).getD p 0) := (r_36 h ht).2.2 p hp
theorem oN {n : Nat} : Int32.ofNat n = nI n := rfl
end RD
section AU
variable {g : pG} {P : pP} {M : sm_M}
theorem nE_I {a b : Nat} (ha : a < 2 ^ 31) (hb : b + 1 < 2 ^ 31) : nE a = nI b ↔ a = b + 1 := by
  unfold nE
  constructor
  · intro h
    have : nI a = nI b + 1 := by rw [← h]; simp
    rw [nI_1, nI_eq ha hb] at this
    exact this
  · rintro rfl
    exact nI_pred b
theorem nI_E {a b : Nat} (ha : a + 1 < 2 ^ 31) (hb : b < 2 ^ 31) : nI a = nE b ↔ b = a + 1 := by
  rw [eq_comm, nE_I hb ha]
theorem nE_E {a b : Nat} (ha : a < 2 ^ 31) (hb : b < 2 ^ 31) : nE a = nE b ↔ a = b := by
  unfold nE
  constructor
  · intro h
    have : nI a - 1 + 1 = nI b - 1 + 1 := by rw [h]
    simp at this
    exact (nI_eq ha hb).mp this
  · rintro rfl; rfl
theorem nE_s (n : Nat) : nE (n + 1) = nI n := nI_pred n
/-- a number is written, its place known by the goal -/
theorem rc_w' {c i k n f : Nat} {v : Int32} (h : RC g P M) (hl : g.2.1 c i = true) (hn : n < 2 ^ 31) (hf : fw c k = true := by rfl) (hv : v = enc c k n := by rfl) (hq : f = 20 * c + k := by rfl) : RC g (pS P f i n) (sm_putI M (g.1 c i) k v) := by
  subst hq; exact rc_w h hl hf hn hv
theorem I_put_c (h : RC g P M) {c i k c' i' j : Nat} {v : Int32} (hl : g.2.1 c i = true) (hl' : g.2.1 c' i' = true) (hc : c' ≠ c) : sm_I (sm_putI M (g.1 c i) k v) (g.1 c' i') j = sm_I M (g.1 c' i') j := I_put_a (rf_ne h.1.1 hl' hl (fun q => hc q.1))
theorem ch_row {a : Nat} {f : Nat → Int32} : sm_Ch (fun b _ => b = a) M (sm_rowI M a f) := ⟨rfl, rfl, rfl, rfl, rfl, rfl, fun b k hb => by
  show sm_u1 (sm_I M) a f b k = sm_I M b k
  unfold sm_u1
  rw [if_neg hb]⟩
theorem I_row {a k : Nat} {f : Nat → Int32} : sm_I (sm_rowI M a f) a k = f k := by
  show sm_u1 (sm_I M) a f a k = f k
  unfold sm_u1
  rw [if_pos rfl]
theorem I_row_ne {a b k : Nat} {f : Nat → Int32} (h : b ≠ a) : sm_I (sm_rowI M a f) b k = sm_I M b k := by
  show sm_u1 (sm_I M) a f b k = sm_I M b k
  unfold sm_u1
  rw [if_neg h]
theorem nE_sub {t g : Nat} (h : g + 1 ≤ t) : nE t - nI g = nI (t - 1 - g) := by
  obtain ⟨t', rfl⟩ : ∃ t', t = t' + 1 := ⟨t - 1, by omega⟩
  rw [nE_s, pk_sub (by omega)]
  rfl
theorem pSc {f i v f' i' v' : Nat} (h : ¬ (f = f' ∧ i = i')) : pS (pS P f i v) f' i' v' = pS (pS P f' i' v') f i v := by
  unfold pS
  congr 1
  funext a b
  show (if a = f' ∧ b = i' then v' else if a = f ∧ b = i then v else P.1 a b) = (if a = f ∧ b = i then v else if a = f' ∧ b = i' then v' else P.1 a b)
  split
  · rename_i q; rw [if_neg (by rintro ⟨rfl, rfl⟩; exact h q)]
  · rfl
theorem getD_takeN {l : List Nat} {i n : Nat} (h : i < n) : (l.take n).getD i 0 = l.getD i 0 := by
  rw [List.getD_eq_getElem?_getD, List.getD_eq_getElem?_getD, List.getElem?_take_of_lt h]
theorem getD_dropN {l : List Nat} {i n : Nat} : (l.drop n).getD i 0 = l.getD (n + i) 0 := by
  rw [List.getD_eq_getElem?_getD, List.getD_eq_getElem?_getD, List.getElem?_drop]
theorem getD_appL {l m : List Nat} {i : Nat} (h : i < l.length) : (l ++ m).getD i 0 = l.getD i 0 := by
  rw [List.getD_eq_getElem?_getD, List.getD_eq_getElem?_getD, List.getElem?_append_left h]
theorem getD_appR {l m : List Nat} {i : Nat} (h : l.length ≤ i) : (l ++ m).getD i 0 = m.getD (i - l.length) 0 := by
  rw [List.getD_eq_getElem?_getD, List.getD_eq_getElem?_getD, List.getElem?_append_right h]
theorem ar_29 (h : RC g P M) {d : Nat} (hd : d < 6) : (b_ P 29 d).length ≤ 64 ∧ arr M (g.1 29 d) (b_ P 29 d) := ⟨(h.2.2.2.2.1.2.2.1 d hd).2.2.1, (h.2.2.2.2.1.2.2.1 d hd).2.2.2⟩
theorem ar_28 (h : RC g P M) {d : Nat} (hd : d < 6) : (b_ P 28 d).length = 64 ∧ arr M (g.1 28 d) (b_ P 28 d) := ⟨(h.2.2.2.2.1.2.2.1 d hd).1, (h.2.2.2.2.1.2.2.1 d hd).2.1⟩
end AU
